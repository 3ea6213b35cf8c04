section
def Lp_J7_fill_53178_5 (x0 : Option Nat) (x1 : Int32) (x3 : Int32) : Nat → Int32 → mv_M Unit
  | 0, _ => mv_fl
  | n + 1, x2 =>
    if x3 ≤ x2 then
      mv_pu ()
    else
      mv_bd (mv_aS x0 x2 x1) fun _ =>
      Lp_J7_fill_53178_5 x0 x1 x3 n (x2 + (1 : Int32))

set_option maxHeartbeats 4000000 in
set_option maxRecDepth 100000 in
theorem sLp_J7_fill_53178_5 (l : Launch) (N0 : Nat) (D : va_G) (dA : Nat → ClassId) (x0 : Option Nat) (x1 : Int32) (x3 : Int32) : ∀ (n : Nat) (x2 : Int32), mv_Sim l N0 D dA RJ7 cJ7_fill_53178 4 0 0 none false mv_rV 5 [(0, mv_vr N0 x0), (1, .int x1), (2, .int x2), (3, .int x3)] [] (Lp_J7_fill_53178_5 x0 x1 x3 n x2) := by
  intro n
  induction n with
  | zero => intro x2; rw [Lp_J7_fill_53178_5]; exact mv_fl_sim
  | succ n ih =>
    intro x2
    rw [Lp_J7_fill_53178_5]
    refine mv_iload_n 2 dJ7_fill_53178_5 rfl rfl rfl ?_
    refine mv_iload_n 3 dJ7_fill_53178_6 rfl rfl rfl ?_
    refine mv_icmp_ge (tgt := 20) dJ7_fill_53178_7 rfl rfl ?_ ?_
    · exact mv_vret dJ7_fill_53178_20
    · refine mv_aload_n 0 dJ7_fill_53178_10 rfl rfl rfl ?_
      refine mv_iload_n 2 dJ7_fill_53178_11 rfl rfl rfl ?_
      refine mv_iload_n 1 dJ7_fill_53178_12 rfl rfl rfl ?_
      refine mv_iast dJ7_fill_53178_13 rfl ?_
      refine mv_iinc (y := (x2 + (1 : Int32))) 2 [0, 1, 3] no_J7 dJ7_fill_53178_14 rfl rfl (by decide) rfl rfl rfl ?_
      refine mv_goto (q := 5) dJ7_fill_53178_17 rfl ?_
      refine mv_sub [1, 2, 0, 3] rfl ?_
      exact ih (x2 + (1 : Int32))

def F_J7_fill_53178 (a0 : Option Nat) (a1 : Int32) : mv_M Unit :=
  mv_bd (mv_aL a0) fun v1 =>
  Lp_J7_fill_53178_5 a0 a1 v1 mv_FU (0 : Int32)

set_option maxHeartbeats 4000000 in
set_option maxRecDepth 100000 in
theorem c_J7_fill_53178 (l : Launch) (N0 : Nat) (D : va_G) (dA : Nat → ClassId) (a0 : Option Nat) (a1 : Int32) : mv_SimM l N0 D dA yJ7_fill_53178 cJ7_fill_53178 4 none 0 0 mv_rV [mv_vr N0 a0, .int a1] (F_J7_fill_53178 a0 a1) := by
  refine mv_SimM_oF (L0 := [(0, mv_vr N0 a0), (1, .int a1)]) false (by decide +kernel) (by cases a0 <;> exact Nat.le_of_ble_eq_true rfl) (by cases a0 <;> rfl) (List.forall_mem_cons.mpr ⟨mv_cat N0 a0, List.forall_mem_cons.mpr ⟨rfl, fun _ h => absurd h List.not_mem_nil⟩⟩) (fun z => by cases z) ?_
  unfold F_J7_fill_53178
  show mv_Sim l N0 D dA RJ7 cJ7_fill_53178 4 0 0 none false mv_rV 0 _ _ _
  refine mv_iconst (v := (0 : Int32)) dJ7_fill_53178_0 (by decide) rfl ?_
  refine mv_istore_n [0, 1] no_J7 dJ7_fill_53178_1 rfl (by decide) rfl rfl rfl ?_
  refine mv_aload_n 1 dJ7_fill_53178_2 rfl rfl rfl ?_
  refine mv_alen dJ7_fill_53178_3 rfl (fun v1 => ?_)
  refine mv_istore_n [0, 1, 2] no_J7 dJ7_fill_53178_4 rfl (by decide) rfl rfl rfl ?_
  refine mv_sub [2, 3, 1, 0] rfl ?_
  exact sLp_J7_fill_53178_5 l N0 D dA a0 a1 v1 mv_FU (0 : Int32)

def J_J9_min_7cf53_10 (s0 : Int32) : mv_M Int32 :=
  mv_pu s0

set_option maxHeartbeats 4000000 in
set_option maxRecDepth 100000 in
theorem sJ_J9_min_7cf53_10 (l : Launch) (N0 : Nat) (D : va_G) (dA : Nat → ClassId) (s0 : Int32) : mv_Sim l N0 D dA RJ9 cJ9_min_7cf53 2 0 0 (some .int) false mv_rI 10 [] [.int s0] (J_J9_min_7cf53_10 s0) := by
  unfold J_J9_min_7cf53_10
  exact mv_iret dJ9_min_7cf53_10

def F_J9_min_7cf53 (a0 : Int32) (a1 : Int32) : mv_M Int32 :=
  if a1 < a0 then
    J_J9_min_7cf53_10 a1
  else
    J_J9_min_7cf53_10 a0

set_option maxHeartbeats 4000000 in
set_option maxRecDepth 100000 in
theorem c_J9_min_7cf53 (l : Launch) (N0 : Nat) (D : va_G) (dA : Nat → ClassId) (a0 : Int32) (a1 : Int32) : mv_SimM l N0 D dA yJ9_min_7cf53 cJ9_min_7cf53 2 (some .int) 0 0 mv_rI [.int a0, .int a1] (F_J9_min_7cf53 a0 a1) := by
  refine mv_SimM_oF (L0 := [(0, .int a0), (1, .int a1)]) false (by decide +kernel) (Nat.le_of_ble_eq_true rfl) rfl (List.forall_mem_cons.mpr ⟨rfl, List.forall_mem_cons.mpr ⟨rfl, fun _ h => absurd h List.not_mem_nil⟩⟩) (fun z => by cases z) ?_
  unfold F_J9_min_7cf53
  show mv_Sim l N0 D dA RJ9 cJ9_min_7cf53 2 0 0 (some .int) false mv_rI 0 _ _ _
  refine mv_iload_n 0 dJ9_min_7cf53_0 rfl rfl rfl ?_
  refine mv_iload_n 1 dJ9_min_7cf53_1 rfl rfl rfl ?_
  refine mv_icmp_gt (tgt := 9) dJ9_min_7cf53_2 rfl rfl ?_ ?_
  · refine mv_iload_n 1 dJ9_min_7cf53_9 rfl rfl rfl ?_
    refine mv_sub [] rfl ?_
    exact sJ_J9_min_7cf53_10 l N0 D dA a1
  · refine mv_iload_n 0 dJ9_min_7cf53_5 rfl rfl rfl ?_
    refine mv_goto (q := 10) dJ9_min_7cf53_6 rfl ?_
    refine mv_sub [] rfl ?_
    exact sJ_J9_min_7cf53_10 l N0 D dA a0

def J_X4_add_39 (a0 : Nat) : mv_M Unit :=
  mv_pu ()

set_option maxHeartbeats 4000000 in
set_option maxRecDepth 100000 in
theorem sJ_X4_add_39 (l : Launch) (N0 : Nat) (D : va_G) (dA : Nat → ClassId) (a0 : Nat) : mv_Sim l N0 D dA RX4 cX4_add 2 0 0 none false mv_rV 39 [(0, mv_vr N0 (some a0))] [] (J_X4_add_39 a0) := by
  unfold J_X4_add_39
  exact mv_vret dX4_add_39

def F_X4_add (a0 : Nat) (a1 : Int32) : mv_M Unit :=
  mv_bd (mv_gI 4 2 1 (some a0)) fun v1 =>
  if v1 < 0 then
    J_X4_add_39 a0
  else
    mv_bd (mv_gI 4 2 1 (some a0)) fun v2 =>
    mv_bd (mv_gR 4 2 0 (some a0)) fun v3 =>
    mv_bd (mv_aL v3) fun v4 =>
    if v4 ≤ v2 then
      J_X4_add_39 a0
    else
      mv_bd (mv_gR 4 2 0 (some a0)) fun v5 =>
      mv_bd (mv_gI 4 2 1 (some a0)) fun v6 =>
      mv_bd (mv_aS v5 v6 a1) fun _ =>
      mv_bd (mv_gI 4 2 1 (some a0)) fun v7 =>
      mv_bd (mv_sI 4 2 1 (some a0) (v7 + (1 : Int32))) fun _ =>
      J_X4_add_39 a0

set_option maxHeartbeats 4000000 in
set_option maxRecDepth 100000 in
theorem c_X4_add (l : Launch) (N0 : Nat) (D : va_G) (dA : Nat → ClassId) (a0 : Nat) (a1 : Int32) : mv_SimM l N0 D dA yX4_add cX4_add 2 none 0 0 mv_rV [.ref (N0 + a0), .int a1] (F_X4_add a0 a1) := by
  refine mv_SimM_of (L0 := [(0, mv_vr N0 (some a0)), (1, .int a1)]) false (by decide +kernel) (Nat.le_of_ble_eq_true rfl) rfl (List.forall_mem_cons.mpr ⟨mv_cat N0 (some a0), List.forall_mem_cons.mpr ⟨rfl, fun _ h => absurd h List.not_mem_nil⟩⟩) (fun z => by cases z) ?_
  unfold F_X4_add
  show mv_Sim l N0 D dA RX4 cX4_add 2 0 0 none false mv_rV 0 _ _ _
  refine mv_aload_n 0 dX4_add_0 rfl rfl rfl ?_
  refine mv_getI fd_X4_1 lk_X4_15 dX4_add_1 rfl (fun v1 => ?_)
  refine mv_if_lt (tgt := 39) dX4_add_4 rfl rfl ?_ ?_
  · refine mv_sub [0] rfl ?_
    exact sJ_X4_add_39 l N0 D dA a0
  · refine mv_aload_n 0 dX4_add_7 rfl rfl rfl ?_
    refine mv_getI fd_X4_1 lk_X4_15 dX4_add_8 rfl (fun v2 => ?_)
    refine mv_aload_n 0 dX4_add_11 rfl rfl rfl ?_
    refine mv_getR fd_X4_0 lk_X4_9 dX4_add_12 rfl (fun v3 => ?_)
    refine mv_alen dX4_add_15 rfl (fun v4 => ?_)
    refine mv_icmp_ge (tgt := 39) dX4_add_16 rfl rfl ?_ ?_
    · refine mv_sub [0] rfl ?_
      exact sJ_X4_add_39 l N0 D dA a0
    · refine mv_aload_n 0 dX4_add_19 rfl rfl rfl ?_
      refine mv_getR fd_X4_0 lk_X4_9 dX4_add_20 rfl (fun v5 => ?_)
      refine mv_aload_n 0 dX4_add_23 rfl rfl rfl ?_
      refine mv_getI fd_X4_1 lk_X4_15 dX4_add_24 rfl (fun v6 => ?_)
      refine mv_iload_n 1 dX4_add_27 rfl rfl rfl ?_
      refine mv_iast dX4_add_28 rfl ?_
      refine mv_aload_n 0 dX4_add_29 rfl rfl rfl ?_
      refine mv_dup dX4_add_30 (mv_cat N0 (some a0)) rfl ?_
      refine mv_getI fd_X4_1 lk_X4_15 dX4_add_31 rfl (fun v7 => ?_)
      refine mv_iconst (v := (1 : Int32)) dX4_add_34 (by decide) rfl ?_
      refine mv_iadd dX4_add_35 rfl ?_
      refine mv_putI fd_X4_1 rfl (tyX4_ok 1 (by decide)) lk_X4_15 dX4_add_36 rfl ?_
      refine mv_sub [0] rfl ?_
      exact sJ_X4_add_39 l N0 D dA a0

def J_X4_isTown_17 (s0 : Int32) : mv_M Int32 :=
  mv_rz s0

set_option maxHeartbeats 4000000 in
set_option maxRecDepth 100000 in
theorem sJ_X4_isTown_17 (l : Launch) (N0 : Nat) (D : va_G) (dA : Nat → ClassId) (s0 : Int32) : mv_Sim l N0 D dA RX4 cX4_isTown 1 0 0 (some .boolean) false mv_rI 17 [] [.int s0] (J_X4_isTown_17 s0) := by
  unfold J_X4_isTown_17
  exact mv_zret dX4_isTown_17

def J_X4_isTown_16 : mv_M Int32 :=
  J_X4_isTown_17 (0 : Int32)

set_option maxHeartbeats 4000000 in
set_option maxRecDepth 100000 in
theorem sJ_X4_isTown_16 (l : Launch) (N0 : Nat) (D : va_G) (dA : Nat → ClassId) : mv_Sim l N0 D dA RX4 cX4_isTown 1 0 0 (some .boolean) false mv_rI 16 [] [] (J_X4_isTown_16) := by
  unfold J_X4_isTown_16
  refine mv_iconst (v := (0 : Int32)) dX4_isTown_16 (by decide) rfl ?_
  refine mv_sub [] rfl ?_
  exact sJ_X4_isTown_17 l N0 D dA (0 : Int32)

def F_X4_isTown (a0 : Int32) : mv_M Int32 :=
  if a0 < (48 : Int32) then
    J_X4_isTown_16
  else
    if (54 : Int32) ≤ a0 then
      J_X4_isTown_16
    else
      J_X4_isTown_17 (1 : Int32)

set_option maxHeartbeats 4000000 in
set_option maxRecDepth 100000 in
theorem c_X4_isTown (l : Launch) (N0 : Nat) (D : va_G) (dA : Nat → ClassId) (a0 : Int32) : mv_SimM l N0 D dA yX4_isTown cX4_isTown 1 (some .boolean) 0 0 mv_rI [.int a0] (F_X4_isTown a0) := by
  refine mv_SimM_of (L0 := [(0, .int a0)]) false (by decide +kernel) (Nat.le_of_ble_eq_true rfl) rfl (List.forall_mem_cons.mpr ⟨rfl, fun _ h => absurd h List.not_mem_nil⟩) (fun z => by cases z) ?_
  unfold F_X4_isTown
  show mv_Sim l N0 D dA RX4 cX4_isTown 1 0 0 (some .boolean) false mv_rI 0 _ _ _
  refine mv_iload_n 0 dX4_isTown_0 rfl rfl rfl ?_
  refine mv_bipush (v := (48 : Int32)) dX4_isTown_1 (by decide) rfl ?_
  refine mv_icmp_lt (tgt := 16) dX4_isTown_3 rfl rfl ?_ ?_
  · refine mv_sub [] rfl ?_
    exact sJ_X4_isTown_16 l N0 D dA
  · refine mv_iload_n 0 dX4_isTown_6 rfl rfl rfl ?_
    refine mv_bipush (v := (54 : Int32)) dX4_isTown_7 (by decide) rfl ?_
    refine mv_icmp_ge (tgt := 16) dX4_isTown_9 rfl rfl ?_ ?_
    · refine mv_sub [] rfl ?_
      exact sJ_X4_isTown_16 l N0 D dA
    · refine mv_iconst (v := (1 : Int32)) dX4_isTown_12 (by decide) rfl ?_
      refine mv_goto (q := 17) dX4_isTown_13 rfl ?_
      refine mv_sub [] rfl ?_
      exact sJ_X4_isTown_17 l N0 D dA (1 : Int32)

def J_X4_signAt_31 (a0 : Nat) (s0 : Int32) : mv_M Int32 :=
  mv_pu s0

set_option maxHeartbeats 4000000 in
set_option maxRecDepth 100000 in
theorem sJ_X4_signAt_31 (l : Launch) (N0 : Nat) (D : va_G) (dA : Nat → ClassId) (a0 : Nat) (s0 : Int32) : mv_Sim l N0 D dA RX4 cX4_signAt 2 0 0 (some .int) false mv_rI 31 [(0, mv_vr N0 (some a0))] [.int s0] (J_X4_signAt_31 a0 s0) := by
  unfold J_X4_signAt_31
  exact mv_iret dX4_signAt_31

def J_X4_signAt_30 (a0 : Nat) : mv_M Int32 :=
  J_X4_signAt_31 a0 (0 : Int32)

set_option maxHeartbeats 4000000 in
set_option maxRecDepth 100000 in
theorem sJ_X4_signAt_30 (l : Launch) (N0 : Nat) (D : va_G) (dA : Nat → ClassId) (a0 : Nat) : mv_Sim l N0 D dA RX4 cX4_signAt 2 0 0 (some .int) false mv_rI 30 [(0, mv_vr N0 (some a0))] [] (J_X4_signAt_30 a0) := by
  unfold J_X4_signAt_30
  refine mv_iconst (v := (0 : Int32)) dX4_signAt_30 (by decide) rfl ?_
  refine mv_sub [0] rfl ?_
  exact sJ_X4_signAt_31 l N0 D dA a0 (0 : Int32)

def F_X4_signAt (a0 : Nat) (a1 : Int32) : mv_M Int32 :=
  if a1 < 0 then
    J_X4_signAt_30 a0
  else
    mv_bd (mv_gI 4 2 1 (some a0)) fun v1 =>
    if v1 ≤ a1 then
      J_X4_signAt_30 a0
    else
      mv_bd (mv_gR 4 2 0 (some a0)) fun v2 =>
      mv_bd (mv_aL v2) fun v3 =>
      if v3 ≤ a1 then
        J_X4_signAt_30 a0
      else
        mv_bd (mv_gR 4 2 0 (some a0)) fun v4 =>
        mv_bd (mv_aI v4 a1) fun v5 =>
        J_X4_signAt_31 a0 v5

set_option maxHeartbeats 4000000 in
set_option maxRecDepth 100000 in
theorem c_X4_signAt (l : Launch) (N0 : Nat) (D : va_G) (dA : Nat → ClassId) (a0 : Nat) (a1 : Int32) : mv_SimM l N0 D dA yX4_signAt cX4_signAt 2 (some .int) 0 0 mv_rI [.ref (N0 + a0), .int a1] (F_X4_signAt a0 a1) := by
  refine mv_SimM_of (L0 := [(0, mv_vr N0 (some a0)), (1, .int a1)]) false (by decide +kernel) (Nat.le_of_ble_eq_true rfl) rfl (List.forall_mem_cons.mpr ⟨mv_cat N0 (some a0), List.forall_mem_cons.mpr ⟨rfl, fun _ h => absurd h List.not_mem_nil⟩⟩) (fun z => by cases z) ?_
  unfold F_X4_signAt
  show mv_Sim l N0 D dA RX4 cX4_signAt 2 0 0 (some .int) false mv_rI 0 _ _ _
  refine mv_iload_n 1 dX4_signAt_0 rfl rfl rfl ?_
  refine mv_if_lt (tgt := 30) dX4_signAt_1 rfl rfl ?_ ?_
  · refine mv_sub [0] rfl ?_
    exact sJ_X4_signAt_30 l N0 D dA a0
  · refine mv_iload_n 1 dX4_signAt_4 rfl rfl rfl ?_
    refine mv_aload_n 0 dX4_signAt_5 rfl rfl rfl ?_
    refine mv_getI fd_X4_1 lk_X4_15 dX4_signAt_6 rfl (fun v1 => ?_)
    refine mv_icmp_ge (tgt := 30) dX4_signAt_9 rfl rfl ?_ ?_
    · refine mv_sub [0] rfl ?_
      exact sJ_X4_signAt_30 l N0 D dA a0
    · refine mv_iload_n 1 dX4_signAt_12 rfl rfl rfl ?_
      refine mv_aload_n 0 dX4_signAt_13 rfl rfl rfl ?_
      refine mv_getR fd_X4_0 lk_X4_9 dX4_signAt_14 rfl (fun v2 => ?_)
      refine mv_alen dX4_signAt_17 rfl (fun v3 => ?_)
      refine mv_icmp_ge (tgt := 30) dX4_signAt_18 rfl rfl ?_ ?_
      · refine mv_sub [0] rfl ?_
        exact sJ_X4_signAt_30 l N0 D dA a0
      · refine mv_aload_n 0 dX4_signAt_21 rfl rfl rfl ?_
        refine mv_getR fd_X4_0 lk_X4_9 dX4_signAt_22 rfl (fun v4 => ?_)
        refine mv_iload_n 1 dX4_signAt_25 rfl rfl rfl ?_
        refine mv_iald dX4_signAt_26 rfl (fun v5 => ?_)
        refine mv_goto (q := 31) dX4_signAt_27 rfl ?_
        refine mv_sub [0] rfl ?_
        exact sJ_X4_signAt_31 l N0 D dA a0 v5

def J_X4_fitsLetters_52 (a0 : Nat) (s0 : Int32) : mv_M Int32 :=
  mv_rz s0

set_option maxHeartbeats 4000000 in
set_option maxRecDepth 100000 in
theorem sJ_X4_fitsLetters_52 (l : Launch) (N0 : Nat) (D : va_G) (dA : Nat → ClassId) (a0 : Nat) (s0 : Int32) : mv_Sim l N0 D dA RX4 cX4_fitsLetters 3 1 21 (some .boolean) false mv_rI 52 [(0, mv_vr N0 (some a0))] [.int s0] (J_X4_fitsLetters_52 a0 s0) := by
  unfold J_X4_fitsLetters_52
  exact mv_zret dX4_fitsLetters_52

def J_X4_fitsLetters_76 (a0 : Nat) (s0 : Int32) : mv_M Int32 :=
  mv_rz s0

set_option maxHeartbeats 4000000 in
set_option maxRecDepth 100000 in
theorem sJ_X4_fitsLetters_76 (l : Launch) (N0 : Nat) (D : va_G) (dA : Nat → ClassId) (a0 : Nat) (s0 : Int32) : mv_Sim l N0 D dA RX4 cX4_fitsLetters 3 1 21 (some .boolean) false mv_rI 76 [(0, mv_vr N0 (some a0))] [.int s0] (J_X4_fitsLetters_76 a0 s0) := by
  unfold J_X4_fitsLetters_76
  exact mv_zret dX4_fitsLetters_76

def J_X4_fitsLetters_75 (a0 : Nat) : mv_M Int32 :=
  J_X4_fitsLetters_76 a0 (0 : Int32)

set_option maxHeartbeats 4000000 in
set_option maxRecDepth 100000 in
theorem sJ_X4_fitsLetters_75 (l : Launch) (N0 : Nat) (D : va_G) (dA : Nat → ClassId) (a0 : Nat) : mv_Sim l N0 D dA RX4 cX4_fitsLetters 3 1 21 (some .boolean) false mv_rI 75 [(0, mv_vr N0 (some a0))] [] (J_X4_fitsLetters_75 a0) := by
  unfold J_X4_fitsLetters_75
  refine mv_iconst (v := (0 : Int32)) dX4_fitsLetters_75 (by decide) rfl ?_
  refine mv_sub [0] rfl ?_
  exact sJ_X4_fitsLetters_76 l N0 D dA a0 (0 : Int32)

def J_X4_fitsLetters_88 (a0 : Nat) (s0 : Int32) : mv_M Int32 :=
  mv_rz s0

set_option maxHeartbeats 4000000 in
set_option maxRecDepth 100000 in
theorem sJ_X4_fitsLetters_88 (l : Launch) (N0 : Nat) (D : va_G) (dA : Nat → ClassId) (a0 : Nat) (s0 : Int32) : mv_Sim l N0 D dA RX4 cX4_fitsLetters 3 1 21 (some .boolean) false mv_rI 88 [(0, mv_vr N0 (some a0))] [.int s0] (J_X4_fitsLetters_88 a0 s0) := by
  unfold J_X4_fitsLetters_88
  exact mv_zret dX4_fitsLetters_88

def F_X4_fitsLetters (a0 : Nat) (a1 : Int32) : mv_M Int32 :=
  mv_bd (mv_rc 4 2 (some a0)) fun i2 => mv_bd (F_X4_signAt i2 a1) fun v1 =>
  mv_bd (mv_rm a1 (4 : Int32)) fun v3 =>
  if v3 = (0 : Int32) then
    mv_bd (F_X4_isTown v1) fun v4 =>
    mv_rz v4
  else
  if v3 = (1 : Int32) then
    if v1 = (62 : Int32) then
      J_X4_fitsLetters_52 a0 (1 : Int32)
    else
      J_X4_fitsLetters_52 a0 (0 : Int32)
  else
  if v3 = (2 : Int32) then
    mv_bd (F_X4_isTown v1) fun v5 =>
    if v5 = 0 then
      J_X4_fitsLetters_75 a0
    else
      mv_bd (mv_rc 4 2 (some a0)) fun i7 => mv_bd (F_X4_signAt i7 (a1 - (2 : Int32))) fun v6 =>
      if v1 = v6 then
        J_X4_fitsLetters_75 a0
      else
        J_X4_fitsLetters_76 a0 (1 : Int32)
  else
  if v1 = (44 : Int32) then
    J_X4_fitsLetters_88 a0 (1 : Int32)
  else
    J_X4_fitsLetters_88 a0 (0 : Int32)

set_option maxHeartbeats 4000000 in
set_option maxRecDepth 100000 in
theorem c_X4_fitsLetters (l : Launch) (N0 : Nat) (D : va_G) (dA : Nat → ClassId) (a0 : Nat) (a1 : Int32) : mv_SimM l N0 D dA yX4_fitsLetters cX4_fitsLetters 3 (some .boolean) 1 21 mv_rI [.ref (N0 + a0), .int a1] (F_X4_fitsLetters a0 a1) := by
  refine mv_SimM_of (L0 := [(0, mv_vr N0 (some a0)), (1, .int a1)]) false (by decide +kernel) (Nat.le_of_ble_eq_true rfl) rfl (List.forall_mem_cons.mpr ⟨mv_cat N0 (some a0), List.forall_mem_cons.mpr ⟨rfl, fun _ h => absurd h List.not_mem_nil⟩⟩) (fun z => by cases z) ?_
  unfold F_X4_fitsLetters
  show mv_Sim l N0 D dA RX4 cX4_fitsLetters 3 1 21 (some .boolean) false mv_rI 0 _ _ _
  refine mv_aload_n 0 dX4_fitsLetters_0 rfl rfl rfl ?_
  refine mv_iload_n 1 dX4_fitsLetters_1 rfl rfl rfl ?_
  refine mv_callVi (st := []) [.int a1] (fun i2 => c_X4_signAt l N0 D dA i2 a1) (T := TX4) rfl (by decide) wc_X4_19 ⟨by decide, by decide⟩ rfl (mv_cs (Nat.le_of_ble_eq_true rfl) (fun _ h => absurd h List.not_mem_nil)) dX4_fitsLetters_2 rfl (fun v1 => ?_)
  refine mv_istore_n [0, 1] no_X4 dX4_fitsLetters_5 rfl (by decide) rfl rfl rfl ?_
  refine mv_iload_n 2 dX4_fitsLetters_6 rfl rfl rfl ?_
  refine mv_iconst (v := (4 : Int32)) dX4_fitsLetters_7 (by decide) rfl ?_
  refine mv_irem dX4_fitsLetters_8 rfl (fun v3 => ?_)
  refine mv_ite (fun hs0 => ?_) (fun hs0 => ?_)
  · refine mv_tabIn (q := 36) dX4_fitsLetters_9 (by rw [hs0]; decide) (by rw [hs0]; decide) (by rw [hs0]; rfl) rfl ?_
    refine mv_iload_n 0 dX4_fitsLetters_36 rfl rfl rfl ?_
    refine mv_callSi (st := []) [.int v1] (c_X4_isTown l N0 D dA v1) wc_X4_27 ⟨by decide, by decide⟩ rfl (mv_cs (Nat.le_of_ble_eq_true rfl) (fun _ h => absurd h List.not_mem_nil)) dX4_fitsLetters_37 rfl (fun v4 => ?_)
    exact mv_zret dX4_fitsLetters_40
  refine mv_ite (fun hs1 => ?_) (fun hs1 => ?_)
  · refine mv_tabIn (q := 41) dX4_fitsLetters_9 (by rw [hs1]; decide) (by rw [hs1]; decide) (by rw [hs1]; rfl) rfl ?_
    refine mv_iload_n 0 dX4_fitsLetters_41 rfl rfl rfl ?_
    refine mv_bipush (v := (62 : Int32)) dX4_fitsLetters_42 (by decide) rfl ?_
    refine mv_icmp_ne (tgt := 51) dX4_fitsLetters_44 rfl rfl ?_ ?_
    · refine mv_iconst (v := (0 : Int32)) dX4_fitsLetters_51 (by decide) rfl ?_
      refine mv_sub [1] rfl ?_
      exact sJ_X4_fitsLetters_52 l N0 D dA a0 (0 : Int32)
    · refine mv_iconst (v := (1 : Int32)) dX4_fitsLetters_47 (by decide) rfl ?_
      refine mv_goto (q := 52) dX4_fitsLetters_48 rfl ?_
      refine mv_sub [1] rfl ?_
      exact sJ_X4_fitsLetters_52 l N0 D dA a0 (1 : Int32)
  refine mv_ite (fun hs2 => ?_) (fun hs2 => ?_)
  · refine mv_tabIn (q := 53) dX4_fitsLetters_9 (by rw [hs2]; decide) (by rw [hs2]; decide) (by rw [hs2]; rfl) rfl ?_
    refine mv_iload_n 0 dX4_fitsLetters_53 rfl rfl rfl ?_
    refine mv_callSi (st := []) [.int v1] (c_X4_isTown l N0 D dA v1) wc_X4_27 ⟨by decide, by decide⟩ rfl (mv_cs (Nat.le_of_ble_eq_true rfl) (fun _ h => absurd h List.not_mem_nil)) dX4_fitsLetters_54 rfl (fun v5 => ?_)
    refine mv_if_eq (tgt := 75) dX4_fitsLetters_57 rfl rfl ?_ ?_
    · refine mv_sub [1] rfl ?_
      exact sJ_X4_fitsLetters_75 l N0 D dA a0
    · refine mv_iload_n 0 dX4_fitsLetters_60 rfl rfl rfl ?_
      refine mv_aload_n 1 dX4_fitsLetters_61 rfl rfl rfl ?_
      refine mv_iload_n 2 dX4_fitsLetters_62 rfl rfl rfl ?_
      refine mv_iconst (v := (2 : Int32)) dX4_fitsLetters_63 (by decide) rfl ?_
      refine mv_isub dX4_fitsLetters_64 rfl ?_
      refine mv_callVi (st := [.int v1]) [.int (a1 - (2 : Int32))] (fun i7 => c_X4_signAt l N0 D dA i7 (a1 - (2 : Int32))) (T := TX4) rfl (by decide) wc_X4_19 ⟨by decide, by decide⟩ rfl (mv_cs (Nat.le_of_ble_eq_true rfl) (List.forall_mem_cons.mpr ⟨rfl, fun _ h => absurd h List.not_mem_nil⟩)) dX4_fitsLetters_65 rfl (fun v6 => ?_)
      refine mv_icmp_eq (tgt := 75) dX4_fitsLetters_68 rfl rfl ?_ ?_
      · refine mv_sub [1] rfl ?_
        exact sJ_X4_fitsLetters_75 l N0 D dA a0
      · refine mv_iconst (v := (1 : Int32)) dX4_fitsLetters_71 (by decide) rfl ?_
        refine mv_goto (q := 76) dX4_fitsLetters_72 rfl ?_
        refine mv_sub [1] rfl ?_
        exact sJ_X4_fitsLetters_76 l N0 D dA a0 (1 : Int32)
  refine mv_tabOut (q := 77) dX4_fitsLetters_9 (by have z0 := lv_neT hs0 (show ((0 : Int32)).toInt = 0 by decide); have z1 := lv_neT hs1 (show ((1 : Int32)).toInt = 1 by decide); have z2 := lv_neT hs2 (show ((2 : Int32)).toInt = 2 by decide); omega) rfl ?_
  refine mv_iload_n 0 dX4_fitsLetters_77 rfl rfl rfl ?_
  refine mv_bipush (v := (44 : Int32)) dX4_fitsLetters_78 (by decide) rfl ?_
  refine mv_icmp_ne (tgt := 87) dX4_fitsLetters_80 rfl rfl ?_ ?_
  · refine mv_iconst (v := (0 : Int32)) dX4_fitsLetters_87 (by decide) rfl ?_
    refine mv_sub [1] rfl ?_
    exact sJ_X4_fitsLetters_88 l N0 D dA a0 (0 : Int32)
  · refine mv_iconst (v := (1 : Int32)) dX4_fitsLetters_83 (by decide) rfl ?_
    refine mv_goto (q := 88) dX4_fitsLetters_84 rfl ?_
    refine mv_sub [1] rfl ?_
    exact sJ_X4_fitsLetters_88 l N0 D dA a0 (1 : Int32)

def J_X4_faultAsLetters_45 (a0 : Nat) (s0 : Int32) : mv_M Int32 :=
  mv_pu s0

set_option maxHeartbeats 4000000 in
set_option maxRecDepth 100000 in
theorem sJ_X4_faultAsLetters_45 (l : Launch) (N0 : Nat) (D : va_G) (dA : Nat → ClassId) (a0 : Nat) (s0 : Int32) : mv_Sim l N0 D dA RX4 cX4_faultAsLetters 2 2 43 (some .int) false mv_rI 45 [(0, mv_vr N0 (some a0))] [.int s0] (J_X4_faultAsLetters_45 a0 s0) := by
  unfold J_X4_faultAsLetters_45
  exact mv_iret dX4_faultAsLetters_45

def Lp_X4_faultAsLetters_2 (a0 : Nat) : Nat → Int32 → mv_M Int32
  | 0, _ => mv_fl
  | n + 1, x1 =>
    mv_bd (mv_gI 4 2 1 (some a0)) fun v1 =>
    if v1 ≤ x1 then
      mv_bd (mv_gI 4 2 1 (some a0)) fun v2 =>
      mv_bd (mv_rm v2 (4 : Int32)) fun v3 =>
      if v3 = (3 : Int32) then
        J_X4_faultAsLetters_45 a0 ((-4) : Int32)
      else
        mv_bd (mv_gI 4 2 1 (some a0)) fun v4 =>
        J_X4_faultAsLetters_45 a0 v4
    else
      mv_bd (mv_rc 4 2 (some a0)) fun i6 => mv_bd (F_X4_fitsLetters i6 x1) fun v5 =>
      if v5 = 0 then
        mv_pu x1
      else
        Lp_X4_faultAsLetters_2 a0 n (x1 + (1 : Int32))

set_option maxHeartbeats 4000000 in
set_option maxRecDepth 100000 in
theorem sLp_X4_faultAsLetters_2 (l : Launch) (N0 : Nat) (D : va_G) (dA : Nat → ClassId) (a0 : Nat) : ∀ (n : Nat) (x1 : Int32), mv_Sim l N0 D dA RX4 cX4_faultAsLetters 2 2 43 (some .int) false mv_rI 2 [(0, mv_vr N0 (some a0)), (1, .int x1)] [] (Lp_X4_faultAsLetters_2 a0 n x1) := by
  intro n
  induction n with
  | zero => intro x1; rw [Lp_X4_faultAsLetters_2]; exact mv_fl_sim
  | succ n ih =>
    intro x1
    rw [Lp_X4_faultAsLetters_2]
    refine mv_iload_n 1 dX4_faultAsLetters_2 rfl rfl rfl ?_
    refine mv_aload_n 0 dX4_faultAsLetters_3 rfl rfl rfl ?_
    refine mv_getI fd_X4_1 lk_X4_15 dX4_faultAsLetters_4 rfl (fun v1 => ?_)
    refine mv_icmp_ge (tgt := 26) dX4_faultAsLetters_7 rfl rfl ?_ ?_
    · refine mv_aload_n 0 dX4_faultAsLetters_26 rfl rfl rfl ?_
      refine mv_getI fd_X4_1 lk_X4_15 dX4_faultAsLetters_27 rfl (fun v2 => ?_)
      refine mv_iconst (v := (4 : Int32)) dX4_faultAsLetters_30 (by decide) rfl ?_
      refine mv_irem dX4_faultAsLetters_31 rfl (fun v3 => ?_)
      refine mv_iconst (v := (3 : Int32)) dX4_faultAsLetters_32 (by decide) rfl ?_
      refine mv_icmp_ne (tgt := 41) dX4_faultAsLetters_33 rfl rfl ?_ ?_
      · refine mv_aload_n 0 dX4_faultAsLetters_41 rfl rfl rfl ?_
        refine mv_getI fd_X4_1 lk_X4_15 dX4_faultAsLetters_42 rfl (fun v4 => ?_)
        refine mv_sub [0] rfl ?_
        exact sJ_X4_faultAsLetters_45 l N0 D dA a0 v4
      · refine mv_bipush (v := ((-4) : Int32)) dX4_faultAsLetters_36 (by decide) rfl ?_
        refine mv_goto (q := 45) dX4_faultAsLetters_38 rfl ?_
        refine mv_sub [0] rfl ?_
        exact sJ_X4_faultAsLetters_45 l N0 D dA a0 ((-4) : Int32)
    · refine mv_aload_n 0 dX4_faultAsLetters_10 rfl rfl rfl ?_
      refine mv_iload_n 1 dX4_faultAsLetters_11 rfl rfl rfl ?_
      refine mv_callVi (st := []) [.int x1] (fun i6 => c_X4_fitsLetters l N0 D dA i6 x1) (T := TX4) rfl (by decide) wc_X4_31 ⟨by decide, by decide⟩ rfl (mv_cs (Nat.le_of_ble_eq_true rfl) (fun _ h => absurd h List.not_mem_nil)) dX4_faultAsLetters_12 rfl (fun v5 => ?_)
      refine mv_if_ne (tgt := 20) dX4_faultAsLetters_15 rfl rfl ?_ ?_
      · refine mv_iinc (y := (x1 + (1 : Int32))) 1 [0] no_X4 dX4_faultAsLetters_20 rfl rfl (by decide) rfl rfl rfl ?_
        refine mv_goto (q := 2) dX4_faultAsLetters_23 rfl ?_
        refine mv_sub [1, 0] rfl ?_
        exact ih (x1 + (1 : Int32))
      · refine mv_iload_n 1 dX4_faultAsLetters_18 rfl rfl rfl ?_
        exact mv_iret dX4_faultAsLetters_19

def F_X4_faultAsLetters (a0 : Nat) : mv_M Int32 :=
  Lp_X4_faultAsLetters_2 a0 mv_FU (0 : Int32)

set_option maxHeartbeats 4000000 in
set_option maxRecDepth 100000 in
theorem c_X4_faultAsLetters (l : Launch) (N0 : Nat) (D : va_G) (dA : Nat → ClassId) (a0 : Nat) : mv_SimM l N0 D dA yX4_faultAsLetters cX4_faultAsLetters 2 (some .int) 2 43 mv_rI [.ref (N0 + a0)] (F_X4_faultAsLetters a0) := by
  refine mv_SimM_of (L0 := [(0, mv_vr N0 (some a0))]) false (by decide +kernel) (Nat.le_of_ble_eq_true rfl) rfl (List.forall_mem_cons.mpr ⟨mv_cat N0 (some a0), fun _ h => absurd h List.not_mem_nil⟩) (fun z => by cases z) ?_
  unfold F_X4_faultAsLetters
  show mv_Sim l N0 D dA RX4 cX4_faultAsLetters 2 2 43 (some .int) false mv_rI 0 _ _ _
  refine mv_iconst (v := (0 : Int32)) dX4_faultAsLetters_0 (by decide) rfl ?_
  refine mv_istore_n [0] no_X4 dX4_faultAsLetters_1 rfl (by decide) rfl rfl rfl ?_
  refine mv_sub [1, 0] rfl ?_
  exact sLp_X4_faultAsLetters_2 l N0 D dA a0 mv_FU (0 : Int32)

def J_X4_readTourSign_24 (s0 : Int32) : mv_M Int32 :=
  mv_pu s0

set_option maxHeartbeats 4000000 in
set_option maxRecDepth 100000 in
theorem sJ_X4_readTourSign_24 (l : Launch) (N0 : Nat) (D : va_G) (dA : Nat → ClassId) (s0 : Int32) : mv_Sim l N0 D dA RX4 cX4_readTourSign 2 1 20 (some .int) false mv_rI 24 [] [.int s0] (J_X4_readTourSign_24 s0) := by
  unfold J_X4_readTourSign_24
  exact mv_iret dX4_readTourSign_24

def J_X4_readTourSign_23 : mv_M Int32 :=
  J_X4_readTourSign_24 ((-1) : Int32)

set_option maxHeartbeats 4000000 in
set_option maxRecDepth 100000 in
theorem sJ_X4_readTourSign_23 (l : Launch) (N0 : Nat) (D : va_G) (dA : Nat → ClassId) : mv_Sim l N0 D dA RX4 cX4_readTourSign 2 1 20 (some .int) false mv_rI 23 [] [] (J_X4_readTourSign_23) := by
  unfold J_X4_readTourSign_23
  refine mv_iconst (v := ((-1) : Int32)) dX4_readTourSign_23 (by decide) rfl ?_
  refine mv_sub [] rfl ?_
  exact sJ_X4_readTourSign_24 l N0 D dA ((-1) : Int32)

def J_X4_readTourSign_40 (s0 : Int32) : mv_M Int32 :=
  mv_pu s0

set_option maxHeartbeats 4000000 in
set_option maxRecDepth 100000 in
theorem sJ_X4_readTourSign_40 (l : Launch) (N0 : Nat) (D : va_G) (dA : Nat → ClassId) (s0 : Int32) : mv_Sim l N0 D dA RX4 cX4_readTourSign 2 1 20 (some .int) false mv_rI 40 [] [.int s0] (J_X4_readTourSign_40 s0) := by
  unfold J_X4_readTourSign_40
  exact mv_iret dX4_readTourSign_40

def J_X4_readTourSign_63 (s0 : Int32) : mv_M Int32 :=
  mv_pu s0

set_option maxHeartbeats 4000000 in
set_option maxRecDepth 100000 in
theorem sJ_X4_readTourSign_63 (l : Launch) (N0 : Nat) (D : va_G) (dA : Nat → ClassId) (s0 : Int32) : mv_Sim l N0 D dA RX4 cX4_readTourSign 2 1 20 (some .int) false mv_rI 63 [] [.int s0] (J_X4_readTourSign_63 s0) := by
  unfold J_X4_readTourSign_63
  exact mv_iret dX4_readTourSign_63

def J_X4_readTourSign_57 : mv_M Int32 :=
  J_X4_readTourSign_63 ((-1) : Int32)

set_option maxHeartbeats 4000000 in
set_option maxRecDepth 100000 in
theorem sJ_X4_readTourSign_57 (l : Launch) (N0 : Nat) (D : va_G) (dA : Nat → ClassId) : mv_Sim l N0 D dA RX4 cX4_readTourSign 2 1 20 (some .int) false mv_rI 57 [] [] (J_X4_readTourSign_57) := by
  unfold J_X4_readTourSign_57
  refine mv_iconst (v := ((-1) : Int32)) dX4_readTourSign_57 (by decide) rfl ?_
  refine mv_goto (q := 63) dX4_readTourSign_58 rfl ?_
  refine mv_sub [] rfl ?_
  exact sJ_X4_readTourSign_63 l N0 D dA ((-1) : Int32)

def J_X4_readTourSign_84 (s0 : Int32) : mv_M Int32 :=
  mv_pu s0

set_option maxHeartbeats 4000000 in
set_option maxRecDepth 100000 in
theorem sJ_X4_readTourSign_84 (l : Launch) (N0 : Nat) (D : va_G) (dA : Nat → ClassId) (s0 : Int32) : mv_Sim l N0 D dA RX4 cX4_readTourSign 2 1 20 (some .int) false mv_rI 84 [] [.int s0] (J_X4_readTourSign_84 s0) := by
  unfold J_X4_readTourSign_84
  exact mv_iret dX4_readTourSign_84

def J_X4_readTourSign_83 : mv_M Int32 :=
  J_X4_readTourSign_84 ((-1) : Int32)

set_option maxHeartbeats 4000000 in
set_option maxRecDepth 100000 in
theorem sJ_X4_readTourSign_83 (l : Launch) (N0 : Nat) (D : va_G) (dA : Nat → ClassId) : mv_Sim l N0 D dA RX4 cX4_readTourSign 2 1 20 (some .int) false mv_rI 83 [] [] (J_X4_readTourSign_83) := by
  unfold J_X4_readTourSign_83
  refine mv_iconst (v := ((-1) : Int32)) dX4_readTourSign_83 (by decide) rfl ?_
  refine mv_sub [] rfl ?_
  exact sJ_X4_readTourSign_84 l N0 D dA ((-1) : Int32)

def F_X4_readTourSign (a0 : Int32) (a1 : Int32) : mv_M Int32 :=
  if a0 = (8 : Int32) then
    if a1 < (48 : Int32) then
      J_X4_readTourSign_23
    else
      if (57 : Int32) < a1 then
        J_X4_readTourSign_23
      else
        J_X4_readTourSign_24 (9 : Int32)
  else
    if a1 = (59 : Int32) then
      if a0 = 0 then
        J_X4_readTourSign_40 ((-1) : Int32)
      else
        J_X4_readTourSign_40 (0 : Int32)
    else
      if a1 = (42 : Int32) then
        if a0 = 0 then
          J_X4_readTourSign_57
        else
          if a0 = (9 : Int32) then
            J_X4_readTourSign_57
          else
            J_X4_readTourSign_63 (8 : Int32)
      else
        mv_bd (F_X4_isTown a1) fun v1 =>
        if v1 = 0 then
          J_X4_readTourSign_83
        else
          if (7 : Int32) ≤ a0 then
            J_X4_readTourSign_83
          else
            J_X4_readTourSign_84 (a0 + (1 : Int32))

set_option maxHeartbeats 4000000 in
set_option maxRecDepth 100000 in
theorem c_X4_readTourSign (l : Launch) (N0 : Nat) (D : va_G) (dA : Nat → ClassId) (a0 : Int32) (a1 : Int32) : mv_SimM l N0 D dA yX4_readTourSign cX4_readTourSign 2 (some .int) 1 20 mv_rI [.int a0, .int a1] (F_X4_readTourSign a0 a1) := by
  refine mv_SimM_of (L0 := [(0, .int a0), (1, .int a1)]) false (by decide +kernel) (Nat.le_of_ble_eq_true rfl) rfl (List.forall_mem_cons.mpr ⟨rfl, List.forall_mem_cons.mpr ⟨rfl, fun _ h => absurd h List.not_mem_nil⟩⟩) (fun z => by cases z) ?_
  unfold F_X4_readTourSign
  show mv_Sim l N0 D dA RX4 cX4_readTourSign 2 1 20 (some .int) false mv_rI 0 _ _ _
  refine mv_iload_n 0 dX4_readTourSign_0 rfl rfl rfl ?_
  refine mv_bipush (v := (8 : Int32)) dX4_readTourSign_1 (by decide) rfl ?_
  refine mv_icmp_ne (tgt := 25) dX4_readTourSign_3 rfl rfl ?_ ?_
  · refine mv_iload_n 1 dX4_readTourSign_25 rfl rfl rfl ?_
    refine mv_bipush (v := (59 : Int32)) dX4_readTourSign_26 (by decide) rfl ?_
    refine mv_icmp_ne (tgt := 41) dX4_readTourSign_28 rfl rfl ?_ ?_
    · refine mv_iload_n 1 dX4_readTourSign_41 rfl rfl rfl ?_
      refine mv_bipush (v := (42 : Int32)) dX4_readTourSign_42 (by decide) rfl ?_
      refine mv_icmp_ne (tgt := 64) dX4_readTourSign_44 rfl rfl ?_ ?_
      · refine mv_iload_n 1 dX4_readTourSign_64 rfl rfl rfl ?_
        refine mv_callSi (st := []) [.int a1] (c_X4_isTown l N0 D dA a1) wc_X4_27 ⟨by decide, by decide⟩ rfl (mv_cs (Nat.le_of_ble_eq_true rfl) (fun _ h => absurd h List.not_mem_nil)) dX4_readTourSign_65 rfl (fun v1 => ?_)
        refine mv_if_eq (tgt := 83) dX4_readTourSign_68 rfl rfl ?_ ?_
        · refine mv_sub [] rfl ?_
          exact sJ_X4_readTourSign_83 l N0 D dA
        · refine mv_iload_n 0 dX4_readTourSign_71 rfl rfl rfl ?_
          refine mv_bipush (v := (7 : Int32)) dX4_readTourSign_72 (by decide) rfl ?_
          refine mv_icmp_ge (tgt := 83) dX4_readTourSign_74 rfl rfl ?_ ?_
          · refine mv_sub [] rfl ?_
            exact sJ_X4_readTourSign_83 l N0 D dA
          · refine mv_iload_n 0 dX4_readTourSign_77 rfl rfl rfl ?_
            refine mv_iconst (v := (1 : Int32)) dX4_readTourSign_78 (by decide) rfl ?_
            refine mv_iadd dX4_readTourSign_79 rfl ?_
            refine mv_goto (q := 84) dX4_readTourSign_80 rfl ?_
            refine mv_sub [] rfl ?_
            exact sJ_X4_readTourSign_84 l N0 D dA (a0 + (1 : Int32))
      · refine mv_iload_n 0 dX4_readTourSign_47 rfl rfl rfl ?_
        refine mv_if_eq (tgt := 57) dX4_readTourSign_48 rfl rfl ?_ ?_
        · refine mv_sub [] rfl ?_
          exact sJ_X4_readTourSign_57 l N0 D dA
        · refine mv_iload_n 0 dX4_readTourSign_51 rfl rfl rfl ?_
          refine mv_bipush (v := (9 : Int32)) dX4_readTourSign_52 (by decide) rfl ?_
          refine mv_icmp_ne (tgt := 61) dX4_readTourSign_54 rfl rfl ?_ ?_
          · refine mv_bipush (v := (8 : Int32)) dX4_readTourSign_61 (by decide) rfl ?_
            refine mv_sub [] rfl ?_
            exact sJ_X4_readTourSign_63 l N0 D dA (8 : Int32)
          · refine mv_sub [] rfl ?_
            exact sJ_X4_readTourSign_57 l N0 D dA
    · refine mv_iload_n 0 dX4_readTourSign_31 rfl rfl rfl ?_
      refine mv_if_ne (tgt := 39) dX4_readTourSign_32 rfl rfl ?_ ?_
      · refine mv_iconst (v := (0 : Int32)) dX4_readTourSign_39 (by decide) rfl ?_
        refine mv_sub [] rfl ?_
        exact sJ_X4_readTourSign_40 l N0 D dA (0 : Int32)
      · refine mv_iconst (v := ((-1) : Int32)) dX4_readTourSign_35 (by decide) rfl ?_
        refine mv_goto (q := 40) dX4_readTourSign_36 rfl ?_
        refine mv_sub [] rfl ?_
        exact sJ_X4_readTourSign_40 l N0 D dA ((-1) : Int32)
  · refine mv_iload_n 1 dX4_readTourSign_6 rfl rfl rfl ?_
    refine mv_bipush (v := (48 : Int32)) dX4_readTourSign_7 (by decide) rfl ?_
    refine mv_icmp_lt (tgt := 23) dX4_readTourSign_9 rfl rfl ?_ ?_
    · refine mv_sub [] rfl ?_
      exact sJ_X4_readTourSign_23 l N0 D dA
    · refine mv_iload_n 1 dX4_readTourSign_12 rfl rfl rfl ?_
      refine mv_bipush (v := (57 : Int32)) dX4_readTourSign_13 (by decide) rfl ?_
      refine mv_icmp_gt (tgt := 23) dX4_readTourSign_15 rfl rfl ?_ ?_
      · refine mv_sub [] rfl ?_
        exact sJ_X4_readTourSign_23 l N0 D dA
      · refine mv_bipush (v := (9 : Int32)) dX4_readTourSign_18 (by decide) rfl ?_
        refine mv_goto (q := 24) dX4_readTourSign_20 rfl ?_
        refine mv_sub [] rfl ?_
        exact sJ_X4_readTourSign_24 l N0 D dA (9 : Int32)

def J_X4_faultAsTours_54 (a0 : Nat) (s0 : Int32) : mv_M Int32 :=
  mv_pu s0

set_option maxHeartbeats 4000000 in
set_option maxRecDepth 100000 in
theorem sJ_X4_faultAsTours_54 (l : Launch) (N0 : Nat) (D : va_G) (dA : Nat → ClassId) (a0 : Nat) (s0 : Int32) : mv_Sim l N0 D dA RX4 cX4_faultAsTours 3 2 41 (some .int) false mv_rI 54 [(0, mv_vr N0 (some a0))] [.int s0] (J_X4_faultAsTours_54 a0 s0) := by
  unfold J_X4_faultAsTours_54
  exact mv_iret dX4_faultAsTours_54

def J_X4_faultAsTours_45 (a0 : Nat) : mv_M Int32 :=
  mv_bd (mv_gI 4 2 1 (some a0)) fun v1 =>
  J_X4_faultAsTours_54 a0 v1

set_option maxHeartbeats 4000000 in
set_option maxRecDepth 100000 in
theorem sJ_X4_faultAsTours_45 (l : Launch) (N0 : Nat) (D : va_G) (dA : Nat → ClassId) (a0 : Nat) : mv_Sim l N0 D dA RX4 cX4_faultAsTours 3 2 41 (some .int) false mv_rI 45 [(0, mv_vr N0 (some a0))] [] (J_X4_faultAsTours_45 a0) := by
  unfold J_X4_faultAsTours_45
  refine mv_aload_n 0 dX4_faultAsTours_45 rfl rfl rfl ?_
  refine mv_getI fd_X4_1 lk_X4_15 dX4_faultAsTours_46 rfl (fun v1 => ?_)
  refine mv_goto (q := 54) dX4_faultAsTours_49 rfl ?_
  refine mv_sub [0] rfl ?_
  exact sJ_X4_faultAsTours_54 l N0 D dA a0 v1

def Lp_X4_faultAsTours_4 (a0 : Nat) : Nat → Int32 → Int32 → mv_M Int32
  | 0, _, _ => mv_fl
  | n + 1, x1, x2 =>
    mv_bd (mv_gI 4 2 1 (some a0)) fun v2 =>
    if v2 ≤ x2 then
      if x1 = 0 then
        J_X4_faultAsTours_45 a0
      else
        if x1 = (8 : Int32) then
          J_X4_faultAsTours_45 a0
        else
          J_X4_faultAsTours_54 a0 ((-4) : Int32)
    else
      mv_bd (mv_rc 4 2 (some a0)) fun i4 => mv_bd (F_X4_signAt i4 x2) fun v3 =>
      mv_bd (F_X4_readTourSign x1 v3) fun v5 =>
      if v5 = ((-1) : Int32) then
        mv_pu x2
      else
        Lp_X4_faultAsTours_4 a0 n v5 (x2 + (1 : Int32))

set_option maxHeartbeats 4000000 in
set_option maxRecDepth 100000 in
theorem sLp_X4_faultAsTours_4 (l : Launch) (N0 : Nat) (D : va_G) (dA : Nat → ClassId) (a0 : Nat) : ∀ (n : Nat) (x1 : Int32) (x2 : Int32), mv_Sim l N0 D dA RX4 cX4_faultAsTours 3 2 41 (some .int) false mv_rI 4 [(0, mv_vr N0 (some a0)), (1, .int x1), (2, .int x2)] [] (Lp_X4_faultAsTours_4 a0 n x1 x2) := by
  intro n
  induction n with
  | zero => intro x1 x2; rw [Lp_X4_faultAsTours_4]; exact mv_fl_sim
  | succ n ih =>
    intro x1 x2
    rw [Lp_X4_faultAsTours_4]
    refine mv_iload_n 2 dX4_faultAsTours_4 rfl rfl rfl ?_
    refine mv_aload_n 0 dX4_faultAsTours_5 rfl rfl rfl ?_
    refine mv_getI fd_X4_1 lk_X4_15 dX4_faultAsTours_6 rfl (fun v2 => ?_)
    refine mv_icmp_ge (tgt := 35) dX4_faultAsTours_9 rfl rfl ?_ ?_
    · refine mv_iload_n 1 dX4_faultAsTours_35 rfl rfl rfl ?_
      refine mv_if_eq (tgt := 45) dX4_faultAsTours_36 rfl rfl ?_ ?_
      · refine mv_sub [0] rfl ?_
        exact sJ_X4_faultAsTours_45 l N0 D dA a0
      · refine mv_iload_n 1 dX4_faultAsTours_39 rfl rfl rfl ?_
        refine mv_bipush (v := (8 : Int32)) dX4_faultAsTours_40 (by decide) rfl ?_
        refine mv_icmp_ne (tgt := 52) dX4_faultAsTours_42 rfl rfl ?_ ?_
        · refine mv_bipush (v := ((-4) : Int32)) dX4_faultAsTours_52 (by decide) rfl ?_
          refine mv_sub [0] rfl ?_
          exact sJ_X4_faultAsTours_54 l N0 D dA a0 ((-4) : Int32)
        · refine mv_sub [0] rfl ?_
          exact sJ_X4_faultAsTours_45 l N0 D dA a0
    · refine mv_iload_n 1 dX4_faultAsTours_12 rfl rfl rfl ?_
      refine mv_aload_n 0 dX4_faultAsTours_13 rfl rfl rfl ?_
      refine mv_iload_n 2 dX4_faultAsTours_14 rfl rfl rfl ?_
      refine mv_callVi (st := [.int x1]) [.int x2] (fun i4 => c_X4_signAt l N0 D dA i4 x2) (T := TX4) rfl (by decide) wc_X4_19 ⟨by decide, by decide⟩ rfl (mv_cs (Nat.le_of_ble_eq_true rfl) (List.forall_mem_cons.mpr ⟨rfl, fun _ h => absurd h List.not_mem_nil⟩)) dX4_faultAsTours_15 rfl (fun v3 => ?_)
      refine mv_callSi (st := []) [.int x1, .int v3] (c_X4_readTourSign l N0 D dA x1 v3) wc_X4_23 ⟨by decide, by decide⟩ rfl (mv_cs (Nat.le_of_ble_eq_true rfl) (fun _ h => absurd h List.not_mem_nil)) dX4_faultAsTours_18 rfl (fun v5 => ?_)
      refine mv_istore_n [0, 2] no_X4 dX4_faultAsTours_21 rfl (by decide) rfl rfl rfl ?_
      refine mv_iload_n 0 dX4_faultAsTours_22 rfl rfl rfl ?_
      refine mv_iconst (v := ((-1) : Int32)) dX4_faultAsTours_23 (by decide) rfl ?_
      refine mv_icmp_ne (tgt := 29) dX4_faultAsTours_24 rfl rfl ?_ ?_
      · refine mv_iinc (y := (x2 + (1 : Int32))) 2 [0, 1] no_X4 dX4_faultAsTours_29 rfl rfl (by decide) rfl rfl rfl ?_
        refine mv_goto (q := 4) dX4_faultAsTours_32 rfl ?_
        refine mv_sub [2, 1, 0] rfl ?_
        exact ih v5 (x2 + (1 : Int32))
      · refine mv_iload_n 2 dX4_faultAsTours_27 rfl rfl rfl ?_
        exact mv_iret dX4_faultAsTours_28

def F_X4_faultAsTours (a0 : Nat) : mv_M Int32 :=
  Lp_X4_faultAsTours_4 a0 mv_FU (0 : Int32) (0 : Int32)

set_option maxHeartbeats 4000000 in
set_option maxRecDepth 100000 in
theorem c_X4_faultAsTours (l : Launch) (N0 : Nat) (D : va_G) (dA : Nat → ClassId) (a0 : Nat) : mv_SimM l N0 D dA yX4_faultAsTours cX4_faultAsTours 3 (some .int) 2 41 mv_rI [.ref (N0 + a0)] (F_X4_faultAsTours a0) := by
  refine mv_SimM_of (L0 := [(0, mv_vr N0 (some a0))]) false (by decide +kernel) (Nat.le_of_ble_eq_true rfl) rfl (List.forall_mem_cons.mpr ⟨mv_cat N0 (some a0), fun _ h => absurd h List.not_mem_nil⟩) (fun z => by cases z) ?_
  unfold F_X4_faultAsTours
  show mv_Sim l N0 D dA RX4 cX4_faultAsTours 3 2 41 (some .int) false mv_rI 0 _ _ _
  refine mv_iconst (v := (0 : Int32)) dX4_faultAsTours_0 (by decide) rfl ?_
  refine mv_istore_n [0] no_X4 dX4_faultAsTours_1 rfl (by decide) rfl rfl rfl ?_
  refine mv_iconst (v := (0 : Int32)) dX4_faultAsTours_2 (by decide) rfl ?_
  refine mv_istore_n [0, 1] no_X4 dX4_faultAsTours_3 rfl (by decide) rfl rfl rfl ?_
  refine mv_sub [2, 1, 0] rfl ?_
  exact sLp_X4_faultAsTours_4 l N0 D dA a0 mv_FU (0 : Int32) (0 : Int32)

def F_X0_copyFrom (a0 : Nat) (a1 : Option Nat) : mv_M Unit :=
  mv_bd (mv_gI 0 8 0 a1) fun v1 =>
  mv_bd (mv_sI 0 8 0 (some a0) v1) fun _ =>
  mv_bd (mv_gI 0 8 1 a1) fun v2 =>
  mv_bd (mv_sI 0 8 1 (some a0) v2) fun _ =>
  mv_bd (mv_gI 0 8 2 a1) fun v3 =>
  mv_bd (mv_sI 0 8 2 (some a0) v3) fun _ =>
  mv_bd (mv_gI 0 8 3 a1) fun v4 =>
  mv_bd (mv_sI 0 8 3 (some a0) v4) fun _ =>
  mv_bd (mv_gI 0 8 4 a1) fun v5 =>
  mv_bd (mv_sI 0 8 4 (some a0) v5) fun _ =>
  mv_bd (mv_gI 0 8 5 a1) fun v6 =>
  mv_bd (mv_sZ 0 8 5 (some a0) v6) fun _ =>
  mv_bd (mv_gI 0 8 6 a1) fun v7 =>
  mv_bd (mv_sI 0 8 6 (some a0) v7) fun _ =>
  mv_bd (mv_gI 0 8 7 a1) fun v8 =>
  mv_bd (mv_sI 0 8 7 (some a0) v8) fun _ =>
  mv_pu ()

set_option maxHeartbeats 4000000 in
set_option maxRecDepth 100000 in
theorem c_X0_copyFrom (l : Launch) (N0 : Nat) (D : va_G) (dA : Nat → ClassId) (a0 : Nat) (a1 : Option Nat) : mv_SimM l N0 D dA yX0_copyFrom cX0_copyFrom 2 none 0 0 mv_rV [.ref (N0 + a0), mv_vr N0 a1] (F_X0_copyFrom a0 a1) := by
  refine mv_SimM_of (L0 := [(0, mv_vr N0 (some a0)), (1, mv_vr N0 a1)]) false (by decide +kernel) (by cases a1 <;> exact Nat.le_of_ble_eq_true rfl) (by cases a1 <;> rfl) (List.forall_mem_cons.mpr ⟨mv_cat N0 (some a0), List.forall_mem_cons.mpr ⟨mv_cat N0 a1, fun _ h => absurd h List.not_mem_nil⟩⟩) (fun z => by cases z) ?_
  unfold F_X0_copyFrom
  show mv_Sim l N0 D dA RX0 cX0_copyFrom 2 0 0 none false mv_rV 0 _ _ _
  refine mv_aload_n 0 dX0_copyFrom_0 rfl rfl rfl ?_
  refine mv_aload_n 1 dX0_copyFrom_1 rfl rfl rfl ?_
  refine mv_getI fd_X0_0 lk_X0_9 dX0_copyFrom_2 rfl (fun v1 => ?_)
  refine mv_putI fd_X0_0 rfl (tyX0_ok 0 (by decide)) lk_X0_9 dX0_copyFrom_5 rfl ?_
  refine mv_aload_n 0 dX0_copyFrom_8 rfl rfl rfl ?_
  refine mv_aload_n 1 dX0_copyFrom_9 rfl rfl rfl ?_
  refine mv_getI fd_X0_1 lk_X0_15 dX0_copyFrom_10 rfl (fun v2 => ?_)
  refine mv_putI fd_X0_1 rfl (tyX0_ok 1 (by decide)) lk_X0_15 dX0_copyFrom_13 rfl ?_
  refine mv_aload_n 0 dX0_copyFrom_16 rfl rfl rfl ?_
  refine mv_aload_n 1 dX0_copyFrom_17 rfl rfl rfl ?_
  refine mv_getI fd_X0_2 lk_X0_18 dX0_copyFrom_18 rfl (fun v3 => ?_)
  refine mv_putI fd_X0_2 rfl (tyX0_ok 2 (by decide)) lk_X0_18 dX0_copyFrom_21 rfl ?_
  refine mv_aload_n 0 dX0_copyFrom_24 rfl rfl rfl ?_
  refine mv_aload_n 1 dX0_copyFrom_25 rfl rfl rfl ?_
  refine mv_getI fd_X0_3 lk_X0_21 dX0_copyFrom_26 rfl (fun v4 => ?_)
  refine mv_putI fd_X0_3 rfl (tyX0_ok 3 (by decide)) lk_X0_21 dX0_copyFrom_29 rfl ?_
  refine mv_aload_n 0 dX0_copyFrom_32 rfl rfl rfl ?_
  refine mv_aload_n 1 dX0_copyFrom_33 rfl rfl rfl ?_
  refine mv_getI fd_X0_4 lk_X0_24 dX0_copyFrom_34 rfl (fun v5 => ?_)
  refine mv_putI fd_X0_4 rfl (tyX0_ok 4 (by decide)) lk_X0_24 dX0_copyFrom_37 rfl ?_
  refine mv_aload_n 0 dX0_copyFrom_40 rfl rfl rfl ?_
  refine mv_aload_n 1 dX0_copyFrom_41 rfl rfl rfl ?_
  refine mv_getI fd_X0_5 lk_X0_27 dX0_copyFrom_42 rfl (fun v6 => ?_)
  refine mv_putZ fd_X0_5 rfl (tyX0_ok 5 (by decide)) lk_X0_27 dX0_copyFrom_45 rfl ?_
  refine mv_aload_n 0 dX0_copyFrom_48 rfl rfl rfl ?_
  refine mv_aload_n 1 dX0_copyFrom_49 rfl rfl rfl ?_
  refine mv_getI fd_X0_6 lk_X0_31 dX0_copyFrom_50 rfl (fun v7 => ?_)
  refine mv_putI fd_X0_6 rfl (tyX0_ok 6 (by decide)) lk_X0_31 dX0_copyFrom_53 rfl ?_
  refine mv_aload_n 0 dX0_copyFrom_56 rfl rfl rfl ?_
  refine mv_aload_n 1 dX0_copyFrom_57 rfl rfl rfl ?_
  refine mv_getI fd_X0_7 lk_X0_34 dX0_copyFrom_58 rfl (fun v8 => ?_)
  refine mv_putI fd_X0_7 rfl (tyX0_ok 7 (by decide)) lk_X0_34 dX0_copyFrom_61 rfl ?_
  exact mv_vret dX0_copyFrom_64

def J_X1_copyFrom_38 (a0 : Nat) (x1 : Option Nat) : mv_M Unit :=
  mv_bd (mv_gI 1 6 1 x1) fun v1 =>
  mv_bd (mv_sI 1 6 1 (some a0) v1) fun _ =>
  mv_bd (mv_gI 1 6 2 x1) fun v2 =>
  mv_bd (mv_sI 1 6 2 (some a0) v2) fun _ =>
  mv_bd (mv_gI 1 6 3 x1) fun v3 =>
  mv_bd (mv_sI 1 6 3 (some a0) v3) fun _ =>
  mv_bd (mv_gI 1 6 4 x1) fun v4 =>
  mv_bd (mv_sI 1 6 4 (some a0) v4) fun _ =>
  mv_bd (mv_gI 1 6 5 x1) fun v5 =>
  mv_bd (mv_sI 1 6 5 (some a0) v5) fun _ =>
  mv_pu ()

set_option maxHeartbeats 4000000 in
set_option maxRecDepth 100000 in
theorem sJ_X1_copyFrom_38 (l : Launch) (N0 : Nat) (D : va_G) (dA : Nat → ClassId) (a0 : Nat) (x1 : Option Nat) : mv_Sim l N0 D dA RX1 cX1_copyFrom 3 0 0 none false mv_rV 38 [(0, mv_vr N0 (some a0)), (1, mv_vr N0 x1)] [] (J_X1_copyFrom_38 a0 x1) := by
  unfold J_X1_copyFrom_38
  refine mv_aload_n 0 dX1_copyFrom_38 rfl rfl rfl ?_
  refine mv_aload_n 1 dX1_copyFrom_39 rfl rfl rfl ?_
  refine mv_getI fd_X1_1 lk_X1_15 dX1_copyFrom_40 rfl (fun v1 => ?_)
  refine mv_putI fd_X1_1 rfl (tyX1_ok 1 (by decide)) lk_X1_15 dX1_copyFrom_43 rfl ?_
  refine mv_aload_n 0 dX1_copyFrom_46 rfl rfl rfl ?_
  refine mv_aload_n 1 dX1_copyFrom_47 rfl rfl rfl ?_
  refine mv_getI fd_X1_2 lk_X1_19 dX1_copyFrom_48 rfl (fun v2 => ?_)
  refine mv_putI fd_X1_2 rfl (tyX1_ok 2 (by decide)) lk_X1_19 dX1_copyFrom_51 rfl ?_
  refine mv_aload_n 0 dX1_copyFrom_54 rfl rfl rfl ?_
  refine mv_aload_n 1 dX1_copyFrom_55 rfl rfl rfl ?_
  refine mv_getI fd_X1_3 lk_X1_22 dX1_copyFrom_56 rfl (fun v3 => ?_)
  refine mv_putI fd_X1_3 rfl (tyX1_ok 3 (by decide)) lk_X1_22 dX1_copyFrom_59 rfl ?_
  refine mv_aload_n 0 dX1_copyFrom_62 rfl rfl rfl ?_
  refine mv_aload_n 1 dX1_copyFrom_63 rfl rfl rfl ?_
  refine mv_getI fd_X1_4 lk_X1_25 dX1_copyFrom_64 rfl (fun v4 => ?_)
  refine mv_putI fd_X1_4 rfl (tyX1_ok 4 (by decide)) lk_X1_25 dX1_copyFrom_67 rfl ?_
  refine mv_aload_n 0 dX1_copyFrom_70 rfl rfl rfl ?_
  refine mv_aload_n 1 dX1_copyFrom_71 rfl rfl rfl ?_
  refine mv_getI fd_X1_5 lk_X1_28 dX1_copyFrom_72 rfl (fun v5 => ?_)
  refine mv_putI fd_X1_5 rfl (tyX1_ok 5 (by decide)) lk_X1_28 dX1_copyFrom_75 rfl ?_
  exact mv_vret dX1_copyFrom_78

def Lp_X1_copyFrom_2 (a0 : Nat) (x1 : Option Nat) : Nat → Int32 → mv_M Unit
  | 0, _ => mv_fl
  | n + 1, x2 =>
    mv_bd (mv_gR 1 6 0 (some a0)) fun v6 =>
    mv_bd (mv_aL v6) fun v7 =>
    if v7 ≤ x2 then
      J_X1_copyFrom_38 a0 x1
    else
      mv_bd (mv_gR 1 6 0 x1) fun v8 =>
      mv_bd (mv_aL v8) fun v9 =>
      if v9 ≤ x2 then
        J_X1_copyFrom_38 a0 x1
      else
        mv_bd (mv_gR 1 6 0 (some a0)) fun v10 =>
        mv_bd (mv_gR 1 6 0 x1) fun v11 =>
        mv_bd (mv_aI v11 x2) fun v12 =>
        mv_bd (mv_aS v10 x2 v12) fun _ =>
        Lp_X1_copyFrom_2 a0 x1 n (x2 + (1 : Int32))

set_option maxHeartbeats 4000000 in
set_option maxRecDepth 100000 in
theorem sLp_X1_copyFrom_2 (l : Launch) (N0 : Nat) (D : va_G) (dA : Nat → ClassId) (a0 : Nat) (x1 : Option Nat) : ∀ (n : Nat) (x2 : Int32), mv_Sim l N0 D dA RX1 cX1_copyFrom 3 0 0 none false mv_rV 2 [(0, mv_vr N0 (some a0)), (1, mv_vr N0 x1), (2, .int x2)] [] (Lp_X1_copyFrom_2 a0 x1 n x2) := by
  intro n
  induction n with
  | zero => intro x2; rw [Lp_X1_copyFrom_2]; exact mv_fl_sim
  | succ n ih =>
    intro x2
    rw [Lp_X1_copyFrom_2]
    refine mv_iload_n 2 dX1_copyFrom_2 rfl rfl rfl ?_
    refine mv_aload_n 0 dX1_copyFrom_3 rfl rfl rfl ?_
    refine mv_getR fd_X1_0 lk_X1_9 dX1_copyFrom_4 rfl (fun v6 => ?_)
    refine mv_alen dX1_copyFrom_7 rfl (fun v7 => ?_)
    refine mv_icmp_ge (tgt := 38) dX1_copyFrom_8 rfl rfl ?_ ?_
    · refine mv_sub [0, 1] rfl ?_
      exact sJ_X1_copyFrom_38 l N0 D dA a0 x1
    · refine mv_iload_n 2 dX1_copyFrom_11 rfl rfl rfl ?_
      refine mv_aload_n 1 dX1_copyFrom_12 rfl rfl rfl ?_
      refine mv_getR fd_X1_0 lk_X1_9 dX1_copyFrom_13 rfl (fun v8 => ?_)
      refine mv_alen dX1_copyFrom_16 rfl (fun v9 => ?_)
      refine mv_icmp_ge (tgt := 38) dX1_copyFrom_17 rfl rfl ?_ ?_
      · refine mv_sub [0, 1] rfl ?_
        exact sJ_X1_copyFrom_38 l N0 D dA a0 x1
      · refine mv_aload_n 0 dX1_copyFrom_20 rfl rfl rfl ?_
        refine mv_getR fd_X1_0 lk_X1_9 dX1_copyFrom_21 rfl (fun v10 => ?_)
        refine mv_iload_n 2 dX1_copyFrom_24 rfl rfl rfl ?_
        refine mv_aload_n 1 dX1_copyFrom_25 rfl rfl rfl ?_
        refine mv_getR fd_X1_0 lk_X1_9 dX1_copyFrom_26 rfl (fun v11 => ?_)
        refine mv_iload_n 2 dX1_copyFrom_29 rfl rfl rfl ?_
        refine mv_iald dX1_copyFrom_30 rfl (fun v12 => ?_)
        refine mv_iast dX1_copyFrom_31 rfl ?_
        refine mv_iinc (y := (x2 + (1 : Int32))) 2 [0, 1] no_X1 dX1_copyFrom_32 rfl rfl (by decide) rfl rfl rfl ?_
        refine mv_goto (q := 2) dX1_copyFrom_35 rfl ?_
        refine mv_sub [1, 2, 0] rfl ?_
        exact ih (x2 + (1 : Int32))

def F_X1_copyFrom (a0 : Nat) (a1 : Option Nat) : mv_M Unit :=
  Lp_X1_copyFrom_2 a0 a1 mv_FU (0 : Int32)

set_option maxHeartbeats 4000000 in
set_option maxRecDepth 100000 in
theorem c_X1_copyFrom (l : Launch) (N0 : Nat) (D : va_G) (dA : Nat → ClassId) (a0 : Nat) (a1 : Option Nat) : mv_SimM l N0 D dA yX1_copyFrom cX1_copyFrom 3 none 0 0 mv_rV [.ref (N0 + a0), mv_vr N0 a1] (F_X1_copyFrom a0 a1) := by
  refine mv_SimM_of (L0 := [(0, mv_vr N0 (some a0)), (1, mv_vr N0 a1)]) false (by decide +kernel) (by cases a1 <;> exact Nat.le_of_ble_eq_true rfl) (by cases a1 <;> rfl) (List.forall_mem_cons.mpr ⟨mv_cat N0 (some a0), List.forall_mem_cons.mpr ⟨mv_cat N0 a1, fun _ h => absurd h List.not_mem_nil⟩⟩) (fun z => by cases z) ?_
  unfold F_X1_copyFrom
  show mv_Sim l N0 D dA RX1 cX1_copyFrom 3 0 0 none false mv_rV 0 _ _ _
  refine mv_iconst (v := (0 : Int32)) dX1_copyFrom_0 (by decide) rfl ?_
  refine mv_istore_n [0, 1] no_X1 dX1_copyFrom_1 rfl (by decide) rfl rfl rfl ?_
  refine mv_sub [1, 2, 0] rfl ?_
  exact sLp_X1_copyFrom_2 l N0 D dA a0 a1 mv_FU (0 : Int32)

def J_X4_parts_24 (k4 : Int32 → Int32 → mv_M Int32) (a0 : Nat) (x1 : Int32) (x2 : Int32) (x3 : Int32) : mv_M Int32 :=
  k4 x2 (x3 + (1 : Int32))

set_option maxHeartbeats 4000000 in
set_option maxRecDepth 100000 in
theorem sJ_X4_parts_24 (l : Launch) (N0 : Nat) (D : va_G) (dA : Nat → ClassId) (a0 : Nat) (x1 : Int32) (x2 : Int32) (x3 : Int32) (k4 : Int32 → Int32 → mv_M Int32) (hk4 : ∀ (y2 : Int32) (y3 : Int32), mv_Sim l N0 D dA RX4 cX4_parts 4 1 21 (some .int) false mv_rI 4 [(0, mv_vr N0 (some a0)), (1, .int x1), (2, .int y2), (3, .int y3)] [] (k4 y2 y3)) : mv_Sim l N0 D dA RX4 cX4_parts 4 1 21 (some .int) false mv_rI 24 [(0, mv_vr N0 (some a0)), (1, .int x1), (2, .int x2), (3, .int x3)] [] (J_X4_parts_24 k4 a0 x1 x2 x3) := by
  unfold J_X4_parts_24
  refine mv_iinc (y := (x3 + (1 : Int32))) 3 [0, 1, 2] no_X4 dX4_parts_24 rfl rfl (by decide) rfl rfl rfl ?_
  refine mv_goto (q := 4) dX4_parts_27 rfl ?_
  refine mv_sub [1, 2, 3, 0] rfl ?_
  exact hk4 x2 (x3 + (1 : Int32))

def Lp_X4_parts_4 (a0 : Nat) (x1 : Int32) : Nat → Int32 → Int32 → mv_M Int32
  | 0, _, _ => mv_fl
  | n + 1, x2, x3 =>
    mv_bd (mv_gI 4 2 1 (some a0)) fun v1 =>
    if v1 ≤ x3 then
      mv_pu x2
    else
      mv_bd (mv_rc 4 2 (some a0)) fun i3 => mv_bd (F_X4_signAt i3 x3) fun v2 =>
      if v2 = x1 then
        J_X4_parts_24 (Lp_X4_parts_4 a0 x1 n) a0 x1 (x2 + (1 : Int32)) x3
      else
        J_X4_parts_24 (Lp_X4_parts_4 a0 x1 n) a0 x1 x2 x3

set_option maxHeartbeats 4000000 in
set_option maxRecDepth 100000 in
theorem sLp_X4_parts_4 (l : Launch) (N0 : Nat) (D : va_G) (dA : Nat → ClassId) (a0 : Nat) (x1 : Int32) : ∀ (n : Nat) (x2 : Int32) (x3 : Int32), mv_Sim l N0 D dA RX4 cX4_parts 4 1 21 (some .int) false mv_rI 4 [(0, mv_vr N0 (some a0)), (1, .int x1), (2, .int x2), (3, .int x3)] [] (Lp_X4_parts_4 a0 x1 n x2 x3) := by
  intro n
  induction n with
  | zero => intro x2 x3; rw [Lp_X4_parts_4]; exact mv_fl_sim
  | succ n ih =>
    intro x2 x3
    rw [Lp_X4_parts_4]
    refine mv_iload_n 3 dX4_parts_4 rfl rfl rfl ?_
    refine mv_aload_n 0 dX4_parts_5 rfl rfl rfl ?_
    refine mv_getI fd_X4_1 lk_X4_15 dX4_parts_6 rfl (fun v1 => ?_)
    refine mv_icmp_ge (tgt := 30) dX4_parts_9 rfl rfl ?_ ?_
    · refine mv_iload_n 2 dX4_parts_30 rfl rfl rfl ?_
      exact mv_iret dX4_parts_31
    · refine mv_aload_n 0 dX4_parts_12 rfl rfl rfl ?_
      refine mv_iload_n 3 dX4_parts_13 rfl rfl rfl ?_
      refine mv_callVi (st := []) [.int x3] (fun i3 => c_X4_signAt l N0 D dA i3 x3) (T := TX4) rfl (by decide) wc_X4_19 ⟨by decide, by decide⟩ rfl (mv_cs (Nat.le_of_ble_eq_true rfl) (fun _ h => absurd h List.not_mem_nil)) dX4_parts_14 rfl (fun v2 => ?_)
      refine mv_iload_n 1 dX4_parts_17 rfl rfl rfl ?_
      refine mv_icmp_ne (tgt := 24) dX4_parts_18 rfl rfl ?_ ?_
      · refine mv_sub [0, 1, 2, 3] rfl ?_
        exact sJ_X4_parts_24 l N0 D dA a0 x1 x2 x3 _ ih
      · refine mv_iinc (y := (x2 + (1 : Int32))) 2 [0, 1, 3] no_X4 dX4_parts_21 rfl rfl (by decide) rfl rfl rfl ?_
        refine mv_sub [1, 2, 0, 3] rfl ?_
        exact sJ_X4_parts_24 l N0 D dA a0 x1 (x2 + (1 : Int32)) x3 _ ih

def F_X4_parts (a0 : Nat) (a1 : Int32) : mv_M Int32 :=
  Lp_X4_parts_4 a0 a1 mv_FU (1 : Int32) (0 : Int32)

set_option maxHeartbeats 4000000 in
set_option maxRecDepth 100000 in
theorem c_X4_parts (l : Launch) (N0 : Nat) (D : va_G) (dA : Nat → ClassId) (a0 : Nat) (a1 : Int32) : mv_SimM l N0 D dA yX4_parts cX4_parts 4 (some .int) 1 21 mv_rI [.ref (N0 + a0), .int a1] (F_X4_parts a0 a1) := by
  refine mv_SimM_of (L0 := [(0, mv_vr N0 (some a0)), (1, .int a1)]) false (by decide +kernel) (Nat.le_of_ble_eq_true rfl) rfl (List.forall_mem_cons.mpr ⟨mv_cat N0 (some a0), List.forall_mem_cons.mpr ⟨rfl, fun _ h => absurd h List.not_mem_nil⟩⟩) (fun z => by cases z) ?_
  unfold F_X4_parts
  show mv_Sim l N0 D dA RX4 cX4_parts 4 1 21 (some .int) false mv_rI 0 _ _ _
  refine mv_iconst (v := (1 : Int32)) dX4_parts_0 (by decide) rfl ?_
  refine mv_istore_n [0, 1] no_X4 dX4_parts_1 rfl (by decide) rfl rfl rfl ?_
  refine mv_iconst (v := (0 : Int32)) dX4_parts_2 (by decide) rfl ?_
  refine mv_istore_n [0, 1, 2] no_X4 dX4_parts_3 rfl (by decide) rfl rfl rfl ?_
  refine mv_sub [2, 3, 1, 0] rfl ?_
  exact sLp_X4_parts_4 l N0 D dA a0 a1 mv_FU (1 : Int32) (0 : Int32)

def F_X0_begin (a0 : Nat) (a1 : Int32) (a2 : Int32) (a3 : Int32) (a4 : Int32) : mv_M Unit :=
  mv_bd (mv_sI 0 8 0 (some a0) a2) fun _ =>
  mv_bd (mv_sI 0 8 1 (some a0) a1) fun _ =>
  mv_bd (mv_sI 0 8 2 (some a0) ((-4) : Int32)) fun _ =>
  mv_bd (mv_sI 0 8 3 (some a0) ((-4) : Int32)) fun _ =>
  mv_bd (mv_sI 0 8 4 (some a0) a3) fun _ =>
  mv_bd (mv_sZ 0 8 5 (some a0) (0 : Int32)) fun _ =>
  mv_bd (mv_sI 0 8 6 (some a0) (0 : Int32)) fun _ =>
  mv_bd (mv_sI 0 8 7 (some a0) a4) fun _ =>
  mv_pu ()

set_option maxHeartbeats 4000000 in
set_option maxRecDepth 100000 in
theorem c_X0_begin (l : Launch) (N0 : Nat) (D : va_G) (dA : Nat → ClassId) (a0 : Nat) (a1 : Int32) (a2 : Int32) (a3 : Int32) (a4 : Int32) : mv_SimM l N0 D dA yX0_begin cX0_begin 5 none 0 0 mv_rV [.ref (N0 + a0), .int a1, .int a2, .int a3, .int a4] (F_X0_begin a0 a1 a2 a3 a4) := by
  refine mv_SimM_of (L0 := [(0, mv_vr N0 (some a0)), (1, .int a1), (2, .int a2), (3, .int a3), (4, .int a4)]) false (by decide +kernel) (Nat.le_of_ble_eq_true rfl) rfl (List.forall_mem_cons.mpr ⟨mv_cat N0 (some a0), List.forall_mem_cons.mpr ⟨rfl, List.forall_mem_cons.mpr ⟨rfl, List.forall_mem_cons.mpr ⟨rfl, List.forall_mem_cons.mpr ⟨rfl, fun _ h => absurd h List.not_mem_nil⟩⟩⟩⟩⟩) (fun z => by cases z) ?_
  unfold F_X0_begin
  show mv_Sim l N0 D dA RX0 cX0_begin 5 0 0 none false mv_rV 0 _ _ _
  refine mv_aload_n 0 dX0_begin_0 rfl rfl rfl ?_
  refine mv_iload_n 2 dX0_begin_1 rfl rfl rfl ?_
  refine mv_putI fd_X0_0 rfl (tyX0_ok 0 (by decide)) lk_X0_9 dX0_begin_2 rfl ?_
  refine mv_aload_n 0 dX0_begin_5 rfl rfl rfl ?_
  refine mv_iload_n 1 dX0_begin_6 rfl rfl rfl ?_
  refine mv_putI fd_X0_1 rfl (tyX0_ok 1 (by decide)) lk_X0_15 dX0_begin_7 rfl ?_
  refine mv_aload_n 0 dX0_begin_10 rfl rfl rfl ?_
  refine mv_bipush (v := ((-4) : Int32)) dX0_begin_11 (by decide) rfl ?_
  refine mv_putI fd_X0_2 rfl (tyX0_ok 2 (by decide)) lk_X0_18 dX0_begin_13 rfl ?_
  refine mv_aload_n 0 dX0_begin_16 rfl rfl rfl ?_
  refine mv_bipush (v := ((-4) : Int32)) dX0_begin_17 (by decide) rfl ?_
  refine mv_putI fd_X0_3 rfl (tyX0_ok 3 (by decide)) lk_X0_21 dX0_begin_19 rfl ?_
  refine mv_aload_n 0 dX0_begin_22 rfl rfl rfl ?_
  refine mv_iload_n 3 dX0_begin_23 rfl rfl rfl ?_
  refine mv_putI fd_X0_4 rfl (tyX0_ok 4 (by decide)) lk_X0_24 dX0_begin_24 rfl ?_
  refine mv_aload_n 0 dX0_begin_27 rfl rfl rfl ?_
  refine mv_iconst (v := (0 : Int32)) dX0_begin_28 (by decide) rfl ?_
  refine mv_putZ fd_X0_5 rfl (tyX0_ok 5 (by decide)) lk_X0_27 dX0_begin_29 rfl ?_
  refine mv_aload_n 0 dX0_begin_32 rfl rfl rfl ?_
  refine mv_iconst (v := (0 : Int32)) dX0_begin_33 (by decide) rfl ?_
  refine mv_putI fd_X0_6 rfl (tyX0_ok 6 (by decide)) lk_X0_31 dX0_begin_34 rfl ?_
  refine mv_aload_n 0 dX0_begin_37 rfl rfl rfl ?_
  refine mv_iload 4 dX0_begin_38 rfl rfl ?_
  refine mv_putI fd_X0_7 rfl (tyX0_ok 7 (by decide)) lk_X0_34 dX0_begin_40 rfl ?_
  exact mv_vret dX0_begin_43

def J_X1_addTown_39 (a0 : Nat) : mv_M Unit :=
  mv_pu ()

set_option maxHeartbeats 4000000 in
set_option maxRecDepth 100000 in
theorem sJ_X1_addTown_39 (l : Launch) (N0 : Nat) (D : va_G) (dA : Nat → ClassId) (a0 : Nat) : mv_Sim l N0 D dA RX1 cX1_addTown 2 0 0 none false mv_rV 39 [(0, mv_vr N0 (some a0))] [] (J_X1_addTown_39 a0) := by
  unfold J_X1_addTown_39
  exact mv_vret dX1_addTown_39

def F_X1_addTown (a0 : Nat) (a1 : Int32) : mv_M Unit :=
  mv_bd (mv_gI 1 6 1 (some a0)) fun v1 =>
  if v1 < 0 then
    J_X1_addTown_39 a0
  else
    mv_bd (mv_gI 1 6 1 (some a0)) fun v2 =>
    mv_bd (mv_gR 1 6 0 (some a0)) fun v3 =>
    mv_bd (mv_aL v3) fun v4 =>
    if v4 ≤ v2 then
      J_X1_addTown_39 a0
    else
      mv_bd (mv_gR 1 6 0 (some a0)) fun v5 =>
      mv_bd (mv_gI 1 6 1 (some a0)) fun v6 =>
      mv_bd (mv_aS v5 v6 a1) fun _ =>
      mv_bd (mv_gI 1 6 1 (some a0)) fun v7 =>
      mv_bd (mv_sI 1 6 1 (some a0) (v7 + (1 : Int32))) fun _ =>
      J_X1_addTown_39 a0

set_option maxHeartbeats 4000000 in
set_option maxRecDepth 100000 in
theorem c_X1_addTown (l : Launch) (N0 : Nat) (D : va_G) (dA : Nat → ClassId) (a0 : Nat) (a1 : Int32) : mv_SimM l N0 D dA yX1_addTown cX1_addTown 2 none 0 0 mv_rV [.ref (N0 + a0), .int a1] (F_X1_addTown a0 a1) := by
  refine mv_SimM_of (L0 := [(0, mv_vr N0 (some a0)), (1, .int a1)]) false (by decide +kernel) (Nat.le_of_ble_eq_true rfl) rfl (List.forall_mem_cons.mpr ⟨mv_cat N0 (some a0), List.forall_mem_cons.mpr ⟨rfl, fun _ h => absurd h List.not_mem_nil⟩⟩) (fun z => by cases z) ?_
  unfold F_X1_addTown
  show mv_Sim l N0 D dA RX1 cX1_addTown 2 0 0 none false mv_rV 0 _ _ _
  refine mv_aload_n 0 dX1_addTown_0 rfl rfl rfl ?_
  refine mv_getI fd_X1_1 lk_X1_15 dX1_addTown_1 rfl (fun v1 => ?_)
  refine mv_if_lt (tgt := 39) dX1_addTown_4 rfl rfl ?_ ?_
  · refine mv_sub [0] rfl ?_
    exact sJ_X1_addTown_39 l N0 D dA a0
  · refine mv_aload_n 0 dX1_addTown_7 rfl rfl rfl ?_
    refine mv_getI fd_X1_1 lk_X1_15 dX1_addTown_8 rfl (fun v2 => ?_)
    refine mv_aload_n 0 dX1_addTown_11 rfl rfl rfl ?_
    refine mv_getR fd_X1_0 lk_X1_9 dX1_addTown_12 rfl (fun v3 => ?_)
    refine mv_alen dX1_addTown_15 rfl (fun v4 => ?_)
    refine mv_icmp_ge (tgt := 39) dX1_addTown_16 rfl rfl ?_ ?_
    · refine mv_sub [0] rfl ?_
      exact sJ_X1_addTown_39 l N0 D dA a0
    · refine mv_aload_n 0 dX1_addTown_19 rfl rfl rfl ?_
      refine mv_getR fd_X1_0 lk_X1_9 dX1_addTown_20 rfl (fun v5 => ?_)
      refine mv_aload_n 0 dX1_addTown_23 rfl rfl rfl ?_
      refine mv_getI fd_X1_1 lk_X1_15 dX1_addTown_24 rfl (fun v6 => ?_)
      refine mv_iload_n 1 dX1_addTown_27 rfl rfl rfl ?_
      refine mv_iast dX1_addTown_28 rfl ?_
      refine mv_aload_n 0 dX1_addTown_29 rfl rfl rfl ?_
      refine mv_dup dX1_addTown_30 (mv_cat N0 (some a0)) rfl ?_
      refine mv_getI fd_X1_1 lk_X1_15 dX1_addTown_31 rfl (fun v7 => ?_)
      refine mv_iconst (v := (1 : Int32)) dX1_addTown_34 (by decide) rfl ?_
      refine mv_iadd dX1_addTown_35 rfl ?_
      refine mv_putI fd_X1_1 rfl (tyX1_ok 1 (by decide)) lk_X1_15 dX1_addTown_36 rfl ?_
      refine mv_sub [0] rfl ?_
      exact sJ_X1_addTown_39 l N0 D dA a0

def F_X1_begin (a0 : Nat) : mv_M Unit :=
  mv_bd (mv_sI 1 6 1 (some a0) (0 : Int32)) fun _ =>
  mv_bd (mv_sI 1 6 2 (some a0) (0 : Int32)) fun _ =>
  mv_bd (mv_sI 1 6 3 (some a0) (0 : Int32)) fun _ =>
  mv_bd (mv_sI 1 6 4 (some a0) (0 : Int32)) fun _ =>
  mv_bd (mv_sI 1 6 5 (some a0) (0 : Int32)) fun _ =>
  mv_pu ()

set_option maxHeartbeats 4000000 in
set_option maxRecDepth 100000 in
theorem c_X1_begin (l : Launch) (N0 : Nat) (D : va_G) (dA : Nat → ClassId) (a0 : Nat) : mv_SimM l N0 D dA yX1_begin cX1_begin 1 none 0 0 mv_rV [.ref (N0 + a0)] (F_X1_begin a0) := by
  refine mv_SimM_of (L0 := [(0, mv_vr N0 (some a0))]) false (by decide +kernel) (Nat.le_of_ble_eq_true rfl) rfl (List.forall_mem_cons.mpr ⟨mv_cat N0 (some a0), fun _ h => absurd h List.not_mem_nil⟩) (fun z => by cases z) ?_
  unfold F_X1_begin
  show mv_Sim l N0 D dA RX1 cX1_begin 1 0 0 none false mv_rV 0 _ _ _
  refine mv_aload_n 0 dX1_begin_0 rfl rfl rfl ?_
  refine mv_iconst (v := (0 : Int32)) dX1_begin_1 (by decide) rfl ?_
  refine mv_putI fd_X1_1 rfl (tyX1_ok 1 (by decide)) lk_X1_15 dX1_begin_2 rfl ?_
  refine mv_aload_n 0 dX1_begin_5 rfl rfl rfl ?_
  refine mv_iconst (v := (0 : Int32)) dX1_begin_6 (by decide) rfl ?_
  refine mv_putI fd_X1_2 rfl (tyX1_ok 2 (by decide)) lk_X1_19 dX1_begin_7 rfl ?_
  refine mv_aload_n 0 dX1_begin_10 rfl rfl rfl ?_
  refine mv_iconst (v := (0 : Int32)) dX1_begin_11 (by decide) rfl ?_
  refine mv_putI fd_X1_3 rfl (tyX1_ok 3 (by decide)) lk_X1_22 dX1_begin_12 rfl ?_
  refine mv_aload_n 0 dX1_begin_15 rfl rfl rfl ?_
  refine mv_iconst (v := (0 : Int32)) dX1_begin_16 (by decide) rfl ?_
  refine mv_putI fd_X1_4 rfl (tyX1_ok 4 (by decide)) lk_X1_25 dX1_begin_17 rfl ?_
  refine mv_aload_n 0 dX1_begin_20 rfl rfl rfl ?_
  refine mv_iconst (v := (0 : Int32)) dX1_begin_21 (by decide) rfl ?_
  refine mv_putI fd_X1_5 rfl (tyX1_ok 5 (by decide)) lk_X1_28 dX1_begin_22 rfl ?_
  exact mv_vret dX1_begin_25

def F_X0_init (a0 : Nat) : mv_M Unit :=
  mv_pu ()

set_option maxHeartbeats 4000000 in
set_option maxRecDepth 100000 in
theorem c_X0_init (l : Launch) (N0 : Nat) (D : va_G) (dA : Nat → ClassId) (a0 : Nat) : mv_SimM l N0 D dA yX0_init cX0_init 1 none 1 12 mv_rV [.ref (N0 + a0)] (F_X0_init a0) := by
  refine mv_SimM_of (L0 := [(0, mv_vr N0 (some a0))]) true (by decide +kernel) (Nat.le_of_ble_eq_true rfl) rfl (List.forall_mem_cons.mpr ⟨mv_cat N0 (some a0), fun _ h => absurd h List.not_mem_nil⟩) (fun _ => rfl) ?_
  unfold F_X0_init
  show mv_Sim l N0 D dA RX0 cX0_init 1 1 12 none true mv_rV 0 _ _ _
  refine mv_aload_n 0 dX0_init_0 rfl rfl rfl ?_
  refine mv_objInit dX0_init_1 wo_X0 ⟨by decide, by decide⟩ rfl ?_
  exact mv_vret dX0_init_4

def F_X1_init (a0 : Nat) : mv_M Unit :=
  mv_bd (mv_nA 8 (7 : Int32)) fun v1 =>
  mv_bd (mv_sR 1 6 0 (some a0) v1) fun _ =>
  mv_pu ()

set_option maxHeartbeats 4000000 in
set_option maxRecDepth 100000 in
theorem c_X1_init (l : Launch) (N0 : Nat) (D : va_G) (dA : Nat → ClassId) (a0 : Nat) : mv_SimM l N0 D dA yX1_init cX1_init 1 none 1 12 mv_rV [.ref (N0 + a0)] (F_X1_init a0) := by
  refine mv_SimM_of (L0 := [(0, mv_vr N0 (some a0))]) true (by decide +kernel) (Nat.le_of_ble_eq_true rfl) rfl (List.forall_mem_cons.mpr ⟨mv_cat N0 (some a0), fun _ h => absurd h List.not_mem_nil⟩) (fun _ => rfl) ?_
  unfold F_X1_init
  show mv_Sim l N0 D dA RX1 cX1_init 1 1 12 none true mv_rV 0 _ _ _
  refine mv_aload_n 0 dX1_init_0 rfl rfl rfl ?_
  refine mv_objInit dX1_init_1 wo_X1 ⟨by decide, by decide⟩ rfl ?_
  refine mv_aload_n 0 dX1_init_4 rfl rfl rfl ?_
  refine mv_bipush (v := (7 : Int32)) dX1_init_5 (by decide) rfl ?_
  refine mv_newa (mv_wA_of (mv_t1 (List.mem_of_getElem? (i := 63) rfl)) rfl) dX1_init_7 rfl (fun v1 => ?_)
  refine mv_putR (t := tyX1 0) fd_X1_0 rfl (tyX1_ok 0 (by decide)) (Or.inr ⟨_, rfl⟩) rfl rfl (mv_wA_of (mv_t1 (List.mem_of_getElem? (i := 33) rfl)) rfl) dX1_init_9 rfl ?_
  exact mv_vret dX1_init_12

def F_X4_init (a0 : Nat) : mv_M Unit :=
  mv_bd (mv_nA 8 (60 : Int32)) fun v1 =>
  mv_bd (mv_sR 4 2 0 (some a0) v1) fun _ =>
  mv_pu ()

set_option maxHeartbeats 4000000 in
set_option maxRecDepth 100000 in
theorem c_X4_init (l : Launch) (N0 : Nat) (D : va_G) (dA : Nat → ClassId) (a0 : Nat) : mv_SimM l N0 D dA yX4_init cX4_init 1 none 1 12 mv_rV [.ref (N0 + a0)] (F_X4_init a0) := by
  refine mv_SimM_of (L0 := [(0, mv_vr N0 (some a0))]) true (by decide +kernel) (Nat.le_of_ble_eq_true rfl) rfl (List.forall_mem_cons.mpr ⟨mv_cat N0 (some a0), fun _ h => absurd h List.not_mem_nil⟩) (fun _ => rfl) ?_
  unfold F_X4_init
  show mv_Sim l N0 D dA RX4 cX4_init 1 1 12 none true mv_rV 0 _ _ _
  refine mv_aload_n 0 dX4_init_0 rfl rfl rfl ?_
  refine mv_objInit dX4_init_1 wo_X4 ⟨by decide, by decide⟩ rfl ?_
  refine mv_aload_n 0 dX4_init_4 rfl rfl rfl ?_
  refine mv_bipush (v := (60 : Int32)) dX4_init_5 (by decide) rfl ?_
  refine mv_newa (mv_wA_of (mv_t1 (List.mem_of_getElem? (i := 63) rfl)) rfl) dX4_init_7 rfl (fun v1 => ?_)
  refine mv_putR (t := tyX4 0) fd_X4_0 rfl (tyX4_ok 0 (by decide)) (Or.inr ⟨_, rfl⟩) rfl rfl (mv_wA_of (mv_t1 (List.mem_of_getElem? (i := 183) rfl)) rfl) dX4_init_9 rfl ?_
  exact mv_vret dX4_init_12

end
