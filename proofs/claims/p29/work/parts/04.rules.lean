section MVR
variable {l : Launch} {N0 : Nat} {D : va_G} {dA : Nat → ClassId} {own : String} {cc : ByteArray} {nL fr lo : Nat} {ret : Option FieldType} {ini : Bool} {α : Type} {rv : α → Option Value} {pc q : Nat} {L : List (Nat × Value)} {st : List Value} {f : mv_M α}
theorem mv_fl_sim : mv_Sim l N0 D dA own cc nL fr lo ret ini rv pc L st (mv_fl : mv_M α) := ⟨mv_Gr.fl, fun p e s m args below meth c n0 s0 hC h H locs ls v h' g1 g2 hP hS hl hq hf => by cases hf⟩

theorem mv_iconst {n : Int} {v : Int32} (hdg : decode cc pc = .ok (.iconst n, 1)) (hv : Int32.ofInt n = v) (hp : pc + 1 = q) (kk : mv_Sim l N0 D dA own cc nL fr lo ret ini rv q L (.int v :: st) f) : mv_Sim l N0 D dA own cc nL fr lo ret ini rv pc L st f := by
  subst hp
  exact ⟨kk.1, fun p e s m args below meth c n0 s0 hC h H locs ls v h' g1 g2 hP hS hl hq hf => lv_iconst hC.1 hC.2.1 hdg hv (kk.2 p e s m args below meth c n0 s0 hC h H locs ls v h' g1 g2 hP hS hl hq hf)⟩

theorem mv_bipush {n : Int} {v : Int32} (hdg : decode cc pc = .ok (.bipush n, 2)) (hv : (Int8.ofInt n).toInt32 = v) (hp : pc + 2 = q) (kk : mv_Sim l N0 D dA own cc nL fr lo ret ini rv q L (.int v :: st) f) : mv_Sim l N0 D dA own cc nL fr lo ret ini rv pc L st f := by
  subst hp
  exact ⟨kk.1, fun p e s m args below meth c n0 s0 hC h H locs ls v h' g1 g2 hP hS hl hq hf => lv_bipush hC.1 hC.2.1 hdg hv (kk.2 p e s m args below meth c n0 s0 hC h H locs ls v h' g1 g2 hP hS hl hq hf)⟩

theorem mv_sipush {n : Int} {v : Int32} (hdg : decode cc pc = .ok (.sipush n, 3)) (hv : (Int16.ofInt n).toInt32 = v) (hp : pc + 3 = q) (kk : mv_Sim l N0 D dA own cc nL fr lo ret ini rv q L (.int v :: st) f) : mv_Sim l N0 D dA own cc nL fr lo ret ini rv pc L st f := by
  subst hp
  exact ⟨kk.1, fun p e s m args below meth c n0 s0 hC h H locs ls v h' g1 g2 hP hS hl hq hf => lv_sipush hC.1 hC.2.1 hdg hv (kk.2 p e s m args below meth c n0 s0 hC h H locs ls v h' g1 g2 hP hS hl hq hf)⟩

theorem mv_ldc {idx : Nat} {v : Int32} (hdg : decode cc pc = .ok (.ldc idx, 2)) (hw : Cond.constant own idx v ∈ mv_wA) (hp : pc + 2 = q) (kk : mv_Sim l N0 D dA own cc nL fr lo ret ini rv q L (.int v :: st) f) : mv_Sim l N0 D dA own cc nL fr lo ret ini rv pc L st f := by
  subst hp
  exact ⟨kk.1, fun p e s m args below meth c n0 s0 hC h H locs ls v h' g1 g2 hP hS hl hq hf => lv_ldc hC.1 hC.2.1 hC.2.2.2.1 (hC.2.2.2.2.1 _ hw) hdg (kk.2 p e s m args below meth c n0 s0 hC h H locs ls v h' g1 g2 hP hS hl hq hf)⟩

theorem mv_iload_n {k : Fin 4} {i : Nat} {x : Int32} (j : Nat) (hdg : decode cc pc = .ok (.iload_n k, 1)) (hi : (k : Nat) = i) (hj : L[j]? = some (i, .int x)) (hp : pc + 1 = q) (kk : mv_Sim l N0 D dA own cc nL fr lo ret ini rv q L (.int x :: st) f) : mv_Sim l N0 D dA own cc nL fr lo ret ini rv pc L st f := by
  subst hp
  exact ⟨kk.1, fun p e s m args below meth c n0 s0 hC h H locs ls v h' g1 g2 hP hS hl hq hf => lv_iload_n hC.1 hC.2.1 hdg hi (lv_at hl j hj) (kk.2 p e s m args below meth c n0 s0 hC h H locs ls v h' g1 g2 hP hS hl hq hf)⟩

theorem mv_iload {i : Nat} {x : Int32} (j : Nat) (hdg : decode cc pc = .ok (.iload i, 2)) (hj : L[j]? = some (i, .int x)) (hp : pc + 2 = q) (kk : mv_Sim l N0 D dA own cc nL fr lo ret ini rv q L (.int x :: st) f) : mv_Sim l N0 D dA own cc nL fr lo ret ini rv pc L st f := by
  subst hp
  exact ⟨kk.1, fun p e s m args below meth c n0 s0 hC h H locs ls v h' g1 g2 hP hS hl hq hf => lv_iload hC.1 hC.2.1 hdg (lv_at hl j hj) (kk.2 p e s m args below meth c n0 s0 hC h H locs ls v h' g1 g2 hP hS hl hq hf)⟩

theorem mv_aload_n {k : Fin 4} {i : Nat} {r : Option Nat} (j : Nat) (hdg : decode cc pc = .ok (.aload_n k, 1)) (hi : (k : Nat) = i) (hj : L[j]? = some (i, mv_vr N0 r)) (hp : pc + 1 = q) (kk : mv_Sim l N0 D dA own cc nL fr lo ret ini rv q L (mv_vr N0 r :: st) f) : mv_Sim l N0 D dA own cc nL fr lo ret ini rv pc L st f := by
  subst hp
  cases r with
  | none => exact ⟨kk.1, fun p e s m args below meth c n0 s0 hC h H locs ls v h' g1 g2 hP hS hl hq hf => lv_aload_nN hC.1 hC.2.1 hdg hi (lv_at hl j hj) (kk.2 p e s m args below meth c n0 s0 hC h H locs ls v h' g1 g2 hP hS hl hq hf)⟩
  | some a => exact ⟨kk.1, fun p e s m args below meth c n0 s0 hC h H locs ls v h' g1 g2 hP hS hl hq hf => lv_aload_n hC.1 hC.2.1 hdg hi (lv_at hl j hj) (kk.2 p e s m args below meth c n0 s0 hC h H locs ls v h' g1 g2 hP hS hl hq hf)⟩

theorem mv_aload {i : Nat} {r : Option Nat} (j : Nat) (hdg : decode cc pc = .ok (.aload i, 2)) (hj : L[j]? = some (i, mv_vr N0 r)) (hp : pc + 2 = q) (kk : mv_Sim l N0 D dA own cc nL fr lo ret ini rv q L (mv_vr N0 r :: st) f) : mv_Sim l N0 D dA own cc nL fr lo ret ini rv pc L st f := by
  subst hp
  cases r with
  | none => exact ⟨kk.1, fun p e s m args below meth c n0 s0 hC h H locs ls v h' g1 g2 hP hS hl hq hf => lv_aloadN hC.1 hC.2.1 hdg (lv_at hl j hj) (kk.2 p e s m args below meth c n0 s0 hC h H locs ls v h' g1 g2 hP hS hl hq hf)⟩
  | some a => exact ⟨kk.1, fun p e s m args below meth c n0 s0 hC h H locs ls v h' g1 g2 hP hS hl hq hf => lv_aload hC.1 hC.2.1 hdg (lv_at hl j hj) (kk.2 p e s m args below meth c n0 s0 hC h H locs ls v h' g1 g2 hP hS hl hq hf)⟩

theorem mv_iadd {x y : Int32} (hdg : decode cc pc = .ok (.iadd, 1))  (hp : pc + 1 = q) (kk : mv_Sim l N0 D dA own cc nL fr lo ret ini rv q L (.int (x + y) :: st) f) : mv_Sim l N0 D dA own cc nL fr lo ret ini rv pc L (.int y :: .int x :: st) f := by
  subst hp
  exact ⟨kk.1, fun p e s m args below meth c n0 s0 hC h H locs ls v h' g1 g2 hP hS hl hq hf => lv_iadd hC.1 hC.2.1 hdg (kk.2 p e s m args below meth c n0 s0 hC h H locs ls v h' g1 g2 hP hS hl hq hf)⟩

theorem mv_isub {x y : Int32} (hdg : decode cc pc = .ok (.isub, 1))  (hp : pc + 1 = q) (kk : mv_Sim l N0 D dA own cc nL fr lo ret ini rv q L (.int (x - y) :: st) f) : mv_Sim l N0 D dA own cc nL fr lo ret ini rv pc L (.int y :: .int x :: st) f := by
  subst hp
  exact ⟨kk.1, fun p e s m args below meth c n0 s0 hC h H locs ls v h' g1 g2 hP hS hl hq hf => lv_isub hC.1 hC.2.1 hdg (kk.2 p e s m args below meth c n0 s0 hC h H locs ls v h' g1 g2 hP hS hl hq hf)⟩

theorem mv_imul {x y : Int32} (hdg : decode cc pc = .ok (.imul, 1))  (hp : pc + 1 = q) (kk : mv_Sim l N0 D dA own cc nL fr lo ret ini rv q L (.int (x * y) :: st) f) : mv_Sim l N0 D dA own cc nL fr lo ret ini rv pc L (.int y :: .int x :: st) f := by
  subst hp
  exact ⟨kk.1, fun p e s m args below meth c n0 s0 hC h H locs ls v h' g1 g2 hP hS hl hq hf => lv_imul hC.1 hC.2.1 hdg (kk.2 p e s m args below meth c n0 s0 hC h H locs ls v h' g1 g2 hP hS hl hq hf)⟩

theorem mv_iand {x y : Int32} (hdg : decode cc pc = .ok (.iand, 1))  (hp : pc + 1 = q) (kk : mv_Sim l N0 D dA own cc nL fr lo ret ini rv q L (.int (x &&& y) :: st) f) : mv_Sim l N0 D dA own cc nL fr lo ret ini rv pc L (.int y :: .int x :: st) f := by
  subst hp
  exact ⟨kk.1, fun p e s m args below meth c n0 s0 hC h H locs ls v h' g1 g2 hP hS hl hq hf => lv_iand hC.1 hC.2.1 hdg (kk.2 p e s m args below meth c n0 s0 hC h H locs ls v h' g1 g2 hP hS hl hq hf)⟩

theorem mv_ior {x y : Int32} (hdg : decode cc pc = .ok (.ior, 1))  (hp : pc + 1 = q) (kk : mv_Sim l N0 D dA own cc nL fr lo ret ini rv q L (.int (x ||| y) :: st) f) : mv_Sim l N0 D dA own cc nL fr lo ret ini rv pc L (.int y :: .int x :: st) f := by
  subst hp
  exact ⟨kk.1, fun p e s m args below meth c n0 s0 hC h H locs ls v h' g1 g2 hP hS hl hq hf => lv_ior hC.1 hC.2.1 hdg (kk.2 p e s m args below meth c n0 s0 hC h H locs ls v h' g1 g2 hP hS hl hq hf)⟩

theorem mv_ixor {x y : Int32} (hdg : decode cc pc = .ok (.ixor, 1))  (hp : pc + 1 = q) (kk : mv_Sim l N0 D dA own cc nL fr lo ret ini rv q L (.int (x ^^^ y) :: st) f) : mv_Sim l N0 D dA own cc nL fr lo ret ini rv pc L (.int y :: .int x :: st) f := by
  subst hp
  exact ⟨kk.1, fun p e s m args below meth c n0 s0 hC h H locs ls v h' g1 g2 hP hS hl hq hf => lv_ixor hC.1 hC.2.1 hdg (kk.2 p e s m args below meth c n0 s0 hC h H locs ls v h' g1 g2 hP hS hl hq hf)⟩

theorem mv_ishl {x y : Int32} (hdg : decode cc pc = .ok (.ishl, 1))  (hp : pc + 1 = q) (kk : mv_Sim l N0 D dA own cc nL fr lo ret ini rv q L (.int (x <<< (y &&& 31)) :: st) f) : mv_Sim l N0 D dA own cc nL fr lo ret ini rv pc L (.int y :: .int x :: st) f := by
  subst hp
  exact ⟨kk.1, fun p e s m args below meth c n0 s0 hC h H locs ls v h' g1 g2 hP hS hl hq hf => lv_ishl hC.1 hC.2.1 hdg (kk.2 p e s m args below meth c n0 s0 hC h H locs ls v h' g1 g2 hP hS hl hq hf)⟩

theorem mv_ishr {x y : Int32} (hdg : decode cc pc = .ok (.ishr, 1))  (hp : pc + 1 = q) (kk : mv_Sim l N0 D dA own cc nL fr lo ret ini rv q L (.int (x >>> (y &&& 31)) :: st) f) : mv_Sim l N0 D dA own cc nL fr lo ret ini rv pc L (.int y :: .int x :: st) f := by
  subst hp
  exact ⟨kk.1, fun p e s m args below meth c n0 s0 hC h H locs ls v h' g1 g2 hP hS hl hq hf => lv_ishr hC.1 hC.2.1 hdg (kk.2 p e s m args below meth c n0 s0 hC h H locs ls v h' g1 g2 hP hS hl hq hf)⟩

theorem mv_dup {va : Value} (hdg : decode cc pc = .ok (.dup, 1)) (hva : va.category = 1) (hp : pc + 1 = q) (kk : mv_Sim l N0 D dA own cc nL fr lo ret ini rv q L (va :: va :: st) f) : mv_Sim l N0 D dA own cc nL fr lo ret ini rv pc L (va :: st) f := by
  subst hp
  exact ⟨kk.1, fun p e s m args below meth c n0 s0 hC h H locs ls v h' g1 g2 hP hS hl hq hf => lv_dup hC.1 hC.2.1 hdg hva (kk.2 p e s m args below meth c n0 s0 hC h H locs ls v h' g1 g2 hP hS hl hq hf)⟩

theorem mv_dup2 {va vb : Value} (hdg : decode cc pc = .ok (.dup2, 1)) (hva : va.category = 1) (hvb : vb.category = 1) (hp : pc + 1 = q) (kk : mv_Sim l N0 D dA own cc nL fr lo ret ini rv q L (va :: vb :: va :: vb :: st) f) : mv_Sim l N0 D dA own cc nL fr lo ret ini rv pc L (va :: vb :: st) f := by
  subst hp
  exact ⟨kk.1, fun p e s m args below meth c n0 s0 hC h H locs ls v h' g1 g2 hP hS hl hq hf => lv_dup2_11 hC.1 hC.2.1 hdg hva hvb (kk.2 p e s m args below meth c n0 s0 hC h H locs ls v h' g1 g2 hP hS hl hq hf)⟩

theorem mv_null  (hdg : decode cc pc = .ok (.aconst_null, 1))  (hp : pc + 1 = q) (kk : mv_Sim l N0 D dA own cc nL fr lo ret ini rv q L (mv_vr N0 none :: st) f) : mv_Sim l N0 D dA own cc nL fr lo ret ini rv pc L st f := by
  subst hp
  exact ⟨kk.1, fun p e s m args below meth c n0 s0 hC h H locs ls v h' g1 g2 hP hS hl hq hf => lv_null hC.1 hC.2.1 hdg (kk.2 p e s m args below meth c n0 s0 hC h H locs ls v h' g1 g2 hP hS hl hq hf)⟩

theorem mv_i2d {x : Int32} (hdg : decode cc pc = .ok (.i2d, 1))  (hp : pc + 1 = q) (kk : mv_Sim l N0 D dA own cc nL fr lo ret ini rv q L (.double (FP.i2d x) :: st) f) : mv_Sim l N0 D dA own cc nL fr lo ret ini rv pc L (.int x :: st) f := by
  subst hp
  exact ⟨kk.1, fun p e s m args below meth c n0 s0 hC h H locs ls v h' g1 g2 hP hS hl hq hf => lv_i2d hC.1 hC.2.1 hdg (kk.2 p e s m args below meth c n0 s0 hC h H locs ls v h' g1 g2 hP hS hl hq hf)⟩

theorem mv_dconst0  (hdg : decode cc pc = .ok (.dconst 0, 1))  (hp : pc + 1 = q) (kk : mv_Sim l N0 D dA own cc nL fr lo ret ini rv q L (.double FP.dconst0 :: st) f) : mv_Sim l N0 D dA own cc nL fr lo ret ini rv pc L st f := by
  subst hp
  exact ⟨kk.1, fun p e s m args below meth c n0 s0 hC h H locs ls v h' g1 g2 hP hS hl hq hf => lv_dconst0 hC.1 hC.2.1 hdg (kk.2 p e s m args below meth c n0 s0 hC h H locs ls v h' g1 g2 hP hS hl hq hf)⟩

theorem mv_goto {off : Int} (hdg : decode cc pc = .ok (.goto off, 3)) (ht : (pc : Int) + off = (q : Int)) (kk : mv_Sim l N0 D dA own cc nL fr lo ret ini rv q L st f) : mv_Sim l N0 D dA own cc nL fr lo ret ini rv pc L st f :=
  ⟨kk.1, fun p e s m args below meth c n0 s0 hC h H locs ls v h' g1 g2 hP hS hl hq hf => lv_goto hC.1 hC.2.1 hdg ht (kk.2 p e s m args below meth c n0 s0 hC h H locs ls v h' g1 g2 hP hS hl hq hf)⟩
theorem mv_sub {L' : List (Nat × Value)} (ks : List Nat) (hL : lv_pick L ks = L') (kk : mv_Sim l N0 D dA own cc nL fr lo ret ini rv pc L' st f) : mv_Sim l N0 D dA own cc nL fr lo ret ini rv pc L st f :=
  ⟨kk.1, fun p e s m args below meth c n0 s0 hC h H locs ls v h' g1 g2 hP hS hl hq hf => kk.2 p e s m args below meth c n0 s0 hC h H locs ls v h' g1 g2 hP hS (lv_sub hl ks hL) (hq.imp id (fun hq z hz => by rw [← hL] at hz; obtain ⟨k, -, hk⟩ := List.mem_filterMap.mp hz; exact hq z (List.mem_of_getElem? hk))) hf⟩
theorem mv_let {x : Int32} {g : Int32 → mv_M α} (kk : ∀ y, mv_Sim l N0 D dA own cc nL fr lo ret ini rv pc L (.int y :: st) (g y)) : mv_Sim l N0 D dA own cc nL fr lo ret ini rv pc L (.int x :: st) (mv_bd (mv_pu x) g) :=
  ⟨mv_Gr.bd (mv_Gr.pu _) (fun a => (kk a).1), fun p e s m args below meth c n0 s0 hC h H locs ls v h' g1 g2 hP hS hl hq hf => (kk x).2 p e s m args below meth c n0 s0 hC h H locs ls v h' g1 g2 hP hS hl hq hf⟩
theorem mv_ite {cd : Prop} [Decidable cd] {f g : mv_M α} (k1 : cd → mv_Sim l N0 D dA own cc nL fr lo ret ini rv pc L st f) (k2 : ¬ cd → mv_Sim l N0 D dA own cc nL fr lo ret ini rv pc L st g) : mv_Sim l N0 D dA own cc nL fr lo ret ini rv pc L st (if cd then f else g) := by
  by_cases z : cd
  · rw [if_pos z]; exact k1 z
  · rw [if_neg z]; exact k2 z
theorem mv_store {ls' : Array Slot} {i : Nat} {x : Value} (ks : List Nat) (h : lv_has ls' nL ((i, x) :: L.filter (fun q => !(q.1 == i) && !(q.1 + 1 == i && q.2.category == 2)))) (hq : ∀ q ∈ L, q.2.category = 1) (hks : ks.all (fun j => match L[j]? with | some q => !(q.1 == i) | none => true) = true) : lv_has ls' nL ((i, x) :: lv_pick L ks) := by
  refine ⟨h.1, h.2.1, fun z hz => ?_⟩
  rcases List.mem_cons.mp hz with rfl | hz
  · exact h.2.2 _ List.mem_cons_self
  · obtain ⟨k, hk, hk2⟩ := List.mem_filterMap.mp hz
    have hm := List.mem_of_getElem? hk2
    have h1 := List.all_eq_true.mp hks k hk
    rw [hk2] at h1
    refine h.2.2 z (List.mem_cons_of_mem _ (List.mem_filter.mpr ⟨hm, ?_⟩))
    have h2 := hq z hm
    simp only [h2]
    simpa using h1
theorem mv_storeq {i : Nat} {x : Value} (ks : List Nat) (hx : x.category = 1) (hq : ∀ q ∈ L, q.2.category = 1) : ∀ q ∈ (i, x) :: lv_pick L ks, q.2.category = 1 := by
  intro z hz
  rcases List.mem_cons.mp hz with rfl | hz
  · exact hx
  · obtain ⟨k, -, hk2⟩ := List.mem_filterMap.mp hz
    exact hq z (List.mem_of_getElem? hk2)

theorem mv_istore_n {k : Fin 4} {i : Nat} {x : Int32} {L' : List (Nat × Value)} (ks : List Nat) (ho : own ≠ RL) (hdg : decode cc pc = .ok (.istore_n k, 1)) (hi : (k : Nat) = i) (hn : i < nL) (hks : ks.all (fun j => match L[j]? with | some q => !(q.1 == i) | none => true) = true) (hL : (i, .int x) :: lv_pick L ks = L') (hp : pc + 1 = q) (kk : mv_Sim l N0 D dA own cc nL fr lo ret ini rv q L' st f) : mv_Sim l N0 D dA own cc nL fr lo ret ini rv pc L (.int x :: st) f := by
  subst hp
  subst hL
  exact ⟨kk.1, fun p e s m args below meth c n0 s0 hC h H locs ls v h' g1 g2 hP hS hl hq hf => lv_istore_n hC.1 hC.2.1 hdg hi hl hn rfl (fun ls hl => kk.2 p e s m args below meth c n0 s0 hC h H locs ls v h' g1 g2 hP hS (mv_store ks hl (hq.resolve_left ho) hks) (Or.inr (mv_storeq ks rfl (hq.resolve_left ho))) hf)⟩

theorem mv_istore {i : Nat} {x : Int32} {L' : List (Nat × Value)} (ks : List Nat) (ho : own ≠ RL) (hdg : decode cc pc = .ok (.istore i, 2)) (hn : i < nL) (hks : ks.all (fun j => match L[j]? with | some q => !(q.1 == i) | none => true) = true) (hL : (i, .int x) :: lv_pick L ks = L') (hp : pc + 2 = q) (kk : mv_Sim l N0 D dA own cc nL fr lo ret ini rv q L' st f) : mv_Sim l N0 D dA own cc nL fr lo ret ini rv pc L (.int x :: st) f := by
  subst hp
  subst hL
  exact ⟨kk.1, fun p e s m args below meth c n0 s0 hC h H locs ls v h' g1 g2 hP hS hl hq hf => lv_istore hC.1 hC.2.1 hdg hl hn rfl (fun ls hl => kk.2 p e s m args below meth c n0 s0 hC h H locs ls v h' g1 g2 hP hS (mv_store ks hl (hq.resolve_left ho) hks) (Or.inr (mv_storeq ks rfl (hq.resolve_left ho))) hf)⟩

theorem mv_astore_n {k : Fin 4} {i : Nat} {r : Option Nat} {L' : List (Nat × Value)} (ks : List Nat) (ho : own ≠ RL) (hdg : decode cc pc = .ok (.astore_n k, 1)) (hi : (k : Nat) = i) (hn : i < nL) (hks : ks.all (fun j => match L[j]? with | some q => !(q.1 == i) | none => true) = true) (hL : (i, mv_vr N0 r) :: lv_pick L ks = L') (hp : pc + 1 = q) (kk : mv_Sim l N0 D dA own cc nL fr lo ret ini rv q L' st f) : mv_Sim l N0 D dA own cc nL fr lo ret ini rv pc L (mv_vr N0 r :: st) f := by
  subst hp
  subst hL
  cases r with
  | none => exact ⟨kk.1, fun p e s m args below meth c n0 s0 hC h H locs ls v h' g1 g2 hP hS hl hq hf => lv_astore_nN hC.1 hC.2.1 hdg hi hl hn rfl (fun ls hl => kk.2 p e s m args below meth c n0 s0 hC h H locs ls v h' g1 g2 hP hS (mv_store ks hl (hq.resolve_left ho) hks) (Or.inr (mv_storeq ks rfl (hq.resolve_left ho))) hf)⟩
  | some a => exact ⟨kk.1, fun p e s m args below meth c n0 s0 hC h H locs ls v h' g1 g2 hP hS hl hq hf => lv_astore_n hC.1 hC.2.1 hdg hi hl hn rfl (fun ls hl => kk.2 p e s m args below meth c n0 s0 hC h H locs ls v h' g1 g2 hP hS (mv_store ks hl (hq.resolve_left ho) hks) (Or.inr (mv_storeq ks rfl (hq.resolve_left ho))) hf)⟩

theorem mv_astore {i : Nat} {r : Option Nat} {L' : List (Nat × Value)} (ks : List Nat) (ho : own ≠ RL) (hdg : decode cc pc = .ok (.astore i, 2)) (hn : i < nL) (hks : ks.all (fun j => match L[j]? with | some q => !(q.1 == i) | none => true) = true) (hL : (i, mv_vr N0 r) :: lv_pick L ks = L') (hp : pc + 2 = q) (kk : mv_Sim l N0 D dA own cc nL fr lo ret ini rv q L' st f) : mv_Sim l N0 D dA own cc nL fr lo ret ini rv pc L (mv_vr N0 r :: st) f := by
  subst hp
  subst hL
  cases r with
  | none => exact ⟨kk.1, fun p e s m args below meth c n0 s0 hC h H locs ls v h' g1 g2 hP hS hl hq hf => lv_astoreN hC.1 hC.2.1 hdg hl hn rfl (fun ls hl => kk.2 p e s m args below meth c n0 s0 hC h H locs ls v h' g1 g2 hP hS (mv_store ks hl (hq.resolve_left ho) hks) (Or.inr (mv_storeq ks rfl (hq.resolve_left ho))) hf)⟩
  | some a => exact ⟨kk.1, fun p e s m args below meth c n0 s0 hC h H locs ls v h' g1 g2 hP hS hl hq hf => lv_astore hC.1 hC.2.1 hdg hl hn rfl (fun ls hl => kk.2 p e s m args below meth c n0 s0 hC h H locs ls v h' g1 g2 hP hS (mv_store ks hl (hq.resolve_left ho) hks) (Or.inr (mv_storeq ks rfl (hq.resolve_left ho))) hf)⟩

theorem mv_iinc {i : Nat} {n : Int} {x y : Int32} {L' : List (Nat × Value)} (j : Nat) (ks : List Nat) (ho : own ≠ RL) (hdg : decode cc pc = .ok (.iinc i n, 3)) (hj : L[j]? = some (i, .int x)) (hv : x + Int32.ofInt n = y) (hn : i < nL) (hks : ks.all (fun j => match L[j]? with | some q => !(q.1 == i) | none => true) = true) (hL : (i, .int y) :: lv_pick L ks = L') (hp : pc + 3 = q) (kk : mv_Sim l N0 D dA own cc nL fr lo ret ini rv q L' st f) : mv_Sim l N0 D dA own cc nL fr lo ret ini rv pc L st f := by
  subst hp
  subst hL
  exact ⟨kk.1, fun p e s m args below meth c n0 s0 hC h H locs ls v h' g1 g2 hP hS hl hq hf => lv_iinc hC.1 hC.2.1 hdg hl hj hv hn rfl (fun ls hl => kk.2 p e s m args below meth c n0 s0 hC h H locs ls v h' g1 g2 hP hS (mv_store ks hl (hq.resolve_left ho) hks) (Or.inr (mv_storeq ks rfl (hq.resolve_left ho))) hf)⟩

theorem mv_if_eq {x : Int32} {off : Int} {tgt : Nat} {f1 f2 : mv_M α} (hdg : decode cc pc = .ok (.ifCond .eq off, 3)) (ht : (pc : Int) + off = (tgt : Int)) (hp : pc + 3 = q) (k1 : mv_Sim l N0 D dA own cc nL fr lo ret ini rv tgt L st f1) (k2 : mv_Sim l N0 D dA own cc nL fr lo ret ini rv q L st f2) : mv_Sim l N0 D dA own cc nL fr lo ret ini rv pc L (.int x :: st) (if x = 0 then f1 else f2) := by
  subst hp
  exact ⟨mv_Gr.ite k1.1 k2.1, fun p e s m args below meth c n0 s0 hC h H locs ls v h' g1 g2 hP hS hl hq hf => lv_if_eq hC.1 hC.2.1 hdg ht (fun z => k1.2 p e s m args below meth c n0 s0 hC h H locs ls v h' g1 g2 hP hS hl hq (by rw [if_pos z] at hf; exact hf)) (fun z => k2.2 p e s m args below meth c n0 s0 hC h H locs ls v h' g1 g2 hP hS hl hq (by rw [if_neg z] at hf; exact hf))⟩

theorem mv_icmp_eq {x y : Int32} {off : Int} {tgt : Nat} {f1 f2 : mv_M α} (hdg : decode cc pc = .ok (.if_icmp .eq off, 3)) (ht : (pc : Int) + off = (tgt : Int)) (hp : pc + 3 = q) (k1 : mv_Sim l N0 D dA own cc nL fr lo ret ini rv tgt L st f1) (k2 : mv_Sim l N0 D dA own cc nL fr lo ret ini rv q L st f2) : mv_Sim l N0 D dA own cc nL fr lo ret ini rv pc L (.int y :: .int x :: st) (if x = y then f1 else f2) := by
  subst hp
  exact ⟨mv_Gr.ite k1.1 k2.1, fun p e s m args below meth c n0 s0 hC h H locs ls v h' g1 g2 hP hS hl hq hf => lv_icmp_eq hC.1 hC.2.1 hdg ht (fun z => k1.2 p e s m args below meth c n0 s0 hC h H locs ls v h' g1 g2 hP hS hl hq (by rw [if_pos z] at hf; exact hf)) (fun z => k2.2 p e s m args below meth c n0 s0 hC h H locs ls v h' g1 g2 hP hS hl hq (by rw [if_neg z] at hf; exact hf))⟩

theorem mv_if_ne {x : Int32} {off : Int} {tgt : Nat} {f1 f2 : mv_M α} (hdg : decode cc pc = .ok (.ifCond .ne off, 3)) (ht : (pc : Int) + off = (tgt : Int)) (hp : pc + 3 = q) (k1 : mv_Sim l N0 D dA own cc nL fr lo ret ini rv tgt L st f1) (k2 : mv_Sim l N0 D dA own cc nL fr lo ret ini rv q L st f2) : mv_Sim l N0 D dA own cc nL fr lo ret ini rv pc L (.int x :: st) (if x = 0 then f2 else f1) := by
  subst hp
  exact ⟨mv_Gr.ite k2.1 k1.1, fun p e s m args below meth c n0 s0 hC h H locs ls v h' g1 g2 hP hS hl hq hf => lv_if_ne hC.1 hC.2.1 hdg ht (fun z => k1.2 p e s m args below meth c n0 s0 hC h H locs ls v h' g1 g2 hP hS hl hq (by rw [if_neg z] at hf; exact hf)) (fun z => k2.2 p e s m args below meth c n0 s0 hC h H locs ls v h' g1 g2 hP hS hl hq (by rw [if_pos z] at hf; exact hf))⟩

theorem mv_icmp_ne {x y : Int32} {off : Int} {tgt : Nat} {f1 f2 : mv_M α} (hdg : decode cc pc = .ok (.if_icmp .ne off, 3)) (ht : (pc : Int) + off = (tgt : Int)) (hp : pc + 3 = q) (k1 : mv_Sim l N0 D dA own cc nL fr lo ret ini rv tgt L st f1) (k2 : mv_Sim l N0 D dA own cc nL fr lo ret ini rv q L st f2) : mv_Sim l N0 D dA own cc nL fr lo ret ini rv pc L (.int y :: .int x :: st) (if x = y then f2 else f1) := by
  subst hp
  exact ⟨mv_Gr.ite k2.1 k1.1, fun p e s m args below meth c n0 s0 hC h H locs ls v h' g1 g2 hP hS hl hq hf => lv_icmp_ne hC.1 hC.2.1 hdg ht (fun z => k1.2 p e s m args below meth c n0 s0 hC h H locs ls v h' g1 g2 hP hS hl hq (by rw [if_neg z] at hf; exact hf)) (fun z => k2.2 p e s m args below meth c n0 s0 hC h H locs ls v h' g1 g2 hP hS hl hq (by rw [if_pos z] at hf; exact hf))⟩

theorem mv_if_lt {x : Int32} {off : Int} {tgt : Nat} {f1 f2 : mv_M α} (hdg : decode cc pc = .ok (.ifCond .lt off, 3)) (ht : (pc : Int) + off = (tgt : Int)) (hp : pc + 3 = q) (k1 : mv_Sim l N0 D dA own cc nL fr lo ret ini rv tgt L st f1) (k2 : mv_Sim l N0 D dA own cc nL fr lo ret ini rv q L st f2) : mv_Sim l N0 D dA own cc nL fr lo ret ini rv pc L (.int x :: st) (if x < 0 then f1 else f2) := by
  subst hp
  exact ⟨mv_Gr.ite k1.1 k2.1, fun p e s m args below meth c n0 s0 hC h H locs ls v h' g1 g2 hP hS hl hq hf => lv_if_lt hC.1 hC.2.1 hdg ht (fun z => k1.2 p e s m args below meth c n0 s0 hC h H locs ls v h' g1 g2 hP hS hl hq (by rw [if_pos z] at hf; exact hf)) (fun z => k2.2 p e s m args below meth c n0 s0 hC h H locs ls v h' g1 g2 hP hS hl hq (by rw [if_neg z] at hf; exact hf))⟩

theorem mv_icmp_lt {x y : Int32} {off : Int} {tgt : Nat} {f1 f2 : mv_M α} (hdg : decode cc pc = .ok (.if_icmp .lt off, 3)) (ht : (pc : Int) + off = (tgt : Int)) (hp : pc + 3 = q) (k1 : mv_Sim l N0 D dA own cc nL fr lo ret ini rv tgt L st f1) (k2 : mv_Sim l N0 D dA own cc nL fr lo ret ini rv q L st f2) : mv_Sim l N0 D dA own cc nL fr lo ret ini rv pc L (.int y :: .int x :: st) (if x < y then f1 else f2) := by
  subst hp
  exact ⟨mv_Gr.ite k1.1 k2.1, fun p e s m args below meth c n0 s0 hC h H locs ls v h' g1 g2 hP hS hl hq hf => lv_icmp_lt hC.1 hC.2.1 hdg ht (fun z => k1.2 p e s m args below meth c n0 s0 hC h H locs ls v h' g1 g2 hP hS hl hq (by rw [if_pos z] at hf; exact hf)) (fun z => k2.2 p e s m args below meth c n0 s0 hC h H locs ls v h' g1 g2 hP hS hl hq (by rw [if_neg z] at hf; exact hf))⟩

theorem mv_if_ge {x : Int32} {off : Int} {tgt : Nat} {f1 f2 : mv_M α} (hdg : decode cc pc = .ok (.ifCond .ge off, 3)) (ht : (pc : Int) + off = (tgt : Int)) (hp : pc + 3 = q) (k1 : mv_Sim l N0 D dA own cc nL fr lo ret ini rv tgt L st f1) (k2 : mv_Sim l N0 D dA own cc nL fr lo ret ini rv q L st f2) : mv_Sim l N0 D dA own cc nL fr lo ret ini rv pc L (.int x :: st) (if 0 ≤ x then f1 else f2) := by
  subst hp
  exact ⟨mv_Gr.ite k1.1 k2.1, fun p e s m args below meth c n0 s0 hC h H locs ls v h' g1 g2 hP hS hl hq hf => lv_if_ge hC.1 hC.2.1 hdg ht (fun z => k1.2 p e s m args below meth c n0 s0 hC h H locs ls v h' g1 g2 hP hS hl hq (by rw [if_pos z] at hf; exact hf)) (fun z => k2.2 p e s m args below meth c n0 s0 hC h H locs ls v h' g1 g2 hP hS hl hq (by rw [if_neg z] at hf; exact hf))⟩

theorem mv_icmp_ge {x y : Int32} {off : Int} {tgt : Nat} {f1 f2 : mv_M α} (hdg : decode cc pc = .ok (.if_icmp .ge off, 3)) (ht : (pc : Int) + off = (tgt : Int)) (hp : pc + 3 = q) (k1 : mv_Sim l N0 D dA own cc nL fr lo ret ini rv tgt L st f1) (k2 : mv_Sim l N0 D dA own cc nL fr lo ret ini rv q L st f2) : mv_Sim l N0 D dA own cc nL fr lo ret ini rv pc L (.int y :: .int x :: st) (if y ≤ x then f1 else f2) := by
  subst hp
  exact ⟨mv_Gr.ite k1.1 k2.1, fun p e s m args below meth c n0 s0 hC h H locs ls v h' g1 g2 hP hS hl hq hf => lv_icmp_ge hC.1 hC.2.1 hdg ht (fun z => k1.2 p e s m args below meth c n0 s0 hC h H locs ls v h' g1 g2 hP hS hl hq (by rw [if_pos z] at hf; exact hf)) (fun z => k2.2 p e s m args below meth c n0 s0 hC h H locs ls v h' g1 g2 hP hS hl hq (by rw [if_neg z] at hf; exact hf))⟩

theorem mv_if_gt {x : Int32} {off : Int} {tgt : Nat} {f1 f2 : mv_M α} (hdg : decode cc pc = .ok (.ifCond .gt off, 3)) (ht : (pc : Int) + off = (tgt : Int)) (hp : pc + 3 = q) (k1 : mv_Sim l N0 D dA own cc nL fr lo ret ini rv tgt L st f1) (k2 : mv_Sim l N0 D dA own cc nL fr lo ret ini rv q L st f2) : mv_Sim l N0 D dA own cc nL fr lo ret ini rv pc L (.int x :: st) (if 0 < x then f1 else f2) := by
  subst hp
  exact ⟨mv_Gr.ite k1.1 k2.1, fun p e s m args below meth c n0 s0 hC h H locs ls v h' g1 g2 hP hS hl hq hf => lv_if_gt hC.1 hC.2.1 hdg ht (fun z => k1.2 p e s m args below meth c n0 s0 hC h H locs ls v h' g1 g2 hP hS hl hq (by rw [if_pos z] at hf; exact hf)) (fun z => k2.2 p e s m args below meth c n0 s0 hC h H locs ls v h' g1 g2 hP hS hl hq (by rw [if_neg z] at hf; exact hf))⟩

theorem mv_icmp_gt {x y : Int32} {off : Int} {tgt : Nat} {f1 f2 : mv_M α} (hdg : decode cc pc = .ok (.if_icmp .gt off, 3)) (ht : (pc : Int) + off = (tgt : Int)) (hp : pc + 3 = q) (k1 : mv_Sim l N0 D dA own cc nL fr lo ret ini rv tgt L st f1) (k2 : mv_Sim l N0 D dA own cc nL fr lo ret ini rv q L st f2) : mv_Sim l N0 D dA own cc nL fr lo ret ini rv pc L (.int y :: .int x :: st) (if y < x then f1 else f2) := by
  subst hp
  exact ⟨mv_Gr.ite k1.1 k2.1, fun p e s m args below meth c n0 s0 hC h H locs ls v h' g1 g2 hP hS hl hq hf => lv_icmp_gt hC.1 hC.2.1 hdg ht (fun z => k1.2 p e s m args below meth c n0 s0 hC h H locs ls v h' g1 g2 hP hS hl hq (by rw [if_pos z] at hf; exact hf)) (fun z => k2.2 p e s m args below meth c n0 s0 hC h H locs ls v h' g1 g2 hP hS hl hq (by rw [if_neg z] at hf; exact hf))⟩

theorem mv_if_le {x : Int32} {off : Int} {tgt : Nat} {f1 f2 : mv_M α} (hdg : decode cc pc = .ok (.ifCond .le off, 3)) (ht : (pc : Int) + off = (tgt : Int)) (hp : pc + 3 = q) (k1 : mv_Sim l N0 D dA own cc nL fr lo ret ini rv tgt L st f1) (k2 : mv_Sim l N0 D dA own cc nL fr lo ret ini rv q L st f2) : mv_Sim l N0 D dA own cc nL fr lo ret ini rv pc L (.int x :: st) (if x ≤ 0 then f1 else f2) := by
  subst hp
  exact ⟨mv_Gr.ite k1.1 k2.1, fun p e s m args below meth c n0 s0 hC h H locs ls v h' g1 g2 hP hS hl hq hf => lv_if_le hC.1 hC.2.1 hdg ht (fun z => k1.2 p e s m args below meth c n0 s0 hC h H locs ls v h' g1 g2 hP hS hl hq (by rw [if_pos z] at hf; exact hf)) (fun z => k2.2 p e s m args below meth c n0 s0 hC h H locs ls v h' g1 g2 hP hS hl hq (by rw [if_neg z] at hf; exact hf))⟩

theorem mv_icmp_le {x y : Int32} {off : Int} {tgt : Nat} {f1 f2 : mv_M α} (hdg : decode cc pc = .ok (.if_icmp .le off, 3)) (ht : (pc : Int) + off = (tgt : Int)) (hp : pc + 3 = q) (k1 : mv_Sim l N0 D dA own cc nL fr lo ret ini rv tgt L st f1) (k2 : mv_Sim l N0 D dA own cc nL fr lo ret ini rv q L st f2) : mv_Sim l N0 D dA own cc nL fr lo ret ini rv pc L (.int y :: .int x :: st) (if x ≤ y then f1 else f2) := by
  subst hp
  exact ⟨mv_Gr.ite k1.1 k2.1, fun p e s m args below meth c n0 s0 hC h H locs ls v h' g1 g2 hP hS hl hq hf => lv_icmp_le hC.1 hC.2.1 hdg ht (fun z => k1.2 p e s m args below meth c n0 s0 hC h H locs ls v h' g1 g2 hP hS hl hq (by rw [if_pos z] at hf; exact hf)) (fun z => k2.2 p e s m args below meth c n0 s0 hC h H locs ls v h' g1 g2 hP hS hl hq (by rw [if_neg z] at hf; exact hf))⟩

theorem mv_ifnull {r : Option Nat} {off : Int} {tgt : Nat} {f1 f2 : mv_M α} (hdg : decode cc pc = .ok (.ifnull off, 3)) (ht : (pc : Int) + off = (tgt : Int)) (hp : pc + 3 = q) (k1 : mv_Sim l N0 D dA own cc nL fr lo ret ini rv tgt L st f1) (k2 : mv_Sim l N0 D dA own cc nL fr lo ret ini rv q L st f2) : mv_Sim l N0 D dA own cc nL fr lo ret ini rv pc L (mv_vr N0 r :: st) (if r = none then f1 else f2) := by
  subst hp
  cases r with
  | none => rw [if_pos rfl]; exact ⟨k1.1, fun p e s m args below meth c n0 s0 hC h H locs ls v h' g1 g2 hP hS hl hq hf => lv_ifnullN hC.1 hC.2.1 hdg ht (k1.2 p e s m args below meth c n0 s0 hC h H locs ls v h' g1 g2 hP hS hl hq hf)⟩
  | some a => rw [if_neg (fun z => by cases z)]; exact ⟨k2.1, fun p e s m args below meth c n0 s0 hC h H locs ls v h' g1 g2 hP hS hl hq hf => lv_ifnull hC.1 hC.2.1 hdg (k2.2 p e s m args below meth c n0 s0 hC h H locs ls v h' g1 g2 hP hS hl hq hf)⟩
theorem mv_ifnonnull {r : Option Nat} {off : Int} {tgt : Nat} {f1 f2 : mv_M α} (hdg : decode cc pc = .ok (.ifnonnull off, 3)) (ht : (pc : Int) + off = (tgt : Int)) (hp : pc + 3 = q) (k1 : mv_Sim l N0 D dA own cc nL fr lo ret ini rv tgt L st f1) (k2 : mv_Sim l N0 D dA own cc nL fr lo ret ini rv q L st f2) : mv_Sim l N0 D dA own cc nL fr lo ret ini rv pc L (mv_vr N0 r :: st) (if r = none then f2 else f1) := by
  subst hp
  cases r with
  | none => rw [if_pos rfl]; exact ⟨k2.1, fun p e s m args below meth c n0 s0 hC h H locs ls v h' g1 g2 hP hS hl hq hf => lv_ifnonnullN hC.1 hC.2.1 hdg (k2.2 p e s m args below meth c n0 s0 hC h H locs ls v h' g1 g2 hP hS hl hq hf)⟩
  | some a => rw [if_neg (fun z => by cases z)]; exact ⟨k1.1, fun p e s m args below meth c n0 s0 hC h H locs ls v h' g1 g2 hP hS hl hq hf => lv_ifnonnull hC.1 hC.2.1 hdg ht (k1.2 p e s m args below meth c n0 s0 hC h H locs ls v h' g1 g2 hP hS hl hq hf)⟩
theorem mv_tabIn {x : Int32} {dflt b1 b2 : Int} {offs : Array Int} {len : Nat} {off : Int} (hdg : decode cc pc = .ok (.tableswitch dflt b1 b2 offs, len)) (h1 : ¬ x.toInt < b1) (h2 : ¬ b2 < x.toInt) (ho : offs[(x.toInt - b1).toNat]? = some off) (ht : (pc : Int) + off = (q : Int)) (kk : mv_Sim l N0 D dA own cc nL fr lo ret ini rv q L st f) : mv_Sim l N0 D dA own cc nL fr lo ret ini rv pc L (.int x :: st) f :=
  ⟨kk.1, fun p e s m args below meth c n0 s0 hC h H locs ls v h' g1 g2 hP hS hl hq hf => lv_tableIn hC.1 hC.2.1 hdg h1 h2 ho ht (kk.2 p e s m args below meth c n0 s0 hC h H locs ls v h' g1 g2 hP hS hl hq hf)⟩
theorem mv_tabOut {x : Int32} {dflt b1 b2 : Int} {offs : Array Int} {len : Nat} (hdg : decode cc pc = .ok (.tableswitch dflt b1 b2 offs, len)) (h1 : x.toInt < b1 ∨ b2 < x.toInt) (ht : (pc : Int) + dflt = (q : Int)) (kk : mv_Sim l N0 D dA own cc nL fr lo ret ini rv q L st f) : mv_Sim l N0 D dA own cc nL fr lo ret ini rv pc L (.int x :: st) f :=
  ⟨kk.1, fun p e s m args below meth c n0 s0 hC h H locs ls v h' g1 g2 hP hS hl hq hf => lv_tableOut hC.1 hC.2.1 hdg h1 ht (kk.2 p e s m args below meth c n0 s0 hC h H locs ls v h' g1 g2 hP hS hl hq hf)⟩
theorem mv_irem {x y : Int32} {g : Int32 → mv_M α} (hdg : decode cc pc = .ok (.irem, 1)) (hp : pc + 1 = q) (kk : ∀ z, mv_Sim l N0 D dA own cc nL fr lo ret ini rv q L (.int z :: st) (g z)) : mv_Sim l N0 D dA own cc nL fr lo ret ini rv pc L (.int y :: .int x :: st) (mv_bd (mv_rm x y) g) := by
  subst hp
  refine ⟨mv_Gr.bd mv_Gr.rm (fun a => (kk a).1), fun p e s m args below meth c n0 s0 hC h H locs ls v h' g1 g2 hP hS hl hq hf => ?_⟩
  by_cases hy : y = 0
  · unfold mv_rm at hf; rw [if_pos hy] at hf; cases hf
  · unfold mv_rm at hf; rw [if_neg hy] at hf
    exact lv_irem hC.1 hC.2.1 hdg hy ((kk _).2 p e s m args below meth c n0 s0 hC h H locs ls v h' g1 g2 hP hS hl hq hf)
theorem mv_ddiv {x y : UInt64} {g : UInt64 → mv_M α} (hdg : decode cc pc = .ok (.ddiv, 1)) (hp : pc + 1 = q) (kk : ∀ z, mv_Sim l N0 D dA own cc nL fr lo ret ini rv q L (.double z :: st) (g z)) : mv_Sim l N0 D dA own cc nL fr lo ret ini rv pc L (.double y :: .double x :: st) (mv_bd (mv_dd x y) g) := by
  subst hp
  refine ⟨mv_Gr.bd mv_Gr.dd (fun a => (kk a).1), fun p e s m args below meth c n0 s0 hC h H locs ls v h' g1 g2 hP hS hl hq hf => ?_⟩
  by_cases hy : FP.ddiv x y &&& 0x7fffffffffffffff ≤ 0x7ff0000000000000
  · unfold mv_dd at hf; rw [if_pos hy] at hf
    exact lv_ddiv hC.1 hC.2.1 hdg hy ((kk _).2 p e s m args below meth c n0 s0 hC h H locs ls v h' g1 g2 hP hS hl hq hf)
  · unfold mv_dd at hf; rw [if_neg hy] at hf; cases hf

theorem mv_ldc2 {idx : Nat} {v : Int64} (hdg : decode cc pc = .ok (.ldc2_w idx, 3)) (hw : Cond.constantLong own idx v ∈ mv_wA) (hp : pc + 3 = q) (kk : mv_Sim l N0 D dA own cc nL fr lo ret ini rv q L (.long v :: st) f) : mv_Sim l N0 D dA own cc nL fr lo ret ini rv pc L st f := by
  subst hp
  exact ⟨kk.1, fun p e s m args below meth c n0 s0 hC h H locs ls v h' g1 g2 hP hS hl hq hf => lv_ldc2 hC.1 hC.2.1 hC.2.2.2.1 (hC.2.2.2.2.1 _ hw) hdg (kk.2 p e s m args below meth c n0 s0 hC h H locs ls v h' g1 g2 hP hS hl hq hf)⟩

theorem mv_lload_n {k : Fin 4} {i : Nat} {x : Int64} (j : Nat) (hdg : decode cc pc = .ok (.lload_n k, 1)) (hi : (k : Nat) = i) (hj : L[j]? = some (i, .long x)) (hp : pc + 1 = q) (kk : mv_Sim l N0 D dA own cc nL fr lo ret ini rv q L (.long x :: st) f) : mv_Sim l N0 D dA own cc nL fr lo ret ini rv pc L st f := by
  subst hp
  exact ⟨kk.1, fun p e s m args below meth c n0 s0 hC h H locs ls v h' g1 g2 hP hS hl hq hf => lv_lload_n hC.1 hC.2.1 hdg hi (lv_at hl j hj) (kk.2 p e s m args below meth c n0 s0 hC h H locs ls v h' g1 g2 hP hS hl hq hf)⟩

theorem mv_lload {i : Nat} {x : Int64} (j : Nat) (hdg : decode cc pc = .ok (.lload i, 2)) (hj : L[j]? = some (i, .long x)) (hp : pc + 2 = q) (kk : mv_Sim l N0 D dA own cc nL fr lo ret ini rv q L (.long x :: st) f) : mv_Sim l N0 D dA own cc nL fr lo ret ini rv pc L st f := by
  subst hp
  exact ⟨kk.1, fun p e s m args below meth c n0 s0 hC h H locs ls v h' g1 g2 hP hS hl hq hf => lv_lload hC.1 hC.2.1 hdg (lv_at hl j hj) (kk.2 p e s m args below meth c n0 s0 hC h H locs ls v h' g1 g2 hP hS hl hq hf)⟩

theorem mv_ladd {x y : Int64} (hdg : decode cc pc = .ok (.ladd, 1))  (hp : pc + 1 = q) (kk : mv_Sim l N0 D dA own cc nL fr lo ret ini rv q L (.long (x + y) :: st) f) : mv_Sim l N0 D dA own cc nL fr lo ret ini rv pc L (.long y :: .long x :: st) f := by
  subst hp
  exact ⟨kk.1, fun p e s m args below meth c n0 s0 hC h H locs ls v h' g1 g2 hP hS hl hq hf => lv_ladd hC.1 hC.2.1 hdg (kk.2 p e s m args below meth c n0 s0 hC h H locs ls v h' g1 g2 hP hS hl hq hf)⟩

theorem mv_lmul {x y : Int64} (hdg : decode cc pc = .ok (.lmul, 1))  (hp : pc + 1 = q) (kk : mv_Sim l N0 D dA own cc nL fr lo ret ini rv q L (.long (x * y) :: st) f) : mv_Sim l N0 D dA own cc nL fr lo ret ini rv pc L (.long y :: .long x :: st) f := by
  subst hp
  exact ⟨kk.1, fun p e s m args below meth c n0 s0 hC h H locs ls v h' g1 g2 hP hS hl hq hf => lv_lmul hC.1 hC.2.1 hdg (kk.2 p e s m args below meth c n0 s0 hC h H locs ls v h' g1 g2 hP hS hl hq hf)⟩

theorem mv_i2l {x : Int32} (hdg : decode cc pc = .ok (.i2l, 1))  (hp : pc + 1 = q) (kk : mv_Sim l N0 D dA own cc nL fr lo ret ini rv q L (.long (x.toInt64) :: st) f) : mv_Sim l N0 D dA own cc nL fr lo ret ini rv pc L (.int x :: st) f := by
  subst hp
  exact ⟨kk.1, fun p e s m args below meth c n0 s0 hC h H locs ls v h' g1 g2 hP hS hl hq hf => lv_i2l hC.1 hC.2.1 hdg rfl (kk.2 p e s m args below meth c n0 s0 hC h H locs ls v h' g1 g2 hP hS hl hq hf)⟩

theorem mv_lcmp {x y : Int64} (hdg : decode cc pc = .ok (.lcmp, 1))  (hp : pc + 1 = q) (kk : mv_Sim l N0 D dA own cc nL fr lo ret ini rv q L (.int (lg_cmp x y) :: st) f) : mv_Sim l N0 D dA own cc nL fr lo ret ini rv pc L (.long y :: .long x :: st) f := by
  subst hp
  exact ⟨kk.1, fun p e s m args below meth c n0 s0 hC h H locs ls v h' g1 g2 hP hS hl hq hf => W.lcmp hC.1 hC.2.1 hdg (kk.2 p e s m args below meth c n0 s0 hC h H locs ls v h' g1 g2 hP hS hl hq hf)⟩

theorem mv_dcmp {x y : UInt64} {op : CmpOp} (hdg : decode cc pc = .ok (.dcmp op, 1))  (hp : pc + 1 = q) (kk : mv_Sim l N0 D dA own cc nL fr lo ret ini rv q L (.int (Op.cmpValue (FP.dcmp x y) op) :: st) f) : mv_Sim l N0 D dA own cc nL fr lo ret ini rv pc L (.double y :: .double x :: st) f := by
  subst hp
  exact ⟨kk.1, fun p e s m args below meth c n0 s0 hC h H locs ls v h' g1 g2 hP hS hl hq hf => lv_dcmp hC.1 hC.2.1 hdg (kk.2 p e s m args below meth c n0 s0 hC h H locs ls v h' g1 g2 hP hS hl hq hf)⟩

theorem mw_istore_n {k : Fin 4} {i : Nat} {x : Int32} {L' : List (Nat × Value)} (ho : own = RL) (hdg : decode cc pc = .ok (.istore_n k, 1)) (hi : (k : Nat) = i) (hn : i < nL) (hL : (i, Value.int x) :: L.filter (fun q => !(q.1 == i) && !(q.1 + 1 == i && q.2.category == 2)) = L') (hp : pc + 1 = q) (kk : mv_Sim l N0 D dA own cc nL fr lo ret ini rv q L' st f) : mv_Sim l N0 D dA own cc nL fr lo ret ini rv pc L (.int x :: st) f := by
  subst hp
  exact ⟨kk.1, fun p e s m args below meth c n0 s0 hC h H locs ls v h' g1 g2 hP hS hl hq hf => lv_istore_n hC.1 hC.2.1 hdg hi hl hn hL (fun ls hl => kk.2 p e s m args below meth c n0 s0 hC h H locs ls v h' g1 g2 hP hS hl (Or.inl ho) hf)⟩

theorem mw_istore {i : Nat} {x : Int32} {L' : List (Nat × Value)} (ho : own = RL) (hdg : decode cc pc = .ok (.istore i, 2)) (hn : i < nL) (hL : (i, Value.int x) :: L.filter (fun q => !(q.1 == i) && !(q.1 + 1 == i && q.2.category == 2)) = L') (hp : pc + 2 = q) (kk : mv_Sim l N0 D dA own cc nL fr lo ret ini rv q L' st f) : mv_Sim l N0 D dA own cc nL fr lo ret ini rv pc L (.int x :: st) f := by
  subst hp
  exact ⟨kk.1, fun p e s m args below meth c n0 s0 hC h H locs ls v h' g1 g2 hP hS hl hq hf => lv_istore hC.1 hC.2.1 hdg hl hn hL (fun ls hl => kk.2 p e s m args below meth c n0 s0 hC h H locs ls v h' g1 g2 hP hS hl (Or.inl ho) hf)⟩

theorem mw_lstore_n {k : Fin 4} {i : Nat} {x : Int64} {L' : List (Nat × Value)} (ho : own = RL) (hdg : decode cc pc = .ok (.lstore_n k, 1)) (hi : (k : Nat) = i) (hn : i + 1 < nL) (hL : (i, Value.long x) :: L.filter (fun q => !(q.1 == i) && (!(q.1 == i + 1) && !(q.1 + 1 == i && q.2.category == 2))) = L') (hp : pc + 1 = q) (kk : mv_Sim l N0 D dA own cc nL fr lo ret ini rv q L' st f) : mv_Sim l N0 D dA own cc nL fr lo ret ini rv pc L (.long x :: st) f := by
  subst hp
  exact ⟨kk.1, fun p e s m args below meth c n0 s0 hC h H locs ls v h' g1 g2 hP hS hl hq hf => lv_lstore_n hC.1 hC.2.1 hdg hi hl hn hL (fun ls hl => kk.2 p e s m args below meth c n0 s0 hC h H locs ls v h' g1 g2 hP hS hl (Or.inl ho) hf)⟩

theorem mw_lstore {i : Nat} {x : Int64} {L' : List (Nat × Value)} (ho : own = RL) (hdg : decode cc pc = .ok (.lstore i, 2)) (hn : i + 1 < nL) (hL : (i, Value.long x) :: L.filter (fun q => !(q.1 == i) && (!(q.1 == i + 1) && !(q.1 + 1 == i && q.2.category == 2))) = L') (hp : pc + 2 = q) (kk : mv_Sim l N0 D dA own cc nL fr lo ret ini rv q L' st f) : mv_Sim l N0 D dA own cc nL fr lo ret ini rv pc L (.long x :: st) f := by
  subst hp
  exact ⟨kk.1, fun p e s m args below meth c n0 s0 hC h H locs ls v h' g1 g2 hP hS hl hq hf => lv_lstore hC.1 hC.2.1 hdg hl hn hL (fun ls hl => kk.2 p e s m args below meth c n0 s0 hC h H locs ls v h' g1 g2 hP hS hl (Or.inl ho) hf)⟩

theorem mw_iinc {i : Nat} {n : Int} {x y : Int32} {L' : List (Nat × Value)} (j : Nat) (ho : own = RL) (hdg : decode cc pc = .ok (.iinc i n, 3)) (hj : L[j]? = some (i, .int x)) (hv : x + Int32.ofInt n = y) (hn : i < nL) (hL : (i, Value.int y) :: L.filter (fun q => !(q.1 == i) && !(q.1 + 1 == i && q.2.category == 2)) = L') (hp : pc + 3 = q) (kk : mv_Sim l N0 D dA own cc nL fr lo ret ini rv q L' st f) : mv_Sim l N0 D dA own cc nL fr lo ret ini rv pc L st f := by
  subst hp
  exact ⟨kk.1, fun p e s m args below meth c n0 s0 hC h H locs ls v h' g1 g2 hP hS hl hq hf => lv_iinc hC.1 hC.2.1 hdg hl hj hv hn hL (fun ls hl => kk.2 p e s m args below meth c n0 s0 hC h H locs ls v h' g1 g2 hP hS hl (Or.inl ho) hf)⟩
theorem mv_letJ {x : Int64} {g : Int64 → mv_M α} (kk : ∀ y, mv_Sim l N0 D dA own cc nL fr lo ret ini rv pc L (.long y :: st) (g y)) : mv_Sim l N0 D dA own cc nL fr lo ret ini rv pc L (.long x :: st) (mv_bd (mv_pu x) g) :=
  ⟨mv_Gr.bd (mv_Gr.pu _) (fun a => (kk a).1), fun p e s m args below meth c n0 s0 hC h H locs ls v h' g1 g2 hP hS hl hq hf => (kk x).2 p e s m args below meth c n0 s0 hC h H locs ls v h' g1 g2 hP hS hl hq hf⟩

theorem mv_Qc_of {v : α} {h : mv_Hp} {H : Heap} {s t : State} {a : Array Value} {locs : List Loc} (hP : va_P D vwCl (mv_ws N0 dA h) H) (hS : va_S (fun q : Nat => N0 ≤ q) s.heap H locs) (ht : t.heap = H) : mv_Qc N0 D dA rv v h a s (.returned (rv v)) t := ⟨rfl, by rw [ht]; exact hP, hS.F ht⟩

theorem mv_iret {x : Int32} (hdg : decode cc pc = .ok (.ireturn, 1)) : mv_Sim l N0 D dA own cc nL fr lo (some .int) ini (mv_rI) pc L [.int x] (mv_pu x) :=
  ⟨mv_Gr.pu _, fun p e s m args below meth c n0 s0 hC h H locs ls v h' g1 g2 hP hS hl hq hf => by cases hf; exact W.iret hC.1 hC.2.1 hC.2.2.2.2.2.1 (fun t ht _ => mv_Qc_of (rv := mv_rI) hP hS ht) hS.2.2 hdg hC.2.2.2.2.2.2.1⟩
theorem mv_zret {x : Int32} (hdg : decode cc pc = .ok (.ireturn, 1)) : mv_Sim l N0 D dA own cc nL fr lo (some .boolean) ini (mv_rI) pc L [.int x] (mv_rz x) := by
  refine ⟨mv_Gr.rz, fun p e s m args below meth c n0 s0 hC h H locs ls v h' g1 g2 hP hS hl hq hf => ?_⟩
  unfold mv_rz at hf
  by_cases hx : x = 0 ∨ x = 1
  · rw [if_pos hx] at hf
    cases hf
    exact W.zret hC.1 hC.2.1 hC.2.2.2.2.2.1 (by rcases hx with rfl | rfl <;> rfl) (fun t ht _ => mv_Qc_of (rv := mv_rI) hP hS ht) hS.2.2 hdg hC.2.2.2.2.2.2.1
  · rw [if_neg hx] at hf; cases hf
theorem mv_vret (hdg : decode cc pc = .ok (.return_, 1)) : mv_Sim l N0 D dA own cc nL fr lo (none) ini (mv_rV) pc L [] (mv_pu ()) :=
  ⟨mv_Gr.pu _, fun p e s m args below meth c n0 s0 hC h H locs ls v h' g1 g2 hP hS hl hq hf => by cases hf; exact W.vret hC.1 hC.2.1 hC.2.2.2.2.2.1 (fun t ht _ => mv_Qc_of (rv := mv_rV) hP hS ht) hS.2.2 hdg hC.2.2.2.2.2.2.1⟩
theorem mv_aret {r : Option Nat} {C : String} (hdg : decode cc pc = .ok (.areturn, 1)) : mv_Sim l N0 D dA own cc nL fr lo (some (.object C)) ini (mv_rR N0) pc L [mv_vr N0 r] (mv_pu r) :=
  ⟨mv_Gr.pu _, fun p e s m args below meth c n0 s0 hC h H locs ls v h' g1 g2 hP hS hl hq hf => by cases hf; exact W.aret hC.1 hC.2.1 hC.2.2.2.2.2.1 (Or.inl ⟨C, rfl⟩) (by cases r with | none => exact Or.inl rfl | some a => exact Or.inr ⟨_, rfl⟩) (fun t ht _ => mv_Qc_of (rv := mv_rR N0) hP hS ht) hS.2.2 hdg hC.2.2.2.2.2.2.1⟩
theorem mv_dret {x : UInt64} (hdg : decode cc pc = .ok (.dreturn, 1)) : mv_Sim l N0 D dA own cc nL fr lo (some .double) ini (mv_rD) pc L [.double x] (mv_pu x) :=
  ⟨mv_Gr.pu _, fun p e s m args below meth c n0 s0 hC h H locs ls v h' g1 g2 hP hS hl hq hf => by cases hf; exact W.dret hC.1 hC.2.1 hC.2.2.2.2.2.1 (fun t ht _ => mv_Qc_of (rv := mv_rD) hP hS ht) hS.2.2 hdg hC.2.2.2.2.2.2.1⟩
theorem mv_lret {x : Int64} (hdg : decode cc pc = .ok (.lreturn, 1)) : mv_Sim l N0 D dA own cc nL fr lo (some .long) ini (mv_rJ) pc L [.long x] (mv_pu x) :=
  ⟨mv_Gr.pu _, fun p e s m args below meth c n0 s0 hC h H locs ls v h' g1 g2 hP hS hl hq hf => by cases hf; exact W.lret hC.1 hC.2.1 hC.2.2.2.2.2.1 (fun t ht _ => mv_Qc_of (rv := mv_rJ) hP hS ht) hS.2.2 hdg hC.2.2.2.2.2.2.1⟩
theorem mv_objInit {idx i : Nat} (hdg : decode cc pc = .ok (.invokespecial idx, 3)) (hw : Cond.methodLink own idx objectInit ∈ mv_wA ∧ Cond.instanceMethod objectInit ∈ mv_wA ∧ Cond.code objectInit ⟨#[0xb1]⟩ 1 none ∈ mv_wA) (hR : 1 ≤ fr ∧ 12 ≤ lo) (hp : pc + 3 = q) (kk : mv_Sim l N0 D dA own cc nL fr lo ret ini rv q L [] f) : mv_Sim l N0 D dA own cc nL fr lo ret ini rv pc L [mv_vr N0 (some i)] f := by
  subst hp
  refine ⟨kk.1, fun p e s m args below meth c n0 s0 hC h H locs ls v h' g1 g2 hP hS hl hq hf => ?_⟩
  exact W.objInit hC.1 hC.2.1 hC.2.2.2.1 (hC.2.2.2.2.1 _ hw.1) (hC.2.2.2.2.1 _ hw.2.1) (hC.2.2.2.2.1 _ hw.2.2) rfl (by rw [hC.2.2.1]; exact hl.1) rfl hdg hR.1 hR.2 (kk.2 p e s m args below meth c n0 s0 hC h H locs ls v h' g1 g2 hP hS hl hq hf)

/-- a field of a class: slot k of n -/
def mv_Fd (ci n k : Nat) (C : String) (T : u_T) (ty : Nat → FieldType) (rf : Bool) : Prop := vwCl[ci]? = some (C, T, n) ∧ ci < 8 ∧ k < n ∧ mv_rs ci k = rf ∧ (T k).1 = C ∧ (∀ w ∈ u_ws C T n, w ∈ mv_wA) ∧ (∀ k, k < n → parseFieldDescriptor (T k).2.2.1 = some (ty k)) ∧ (∀ a, a < n → ∀ b, b < n → a ≠ b → (T a).2.1 ≠ (T b).2.1)
def mv_lk (own : String) (idx k : Nat) (C : String) (T : u_T) : Prop := Cond.fieldLink own idx C (T k).2.1 (T k).2.2.1 ∈ mv_wA ∨ ∃ host, Cond.fieldLinkNest own idx C (T k).2.1 (T k).2.2.1 host ∈ mv_nest
def mv_fs (N0 : Nat) (h : mv_Hp) (i ci n : Nat) : List Value := (List.range n).map (fun k => if mv_rs ci k = true then mv_vr N0 (h.2.2.2 i k) else .int (h.2.2.1 i k))
theorem mv_cE_o {h : mv_Hp} {i ci n : Nat} (hci : ci < 8) : mv_cE N0 dA h i (ci, n) = .inr (ci, mv_fs N0 h i ci n) := by unfold mv_cE; rw [if_pos hci]; rfl
theorem mv_fs_get {h : mv_Hp} {i ci n k : Nat} (hk : k < n) : (mv_fs N0 h i ci n)[k]? = some (if mv_rs ci k = true then mv_vr N0 (h.2.2.2 i k) else .int (h.2.2.1 i k)) := by
  unfold mv_fs
  rw [List.getElem?_map, List.getElem?_range hk]
  rfl
theorem mv_u2_ne {β : Type} {F : Nat → Nat → β} {i k j : Nat} {x : β} (h : j ≠ i) : mv_u2 F i k x j = F j := by funext b; unfold mv_u2; rw [if_neg h]
theorem mv_u1_ne {β : Type} {F : Nat → Nat → β} {i j : Nat} {x : β} (h : j ≠ i) : mv_u1 F i x j = F j := by funext b; unfold mv_u1; rw [if_neg h]
theorem mv_cE_congr {h h' : mv_Hp} {j : Nat} {z : Nat × Nat} (h1 : h'.2.2.1 j = h.2.2.1 j) (h2 : h'.2.2.2 j = h.2.2.2 j) : mv_cE N0 dA h' j z = mv_cE N0 dA h j z := by unfold mv_cE; rw [h1, h2]
theorem mv_fs_setI {h : mv_Hp} {i ci n k : Nat} {x : Int32} (hr : mv_rs ci k = false) (hk : k < n) : (mv_fs N0 h i ci n).set k (.int x) = mv_fs N0 (h.1, h.2.1, mv_u2 h.2.2.1 i k x, h.2.2.2) i ci n := by
  apply List.ext_getElem?
  intro j
  by_cases hj : j < n
  · by_cases e : k = j
    · subst e
      rw [List.getElem?_set_self (by simp [mv_fs]; exact hj), mv_fs_get hj, if_neg (by rw [hr]; decide)]
      simp [mv_u2]
    · rw [List.getElem?_set_ne e, mv_fs_get hj, mv_fs_get hj]
      simp [mv_u2, show ¬ j = k from fun z => e z.symm]
  · rw [List.getElem?_eq_none (by simp [mv_fs]; omega), List.getElem?_eq_none (by simp [mv_fs]; omega)]
theorem mv_fs_setR {h : mv_Hp} {i ci n k : Nat} {x : Option Nat} (hr : mv_rs ci k = true) (hk : k < n) : (mv_fs N0 h i ci n).set k (mv_vr N0 x) = mv_fs N0 (h.1, h.2.1, h.2.2.1, mv_u2 h.2.2.2 i k x) i ci n := by
  apply List.ext_getElem?
  intro j
  by_cases hj : j < n
  · by_cases e : k = j
    · subst e
      rw [List.getElem?_set_self (by simp [mv_fs]; exact hj), mv_fs_get hj, if_pos hr]
      simp [mv_u2]
    · rw [List.getElem?_set_ne e, mv_fs_get hj, mv_fs_get hj]
      simp [mv_u2, show ¬ j = k from fun z => e z.symm]
  · rw [List.getElem?_eq_none (by simp [mv_fs]; omega), List.getElem?_eq_none (by simp [mv_fs]; omega)]
theorem mv_ws_o {h : mv_Hp} {i ci n : Nat} (hq : h.1[i]? = some (ci, n)) (hci : ci < 8) : (mv_ws N0 dA h)[i]? = some (N0 + i, .inr (ci, mv_fs N0 h i ci n)) := by rw [mv_ws_get hq, mv_cE_o hci]
theorem mv_ws_a {h : mv_Hp} {i n : Nat} (hq : h.1[i]? = some (8, n)) : (mv_ws N0 dA h)[i]? = some (N0 + i, .inl (dA 0, n, .inl (h.2.2.1 i))) := by rw [mv_ws_get hq]; rfl
theorem mv_ws_r {h : mv_Hp} {i n t : Nat} (ht : 1 ≤ t) (hq : h.1[i]? = some (8 + t, n)) : (mv_ws N0 dA h)[i]? = some (N0 + i, .inl (dA t, n, .inr (.inr (.inr (.inr (fun k => (h.2.2.2 i k).map (fun i => N0 + i))))))) := by
  rw [mv_ws_get hq]
  unfold mv_cE
  rw [if_neg (by omega), if_neg (by show ¬ 8 + t = 8; omega)]
  simp

theorem mv_getI {ci n k idx : Nat} {r : Option Nat} {C : String} {T : u_T} {ty : Nat → FieldType} {g : Int32 → mv_M α} (hF : mv_Fd ci n k C T ty false) (hw : mv_lk own idx k C T) (hdg : decode cc pc = .ok (.getfield idx, 3)) (hp : pc + 3 = q) (kk : ∀ x, mv_Sim l N0 D dA own cc nL fr lo ret ini rv q L (.int x :: st) (g x)) : mv_Sim l N0 D dA own cc nL fr lo ret ini rv pc L (mv_vr N0 r :: st) (mv_bd (mv_gI ci n k r) g) := by
  subst hp
  refine ⟨mv_Gr.bd mv_Gr.gI (fun a => (kk a).1), fun p e s m args below meth c n0 s0 hC h H locs ls v h' g1 g2 hP hS hl hq hf => ?_⟩
  obtain ⟨a, h1, e1, e2⟩ := mv_bd_of hf
  obtain ⟨i, rfl, hi, rfl, rfl⟩ := mv_gI_of e1
  obtain ⟨hc, hci, hk, hr, hT, hin, -, -⟩ := hF
  have hv := mv_fs_get (N0 := N0) (h := h) (i := i) (ci := ci) hk
  rw [if_neg (by rw [hr]; decide)] at hv
  rcases hw with hw | ⟨host, hw⟩
  · exact va_get (D := D) hC.1 hC.2.1 hC.2.2.2.2.1 hin hC.2.2.2.1 hC.2.2.2.2.2.2.2.2.1 hP i (mv_ws_o hi hci) hc k hk (hC.2.2.2.2.1 _ hw) (fun x hx => by rw [hT] at hx; exact hx) hv hdg ((kk _).2 p e s m args below meth c n0 s0 hC h H locs ls v h' g1 g2 hP hS hl hq e2)
  · exact va_getN (D := D) hC.1 hC.2.1 hC.2.2.2.2.1 hin hC.2.2.2.1 hC.2.2.2.2.2.2.2.2.1 hP i (mv_ws_o hi hci) hc k hk (va_Nw.use rfl (hC.2.2.2.2.2.2.2.2.2.1.1 _ hw)) (fun x hx => by rw [hT] at hx; exact hx) hv hdg ((kk _).2 p e s m args below meth c n0 s0 hC h H locs ls v h' g1 g2 hP hS hl hq e2)
theorem mv_getR {ci n k idx : Nat} {r : Option Nat} {C : String} {T : u_T} {ty : Nat → FieldType} {g : Option Nat → mv_M α} (hF : mv_Fd ci n k C T ty true) (hw : mv_lk own idx k C T) (hdg : decode cc pc = .ok (.getfield idx, 3)) (hp : pc + 3 = q) (kk : ∀ x, mv_Sim l N0 D dA own cc nL fr lo ret ini rv q L (mv_vr N0 x :: st) (g x)) : mv_Sim l N0 D dA own cc nL fr lo ret ini rv pc L (mv_vr N0 r :: st) (mv_bd (mv_gR ci n k r) g) := by
  subst hp
  refine ⟨mv_Gr.bd mv_Gr.gR (fun a => (kk a).1), fun p e s m args below meth c n0 s0 hC h H locs ls v h' g1 g2 hP hS hl hq hf => ?_⟩
  obtain ⟨a, h1, e1, e2⟩ := mv_bd_of hf
  obtain ⟨i, rfl, hi, rfl, rfl⟩ := mv_gR_of e1
  obtain ⟨hc, hci, hk, hr, hT, hin, -, -⟩ := hF
  have hv := mv_fs_get (N0 := N0) (h := h) (i := i) (ci := ci) hk
  rw [if_pos hr] at hv
  rcases hw with hw | ⟨host, hw⟩
  · exact va_get (D := D) hC.1 hC.2.1 hC.2.2.2.2.1 hin hC.2.2.2.1 hC.2.2.2.2.2.2.2.2.1 hP i (mv_ws_o hi hci) hc k hk (hC.2.2.2.2.1 _ hw) (fun x hx => by rw [hT] at hx; exact hx) hv hdg ((kk _).2 p e s m args below meth c n0 s0 hC h H locs ls v h' g1 g2 hP hS hl hq e2)
  · exact va_getN (D := D) hC.1 hC.2.1 hC.2.2.2.2.1 hin hC.2.2.2.1 hC.2.2.2.2.2.2.2.2.1 hP i (mv_ws_o hi hci) hc k hk (va_Nw.use rfl (hC.2.2.2.2.2.2.2.2.2.1.1 _ hw)) (fun x hx => by rw [hT] at hx; exact hx) hv hdg ((kk _).2 p e s m args below meth c n0 s0 hC h H locs ls v h' g1 g2 hP hS hl hq e2)
theorem mv_ws_putI {h : mv_Hp} {i ci n k : Nat} {x : Int32} (hi : h.1[i]? = some (ci, n)) (hci : ci < 8) (hr : mv_rs ci k = false) (hk : k < n) : (mv_ws N0 dA h).set i (N0 + i, .inr (ci, (mv_fs N0 h i ci n).set k (.int x))) = mv_ws N0 dA (h.1, h.2.1, mv_u2 h.2.2.1 i k x, h.2.2.2) :=
  mv_ws_set (h' := (h.1, h.2.1, mv_u2 h.2.2.1 i k x, h.2.2.2)) rfl hi (by rw [mv_cE_o hci, mv_fs_setI hr hk]) (fun j z hj => mv_cE_congr (mv_u2_ne hj) rfl)
theorem mv_ws_putR {h : mv_Hp} {i ci n k : Nat} {x : Option Nat} (hi : h.1[i]? = some (ci, n)) (hci : ci < 8) (hr : mv_rs ci k = true) (hk : k < n) : (mv_ws N0 dA h).set i (N0 + i, .inr (ci, (mv_fs N0 h i ci n).set k (mv_vr N0 x))) = mv_ws N0 dA (h.1, h.2.1, h.2.2.1, mv_u2 h.2.2.2 i k x) :=
  mv_ws_set (h' := (h.1, h.2.1, h.2.2.1, mv_u2 h.2.2.2 i k x)) rfl hi (by rw [mv_cE_o hci, mv_fs_setR hr hk]) (fun j z hj => mv_cE_congr rfl (mv_u2_ne hj))

theorem mv_putI {ci n k idx : Nat} {r : Option Nat} {x : Int32} {C : String} {T : u_T} {ty : Nat → FieldType} {g : Unit → mv_M α} (hF : mv_Fd ci n k C T ty false) (hfin : (T k).2.2.2 = false) (hd : parseFieldDescriptor (T k).2.2.1 = some .int) (hw : mv_lk own idx k C T) (hdg : decode cc pc = .ok (.putfield idx, 3)) (hp : pc + 3 = q) (kk : mv_Sim l N0 D dA own cc nL fr lo ret ini rv q L st (g ())) : mv_Sim l N0 D dA own cc nL fr lo ret ini rv pc L (.int x :: mv_vr N0 r :: st) (mv_bd (mv_sI ci n k r x) g) := by
  subst hp
  refine ⟨mv_Gr.bd mv_Gr.sI (fun _ => kk.1), fun p e s m args below meth c n0 s0 hC h H locs ls v h' g1 g2 hP hS hl hq hf => ?_⟩
  obtain ⟨a, h1, e1, e2⟩ := mv_bd_of hf
  obtain ⟨i, rfl, hi, rfl⟩ := mv_sI_of e1
  obtain ⟨hc, hci, hk, hr, hT, hin, hty, hnm⟩ := hF
  have hlen : k < (mv_fs N0 h i ci n).length := by simp [mv_fs]; exact hk
  rcases hw with hw | ⟨host, hw⟩
  · exact va_put (D := D) hC.1 hC.2.1 hC.2.2.2.2.1 hin ty hty hnm hC.2.2.2.1 hC.2.2.2.2.2.2.2.2.1 hP (mv_ws_D N0 dA h) hS i (mv_ws_o hi hci) hc k hk (hC.2.2.2.2.1 _ hw) (fun x hx => by rw [hT] at hx; exact hx) hfin hd rfl rfl hlen hdg (fun H1 locs1 hP1 _ hS1 => by rw [mv_ws_putI hi hci hr hk] at hP1; exact kk.2 p e s m args below meth c n0 s0 hC (h.1, h.2.1, mv_u2 h.2.2.1 i k x, h.2.2.2) H1 locs1 ls v h' g1 g2 hP1 hS1 hl hq e2)
  · exact va_putN (D := D) hC.1 hC.2.1 hC.2.2.2.2.1 hin ty hty hnm hC.2.2.2.1 hC.2.2.2.2.2.2.2.2.1 hP (mv_ws_D N0 dA h) hS i (mv_ws_o hi hci) hc k hk (va_Nw.use rfl (hC.2.2.2.2.2.2.2.2.2.1.1 _ hw)) (fun x hx => by rw [hT] at hx; exact hx) hfin hd rfl rfl hlen hdg (fun H1 locs1 hP1 _ hS1 => by rw [mv_ws_putI hi hci hr hk] at hP1; exact kk.2 p e s m args below meth c n0 s0 hC (h.1, h.2.1, mv_u2 h.2.2.1 i k x, h.2.2.2) H1 locs1 ls v h' g1 g2 hP1 hS1 hl hq e2)

theorem mv_putZ {ci n k idx : Nat} {r : Option Nat} {x : Int32} {C : String} {T : u_T} {ty : Nat → FieldType} {g : Unit → mv_M α} (hF : mv_Fd ci n k C T ty false) (hfin : (T k).2.2.2 = false) (hd : parseFieldDescriptor (T k).2.2.1 = some .boolean) (hw : mv_lk own idx k C T) (hdg : decode cc pc = .ok (.putfield idx, 3)) (hp : pc + 3 = q) (kk : mv_Sim l N0 D dA own cc nL fr lo ret ini rv q L st (g ())) : mv_Sim l N0 D dA own cc nL fr lo ret ini rv pc L (.int x :: mv_vr N0 r :: st) (mv_bd (mv_sZ ci n k r x) g) := by
  subst hp
  refine ⟨mv_Gr.bd mv_Gr.sZ (fun _ => kk.1), fun p e s m args below meth c n0 s0 hC h H locs ls v h' g1 g2 hP hS hl hq hf => ?_⟩
  obtain ⟨a, h1, e1, e2⟩ := mv_bd_of hf
  obtain ⟨i, rfl, hi, hz, rfl⟩ := mv_sZ_of e1
  obtain ⟨hc, hci, hk, hr, hT, hin, hty, hnm⟩ := hF
  have hlen : k < (mv_fs N0 h i ci n).length := by simp [mv_fs]; exact hk
  rcases hw with hw | ⟨host, hw⟩
  · exact va_put (D := D) hC.1 hC.2.1 hC.2.2.2.2.1 hin ty hty hnm hC.2.2.2.1 hC.2.2.2.2.2.2.2.2.1 hP (mv_ws_D N0 dA h) hS i (mv_ws_o hi hci) hc k hk (hC.2.2.2.2.1 _ hw) (fun x hx => by rw [hT] at hx; exact hx) hfin hd (by rcases hz with rfl | rfl <;> rfl) (by rcases hz with rfl | rfl <;> rfl) hlen hdg (fun H1 locs1 hP1 _ hS1 => by rw [mv_ws_putI hi hci hr hk] at hP1; exact kk.2 p e s m args below meth c n0 s0 hC (h.1, h.2.1, mv_u2 h.2.2.1 i k x, h.2.2.2) H1 locs1 ls v h' g1 g2 hP1 hS1 hl hq e2)
  · exact va_putN (D := D) hC.1 hC.2.1 hC.2.2.2.2.1 hin ty hty hnm hC.2.2.2.1 hC.2.2.2.2.2.2.2.2.1 hP (mv_ws_D N0 dA h) hS i (mv_ws_o hi hci) hc k hk (va_Nw.use rfl (hC.2.2.2.2.2.2.2.2.2.1.1 _ hw)) (fun x hx => by rw [hT] at hx; exact hx) hfin hd (by rcases hz with rfl | rfl <;> rfl) (by rcases hz with rfl | rfl <;> rfl) hlen hdg (fun H1 locs1 hP1 _ hS1 => by rw [mv_ws_putI hi hci hr hk] at hP1; exact kk.2 p e s m args below meth c n0 s0 hC (h.1, h.2.1, mv_u2 h.2.2.1 i k x, h.2.2.2) H1 locs1 ls v h' g1 g2 hP1 hS1 hl hq e2)

theorem mv_upd_cE {h : mv_Hp} {i j n : Nat} {x : Int32} : mv_cE N0 dA (h.1, h.2.1, mv_u2 h.2.2.1 i j x, h.2.2.2) i (8, n) = .inl (dA 0, n, .inl (upd (h.2.2.1 i) j x)) := by
  have e : mv_u2 h.2.2.1 i j x i = upd (h.2.2.1 i) j x := by funext b; simp [mv_u2, upd]
  unfold mv_cE
  rw [if_neg (show ¬ (8 : Nat) < 8 by decide), if_pos rfl, ← e]
theorem mv_up_cE {h : mv_Hp} {i j n t y : Nat} (ht : 1 ≤ t) : mv_cE N0 dA (h.1, h.2.1, h.2.2.1, mv_u2 h.2.2.2 i j (some y)) i (8 + t, n) = .inl (dA t, n, .inr (.inr (.inr (.inr (va_up (fun k => (h.2.2.2 i k).map (fun i => N0 + i)) j (some (N0 + y))))))) := by
  have e : (fun k => (mv_u2 h.2.2.2 i j (some y) i k).map (fun i => N0 + i)) = va_up (fun k => (h.2.2.2 i k).map (fun i => N0 + i)) j (some (N0 + y)) := by
    funext b
    by_cases hb : b = j
    · simp [mv_u2, va_up, hb]
    · simp [mv_u2, va_up, hb]
  unfold mv_cE
  rw [if_neg (by omega), if_neg (by show ¬ 8 + t = 8; omega), ← e]
  simp

theorem mv_putR {ci n k idx : Nat} {r x : Option Nat} {C : String} {T : u_T} {ty : Nat → FieldType} {t : FieldType} {g : Unit → mv_M α} (hF : mv_Fd ci n k C T ty true) (hfin : (T k).2.2.2 = true) (hd : parseFieldDescriptor (T k).2.2.1 = some t) (ht : (∃ N, t = .object N) ∨ ∃ u, t = .array u) (hini : ini = true) (hC0 : C = own) (hw : Cond.fieldLink own idx C (T k).2.1 (T k).2.2.1 ∈ mv_wA) (hdg : decode cc pc = .ok (.putfield idx, 3)) (hp : pc + 3 = q) (kk : mv_Sim l N0 D dA own cc nL fr lo ret ini rv q L st (g ())) : mv_Sim l N0 D dA own cc nL fr lo ret ini rv pc L (mv_vr N0 x :: mv_vr N0 r :: st) (mv_bd (mv_sR ci n k r x) g) := by
  subst hp
  refine ⟨mv_Gr.bd mv_Gr.sR (fun _ => kk.1), fun p e s m args below meth c n0 s0 hC h H locs ls v h' g1 g2 hP hS hl hq hf => ?_⟩
  obtain ⟨a, h1, e1, e2⟩ := mv_bd_of hf
  obtain ⟨i, rfl, hi, rfl⟩ := mv_sR_of e1
  obtain ⟨hc, hci, hk, hr, hT, hin, hty, hnm⟩ := hF
  have hlen : k < (mv_fs N0 h i ci n).length := by simp [mv_fs]; exact hk
  have hn1 : narrow t (mv_vr N0 x) = mv_vr N0 x := by rcases ht with ⟨N, rfl⟩ | ⟨u, rfl⟩ <;> cases x <;> rfl
  have hn2 : fits t (mv_vr N0 x) = true := by rcases ht with ⟨N, rfl⟩ | ⟨u, rfl⟩ <;> cases x <;> rfl
  exact va_putF (D := D) hC.1 hC.2.1 hC.2.2.2.2.1 hin ty hty hnm hC.2.2.2.1 hC.2.2.2.2.2.2.2.2.1 hP (mv_ws_D N0 dA h) hS i (mv_ws_o hi hci) hc k hk (hC.2.2.2.2.1 _ hw) (fun x hx => by rw [hT] at hx; exact hx) hfin (hC.2.2.2.2.2.2.2.1 hini) (hT.trans hC0) hd hn1 hn2 hlen hdg (fun H1 locs1 hP1 _ hS1 => by rw [mv_ws_putR hi hci hr hk] at hP1; exact kk.2 p e s m args below meth c n0 s0 hC (h.1, h.2.1, h.2.2.1, mv_u2 h.2.2.2 i k x) H1 locs1 ls v h' g1 g2 hP1 hS1 hl hq e2)
theorem mv_alen {r : Option Nat} {g : Int32 → mv_M α} (hdg : decode cc pc = .ok (.arraylength, 1)) (hp : pc + 1 = q) (kk : ∀ x, mv_Sim l N0 D dA own cc nL fr lo ret ini rv q L (.int x :: st) (g x)) : mv_Sim l N0 D dA own cc nL fr lo ret ini rv pc L (mv_vr N0 r :: st) (mv_bd (mv_aL r) g) := by
  subst hp
  refine ⟨mv_Gr.bd mv_Gr.aL (fun a => (kk a).1), fun p e s m args below meth c n0 s0 hC h H locs ls v h' g1 g2 hP hS hl hq hf => ?_⟩
  obtain ⟨a, h1, e1, e2⟩ := mv_bd_of hf
  obtain ⟨i, z, rfl, hi, h8, h12, rfl, rfl⟩ := mv_aL_of e1
  have hK := hC.2.2.2.2.2.2.2.2.1
  obtain ⟨t, n⟩ := z
  have h8' : 8 ≤ t := h8
  have h12' : t < 12 := h12
  rcases (show t = 8 ∨ t = 8 + 1 ∨ t = 8 + 2 ∨ t = 8 + 3 by omega) with rfl | rfl | rfl | rfl
  · exact va_alen hC.1 hC.2.1 hK hP i 0 (mv_ws_a hi) rfl rfl hdg ((kk _).2 p e s m args below meth c n0 s0 hC h H locs ls v h' g1 g2 hP hS hl hq e2)
  · exact va_alen hC.1 hC.2.1 hK hP i 1 (mv_ws_r (by omega) hi) rfl rfl hdg ((kk _).2 p e s m args below meth c n0 s0 hC h H locs ls v h' g1 g2 hP hS hl hq e2)
  · exact va_alen hC.1 hC.2.1 hK hP i 2 (mv_ws_r (by omega) hi) rfl rfl hdg ((kk _).2 p e s m args below meth c n0 s0 hC h H locs ls v h' g1 g2 hP hS hl hq e2)
  · exact va_alen hC.1 hC.2.1 hK hP i 3 (mv_ws_r (by omega) hi) rfl rfl hdg ((kk _).2 p e s m args below meth c n0 s0 hC h H locs ls v h' g1 g2 hP hS hl hq e2)
theorem mv_iald {r : Option Nat} {j : Int32} {g : Int32 → mv_M α} (hdg : decode cc pc = .ok (.iaload, 1)) (hp : pc + 1 = q) (kk : ∀ x, mv_Sim l N0 D dA own cc nL fr lo ret ini rv q L (.int x :: st) (g x)) : mv_Sim l N0 D dA own cc nL fr lo ret ini rv pc L (.int j :: mv_vr N0 r :: st) (mv_bd (mv_aI r j) g) := by
  subst hp
  refine ⟨mv_Gr.bd mv_Gr.aI (fun a => (kk a).1), fun p e s m args below meth c n0 s0 hC h H locs ls v h' g1 g2 hP hS hl hq hf => ?_⟩
  obtain ⟨a, h1, e1, e2⟩ := mv_bd_of hf
  obtain ⟨i, n, rfl, hi, hin, rfl, rfl⟩ := mv_aI_of e1
  exact va_iald hC.1 hC.2.1 hC.2.2.2.2.2.2.2.2.1 hP i 0 (mv_ws_a hi) rfl hin hdg ((kk _).2 p e s m args below meth c n0 s0 hC h H locs ls v h' g1 g2 hP hS hl hq e2)
theorem mv_iast {r : Option Nat} {j x : Int32} {g : Unit → mv_M α} (hdg : decode cc pc = .ok (.iastore, 1)) (hp : pc + 1 = q) (kk : mv_Sim l N0 D dA own cc nL fr lo ret ini rv q L st (g ())) : mv_Sim l N0 D dA own cc nL fr lo ret ini rv pc L (.int x :: .int j :: mv_vr N0 r :: st) (mv_bd (mv_aS r j x) g) := by
  subst hp
  refine ⟨mv_Gr.bd mv_Gr.aS (fun _ => kk.1), fun p e s m args below meth c n0 s0 hC h H locs ls v h' g1 g2 hP hS hl hq hf => ?_⟩
  obtain ⟨a, h1, e1, e2⟩ := mv_bd_of hf
  obtain ⟨i, n, rfl, hi, hin, rfl⟩ := mv_aS_of e1
  refine va_iast hC.1 hC.2.1 hC.2.2.2.2.2.2.2.2.1 hP (mv_ws_D N0 dA h) hS i 0 (mv_ws_a hi) rfl hin hdg (fun H1 locs1 hP1 _ hS1 => ?_)
  rw [mv_ws_set (h := h) (h' := (h.1, h.2.1, mv_u2 h.2.2.1 i j.toNatClampNeg x, h.2.2.2)) rfl hi (by
    exact mv_upd_cE) (fun j z hj => mv_cE_congr (mv_u2_ne hj) rfl)] at hP1
  exact kk.2 p e s m args below meth c n0 s0 hC (h.1, h.2.1, mv_u2 h.2.2.1 i j.toNatClampNeg x, h.2.2.2) H1 locs1 ls v h' g1 g2 hP1 hS1 hl hq e2

theorem mv_aald {t : Nat} {E : String} {r : Option Nat} {j : Int32} {g : Option Nat → mv_M α} (ht : ∀ dA, (mv_ty dA)[t]? = some (dA t, .object E)) (ht1 : 1 ≤ t) (hdg : decode cc pc = .ok (.aaload, 1)) (hp : pc + 1 = q) (kk : ∀ x, mv_Sim l N0 D dA own cc nL fr lo ret ini rv q L (mv_vr N0 x :: st) (g x)) : mv_Sim l N0 D dA own cc nL fr lo ret ini rv pc L (.int j :: mv_vr N0 r :: st) (mv_bd (mv_aR t r j) g) := by
  subst hp
  refine ⟨mv_Gr.bd mv_Gr.aR (fun a => (kk a).1), fun p e s m args below meth c n0 s0 hC h H locs ls v h' g1 g2 hP hS hl hq hf => ?_⟩
  obtain ⟨a, h1, e1, e2⟩ := mv_bd_of hf
  obtain ⟨i, n, rfl, hi, hin, rfl, rfl⟩ := mv_aR_of e1
  exact va_aldq hC.1 hC.2.1 hC.2.2.2.2.2.2.2.2.1 hP i t (mv_ws_r ht1 hi) (ht dA) hin hdg ((kk _).2 p e s m args below meth c n0 s0 hC h H locs ls v h' g1 g2 hP hS hl hq e2)
theorem mv_aast {t ci n : Nat} {C : String} {T : u_T} {r x : Option Nat} {j : Int32} {g : Unit → mv_M α} (ht : ∀ dA, (mv_ty dA)[t]? = some (dA t, .object C)) (ht1 : 1 ≤ t) (hc : vwCl[ci]? = some (C, T, n)) (hci : ci < 8) (hdg : decode cc pc = .ok (.aastore, 1)) (hp : pc + 1 = q) (kk : mv_Sim l N0 D dA own cc nL fr lo ret ini rv q L st (g ())) : mv_Sim l N0 D dA own cc nL fr lo ret ini rv pc L (mv_vr N0 x :: .int j :: mv_vr N0 r :: st) (mv_bd (mv_aT t ci n r j x) g) := by
  subst hp
  refine ⟨mv_Gr.bd mv_Gr.aT (fun _ => kk.1), fun p e s m args below meth c n0 s0 hC h H locs ls v h' g1 g2 hP hS hl hq hf => ?_⟩
  obtain ⟨a, h1, e1, e2⟩ := mv_bd_of hf
  obtain ⟨i, n2, y, rfl, rfl, hi, hin, hy, rfl⟩ := mv_aT_of e1
  refine va_astq (r := (C, T, n)) hC.1 hC.2.1 hC.2.2.2.2.2.2.2.2.1 hP (mv_ws_D N0 dA h) hS i t y ci (mv_ws_r ht1 hi) (ht dA) (mv_ws_o hy hci) hc hin hdg (fun H1 locs1 hP1 _ hS1 => ?_)
  rw [mv_ws_set (h := h) (h' := (h.1, h.2.1, h.2.2.1, mv_u2 h.2.2.2 i j.toNatClampNeg (some y))) rfl hi (mv_up_cE ht1) (fun j z hj => mv_cE_congr rfl (mv_u2_ne hj))] at hP1
  exact kk.2 p e s m args below meth c n0 s0 hC (h.1, h.2.1, h.2.2.1, mv_u2 h.2.2.2 i j.toNatClampNeg (some y)) H1 locs1 ls v h' g1 g2 hP1 hS1 hl hq e2

theorem mv_bound {p : Program} {e : Env} {R : Room} {s : State} {m : MethodId} {args : Array Value} {below : List Frame} {meth : Method} {c : Code} {H : Heap} {locs : List Loc} {cells slots : Nat} {Q : State → Prop} {g : JFrame} (kk : H.size ≤ s.heap.size + cells → W p l e R s m args below meth c H locs cells slots Q g) : W p l e R s m args below meth c H locs cells slots Q g := fun T hT X => kk (by rw [← hT]; exact X.heapSize) T hT X
theorem mv_size {s : State} {h : mv_Hp} {H : Heap} {locs : List Loc} {n0 : Nat} (hz : s.heap.size = N0 + n0) (g1 : n0 ≤ h.1.length) (hP : va_P D vwCl (mv_ws N0 dA h) H) (hS : va_S (fun q : Nat => N0 ≤ q) s.heap H locs) (hb : H.size ≤ s.heap.size + (h.1.length - n0)) : H.size = N0 + h.1.length := by
  have h1 := hS.1
  by_cases h0 : h.1.length = 0
  · omega
  · have hlt : h.1.length - 1 < h.1.length := by omega
    have h2 := (hP (h.1.length - 1) _ (mv_ws_get (List.getElem?_eq_getElem hlt))).lt
    have h3 : N0 + (h.1.length - 1) < H.size := h2
    omega
theorem mv_fresh {h : mv_Hp} {a B : Nat} {e : va_E} (hD : va_D (fun q : Nat => N0 ≤ q) (mv_ws N0 dA h ++ [(a, e)])) (hb : a < B) (hB : B = N0 + h.1.length + 1) : a = N0 + h.1.length := by
  have hl : (mv_ws N0 dA h ++ [(a, e)])[h.1.length]? = some (a, e) := by
    rw [List.getElem?_append_right (by rw [mv_ws_len]; exact Nat.le_refl _), mv_ws_len]; simp
  have h1 : N0 ≤ a := hD.2 _ _ hl
  rcases Nat.lt_or_ge a (N0 + h.1.length) with hlt | hge
  · exfalso
    have hk : a - N0 < h.1.length := by omega
    have h2 := mv_ws_get (N0 := N0) (dA := dA) (List.getElem?_eq_getElem hk)
    have h3 : (mv_ws N0 dA h ++ [(a, e)])[a - N0]? = some (N0 + (a - N0), mv_cE N0 dA h (a - N0) h.1[a - N0]) := by
      rw [List.getElem?_append_left (by rw [mv_ws_len]; exact hk)]; exact h2
    have h4 := hD.1 _ _ _ _ hl h3 (by show a = N0 + (a - N0); omega)
    omega
  · omega
theorem mv_ws_new {h : mv_Hp} {c n : Nat} {e : va_E} (he : mv_cE N0 dA (h.1 ++ [(c, n)], h.2.1 + n, mv_u1 h.2.2.1 h.1.length 0, mv_u1 h.2.2.2 h.1.length none) h.1.length (c, n) = e) : mv_ws N0 dA h ++ [(N0 + h.1.length, e)] = mv_ws N0 dA (h.1 ++ [(c, n)], h.2.1 + n, mv_u1 h.2.2.1 h.1.length 0, mv_u1 h.2.2.2 h.1.length none) :=
  mv_ws_push rfl he (fun j z hj => mv_cE_congr (mv_u1_ne hj) (mv_u1_ne hj))
theorem mv_new {ci n idx : Nat} {C : String} {T : u_T} {ty : Nat → FieldType} {g : Option Nat → mv_M α} (hc : vwCl[ci]? = some (C, T, n)) (hci : ci < 8) (hin : ∀ w ∈ u_ws C T n, w ∈ mv_wA) (hty : ∀ k, k < n → parseFieldDescriptor (T k).2.2.1 = some (ty k)) (hdf : ∀ k, k < n → defaultValue (ty k) = if mv_rs ci k = true then .null else .int 0) (hw : Cond.classLink own idx C ∈ mv_wA ∧ Cond.instantiable C n ∈ mv_wA ∧ Cond.initialized C ∈ mv_wA) (hdg : decode cc pc = .ok (.new idx, 3)) (hp : pc + 3 = q) (kk : ∀ x, mv_Sim l N0 D dA own cc nL fr lo ret ini rv q L (mv_vr N0 x :: st) (g x)) : mv_Sim l N0 D dA own cc nL fr lo ret ini rv pc L st (mv_bd (mv_nw ci n) g) := by
  subst hp
  refine ⟨mv_Gr.bd mv_Gr.nw (fun a => (kk a).1), fun p e s m args below meth c n0 s0 hC h H locs ls v h' g1 g2 hP hS hl hq hf => ?_⟩
  obtain ⟨a, h1, e1, e2⟩ := mv_bd_of hf
  have hg := (kk a).1 h1 v h' e2
  cases e1
  have hg1 : h.1.length + 1 ≤ h'.1.length := by have := hg.1; simpa using this
  have hg2 : h.2.1 + n ≤ h'.2.1 := hg.2
  have hz := hC.2.2.2.2.2.2.2.2.2.2
  refine va_new (D := D) hC.1 hC.2.1 hC.2.2.2.2.1 hin ty hty hC.2.2.2.1 (hC.2.2.2.2.1 _ hw.1) (hC.2.2.2.2.1 _ hw.2.1) (hC.2.2.2.2.1 _ hw.2.2) hC.2.2.2.2.2.2.2.2.1 hP (mv_ws_D N0 dA h) hS (fun q hq => by rw [hz] at hq; exact Nat.le_trans (Nat.le_add_right _ _) hq) hc (fs := mv_fs N0 (h.1 ++ [(ci, n)], h.2.1 + n, mv_u1 h.2.2.1 h.1.length 0, mv_u1 h.2.2.2 h.1.length none) h.1.length ci n) (fun k hk => ?_) (by show h.1.length - n0 + 1 ≤ h'.1.length - n0; omega) (by show h.2.1 - s0 + n ≤ h'.2.1 - s0; omega) hdg (fun a H1 hP1 hD1 hS1 => ?_)
  · rw [hdf k hk]
    simp only [vp_V, List.getD, mv_fs_get hk, Option.getD_some]
    by_cases hr : mv_rs ci k = true
    · simp [hr, mv_u1, mv_vr, va_rf]
    · simp [hr, mv_u1]
  · refine mv_bound (fun hb => ?_)
    have hlt := (hP1 h.1.length _ (by rw [List.getElem?_append_right (by rw [mv_ws_len]; exact Nat.le_refl _), mv_ws_len]; simp; rfl)).lt
    have ha : a = N0 + h.1.length := mv_fresh hD1 (B := N0 + h.1.length + 1) (by have h5 : a < H1.size := hlt; omega) rfl
    subst ha
    rw [mv_ws_new (mv_cE_o hci)] at hP1
    have e3 : h.1.length - n0 + 1 = (h.1 ++ [(ci, n)]).length - n0 := by simp; omega
    have e4 : h.2.1 - s0 + n = (h.2.1 + n) - s0 := by omega
    rw [e3, e4]
    exact (kk _).2 p e s m args below meth c n0 s0 hC _ H1 locs ls v h' (by show n0 ≤ (h.1 ++ [(ci, n)]).length; simp; omega) (by show s0 ≤ h.2.1 + n; omega) hP1 hS1 hl hq e2
theorem mv_newa {x : Int32} {g : Option Nat → mv_M α} (hw : Cond.arrayClass .int ∈ mv_wA) (hdg : decode cc pc = .ok (.newarray .int, 2)) (hp : pc + 2 = q) (kk : ∀ x, mv_Sim l N0 D dA own cc nL fr lo ret ini rv q L (mv_vr N0 x :: st) (g x)) : mv_Sim l N0 D dA own cc nL fr lo ret ini rv pc L (.int x :: st) (mv_bd (mv_nA 8 x) g) := by
  subst hp
  refine ⟨mv_Gr.bd mv_Gr.nA (fun a => (kk a).1), fun p e s m args below meth c n0 s0 hC h H locs ls v h' g1 g2 hP hS hl hq hf => ?_⟩
  obtain ⟨a, h1, e1, e2⟩ := mv_bd_of hf
  have hg := (kk a).1 h1 v h' e2
  obtain ⟨hx0, hx1, e1⟩ := mv_nA_of e1
  generalize hN : x.toNatClampNeg = n at hx1 e1
  cases e1
  have hg1 : h.1.length + 1 ≤ h'.1.length := by have := hg.1; simpa using this
  have hg2 : h.2.1 + n ≤ h'.2.1 := hg.2
  have hz := hC.2.2.2.2.2.2.2.2.2.2
  have hK := hC.2.2.2.2.2.2.2.2.1
  refine va_newa (D := D) (atype := .int) (ty := .int) (a0 := (n, .inl (fun _ => 0))) hC.1 hC.2.1 (hC.2.2.2.2.1 _ hw) rfl hK hP (mv_ws_D N0 dA h) hS (fun q hq => by rw [hz] at hq; exact Nat.le_trans (Nat.le_add_right _ _) hq) (fun cA => rfl) hx0 hN (by show n * 4 ≤ _; omega) (by show h.1.length - n0 + 1 ≤ h'.1.length - n0; omega) (by show h.2.1 - s0 + n ≤ h'.2.1 - s0; omega) hdg (fun a cA H1 hK1 hP1 hD1 hS1 => ?_)
  have hcA : cA = dA 0 := by
    have h5 := (hK1.2 4 (cA, .int) rfl).2
    have h6 := (hK.2 0 (dA 0, .int) rfl).2
    exact Option.some.inj (Eq.trans (Eq.symm h5) h6)
  subst hcA
  refine mv_bound (fun hb => ?_)
  have hlt := (hP1 h.1.length _ (by rw [List.getElem?_append_right (by rw [mv_ws_len]; exact Nat.le_refl _), mv_ws_len]; simp; rfl)).lt
  have ha : a = N0 + h.1.length := mv_fresh hD1 (B := N0 + h.1.length + 1) (by have h5 : a < H1.size := hlt; omega) rfl
  subst ha
  rw [mv_ws_new (c := 8) (n := n) (by
    unfold mv_cE
    rw [if_neg (show ¬ (8 : Nat) < 8 by decide), if_pos rfl]
    have e5 : mv_u1 h.2.2.1 h.1.length (0 : Int32) h.1.length = fun _ => 0 := by funext b; simp [mv_u1]
    simp only [e5])] at hP1
  have e3 : h.1.length - n0 + 1 = (h.1 ++ [(8, n)]).length - n0 := by simp; omega
  have e4 : h.2.1 - s0 + n = (h.2.1 + n) - s0 := by omega
  rw [e3, e4]
  exact (kk _).2 p e s m args below meth c n0 s0 hC _ H1 locs ls v h' (by show n0 ≤ (h.1 ++ [(8, n)]).length; simp; omega) (by show s0 ≤ h.2.1 + n; omega) hP1 hS1 hl hq e2
theorem mv_newq {t idx : Nat} {C : String} {x : Int32} {g : Option Nat → mv_M α} (ht : ∀ dA, (mv_ty dA)[t]? = some (dA t, .object C)) (ht1 : 1 ≤ t) (hO : ∀ s, mv_NW s → va_AO C s) (hw : Cond.classLink own idx C ∈ mv_wA) (hdg : decode cc pc = .ok (.anewarray idx, 3)) (hp : pc + 3 = q) (kk : ∀ x, mv_Sim l N0 D dA own cc nL fr lo ret ini rv q L (mv_vr N0 x :: st) (g x)) : mv_Sim l N0 D dA own cc nL fr lo ret ini rv pc L (.int x :: st) (mv_bd (mv_nA (8 + t) x) g) := by
  subst hp
  refine ⟨mv_Gr.bd mv_Gr.nA (fun a => (kk a).1), fun p e s m args below meth c n0 s0 hC h H locs ls v h' g1 g2 hP hS hl hq hf => ?_⟩
  obtain ⟨a, h1, e1, e2⟩ := mv_bd_of hf
  have hg := (kk a).1 h1 v h' e2
  obtain ⟨hx0, hx1, e1⟩ := mv_nA_of e1
  generalize hN : x.toNatClampNeg = n at hx1 e1
  cases e1
  have hg1 : h.1.length + 1 ≤ h'.1.length := by have := hg.1; simpa using this
  have hg2 : h.2.1 + n ≤ h'.2.1 := hg.2
  have hz := hC.2.2.2.2.2.2.2.2.2.2
  have hK := hC.2.2.2.2.2.2.2.2.1
  refine va_newq (D := D) hC.1 hC.2.1 hC.2.2.2.1 (hC.2.2.2.2.1 _ hw) (hO s hC.2.2.2.2.2.2.2.2.2.1) hK hP (mv_ws_D N0 dA h) hS (fun q hq => by rw [hz] at hq; exact Nat.le_trans (Nat.le_add_right _ _) hq) hx0 hN (by omega) (by show h.1.length - n0 + 1 ≤ h'.1.length - n0; omega) (by show h.2.1 - s0 + n ≤ h'.2.1 - s0; omega) hdg (fun a cA H1 hK1 hP1 hD1 hS1 => ?_)
  have hcA : cA = dA t := by
    obtain ⟨_, _, -, -, -, h5⟩ := (hK1.2 4 (cA, .object C) rfl).2
    obtain ⟨_, _, -, -, -, h6⟩ := (hK.2 t (dA t, .object C) (ht dA)).2
    exact Option.some.inj (Eq.trans (Eq.symm h5) h6)
  subst hcA
  refine mv_bound (fun hb => ?_)
  have hlt := (hP1 h.1.length _ (by rw [List.getElem?_append_right (by rw [mv_ws_len]; exact Nat.le_refl _), mv_ws_len]; simp; rfl)).lt
  have ha : a = N0 + h.1.length := mv_fresh hD1 (B := N0 + h.1.length + 1) (by have h5 : a < H1.size := hlt; omega) rfl
  subst ha
  rw [mv_ws_new (c := 8 + t) (n := n) (by
    unfold mv_cE
    rw [if_neg (by omega), if_neg (by show ¬ 8 + t = 8; omega)]
    have e5 : mv_u1 h.2.2.2 h.1.length (none : Option Nat) h.1.length = fun _ => none := by funext b; simp [mv_u1]
    simp [e5])] at hP1
  have e3 : h.1.length - n0 + 1 = (h.1 ++ [(8 + t, n)]).length - n0 := by simp; omega
  have e4 : h.2.1 - s0 + n = (h.2.1 + n) - s0 := by omega
  rw [e3, e4]
  exact (kk _).2 p e s m args below meth c n0 s0 hC _ H1 locs ls v h' (by show n0 ≤ (h.1 ++ [(8 + t, n)]).length; simp; omega) (by show s0 ≤ h.2.1 + n; omega) hP1 hS1 hl hq e2

theorem mv_goodIn {y : MethodName} {cb : ByteArray} {k : Nat} {rt : Option FieldType} (h : Cond.code y cb k rt ∈ mv_wA) : GoodIn mv_wA (.code y cb k rt :: mv_wA) := fun w hw => by
  have hm : w ∈ mv_wA := (List.mem_cons.mp hw).elim (fun e => by rw [e]; exact h) id
  exact ⟨hm, good_of_word (List.all_eq_true.mp mv_good w hm)⟩
theorem mv_blind {av : List Value} {h : mv_Hp} : FrameBlind (mv_Pc N0 D dA av h) := fun a U g mk z => ⟨z.1, z.2.1, z.2.2.1, va_K.moved (u := U) (U := U.calling g mk a) (Vm.Alike.refl U.vm) z.2.2.2.1, mv_NW.same (u := U) (U := U.calling g mk a) rfl z.2.2.2.2⟩
theorem mv_ofRun {p : Program} {e : Env} {R : Room} {s : State} {m : MethodId} {args : Array Value} {below : List Frame} {meth : Method} {c : Code} {H : Heap} {locs : List Loc} {Q : State → Prop} {n0 s0 : Nat} {β : Type} {rv' : β → Option Value} {b : β} {h h1 : mv_Hp} {a : Array Value} {ls : Array Slot} {rest st0 : List Value} (g1 : n0 ≤ h.1.length) (g2 : s0 ≤ h.2.1) (k1 : h.1.length ≤ h1.1.length) (k2 : h.2.1 ≤ h1.2.1)
    (hr : va_Run p l e R s m args below meth c H locs (h.1.length - n0) (h.2.1 - s0) (h1.1.length - h.1.length) (h1.2.1 - h.2.1) (F0 m pc ls st0) rest (mv_Qc N0 D dA rv' b h1 a) (fun q : Nat => N0 ≤ q)) (hS : va_S (fun q : Nat => N0 ≤ q) s.heap H locs)
    (kk : ∀ (H1 : Heap) (locs1 : List Loc), va_P D vwCl (mv_ws N0 dA h1) H1 → va_S (fun q : Nat => N0 ≤ q) s.heap H1 locs1 → W p l e R s m args below meth c H1 locs1 (h1.1.length - n0) (h1.2.1 - s0) Q (F0 m (pc + 3) ls ((rv' b).toList ++ rest))) :
    W p l e R s m args below meth c H locs (h.1.length - n0) (h.2.1 - s0) Q (F0 m pc ls st0) := by
  intro T hT X
  obtain ⟨v', st₀, t, T', L1, h0, X', hL, e1, e2, ⟨hv, hp, hz, hk⟩, st⟩ := hr T hT X
  have hv2 : v' = rv' b := Outcome.returned.inj hv
  subst hv2
  rw [h0] at hz hk
  have e3 : h.1.length - n0 + (h1.1.length - h.1.length) = h1.1.length - n0 := by omega
  have e4 : h.2.1 - s0 + (h1.2.1 - h.2.1) = h1.2.1 - s0 := by omega
  rw [e3, e4] at X'
  obtain ⟨t2, a1, b1⟩ := kk T'.heap (locs ++ L1) (by rw [e1]; exact hp) ⟨Nat.le_trans hS.1 (by rw [e1]; exact hz), fun q h1 h2 => by rw [e1, hk q (Nat.lt_of_lt_of_le h1 hS.1) h2]; exact hS.2.1 q h1 h2, fun q hq => (List.mem_append.mp hq).elim (hS.2.2 q) (fun h => hL q h)⟩ T' rfl X'
  exact ⟨t2, st t2 a1, b1⟩
theorem mv_cs {st : List Value} (h1 : st.length ≤ 8) (h : ∀ v ∈ st, v.category = 1) : (st.map fun v => v.category).sum ≤ 8 := by
  have e : ∀ st : List Value, (∀ v ∈ st, v.category = 1) → (st.map fun v => v.category).sum = st.length := by
    intro st
    induction st with
    | nil => intro _; rfl
    | cons a t ih => intro h; simp only [List.map_cons, List.sum_cons, List.length_cons, ih (fun v hv => h v (List.mem_cons_of_mem _ hv)), h a List.mem_cons_self]; omega
  rw [e st h]; exact h1
def mv_nm (y : MethodName) (n : Nat) : Prop := y.cls ≠ "java/lang/invoke/MethodHandle" ∧ y.cls ≠ "java/lang/invoke/VarHandle" ∧ (parseMethodDescriptor y.desc).map (fun d => d.parameters.length) = some n
def mv_wV (own : String) (idx : Nat) (C : String) (y : MethodName) (cb : ByteArray) (k : Nat) (rt : Option FieldType) (n : Nat) : Prop := Cond.methodLink own idx y ∈ mv_wA ∧ Cond.instanceMethod y ∈ mv_wA ∧ Cond.selects C y y ∈ mv_wA ∧ Cond.initialized y.cls ∈ mv_wA ∧ Cond.code y cb k rt ∈ mv_wA ∧ mv_nm y n
def mv_wS (own : String) (idx : Nat) (y : MethodName) (cb : ByteArray) (k : Nat) (rt : Option FieldType) (n : Nat) : Prop := Cond.methodLink own idx y ∈ mv_wA ∧ Cond.static y ∈ mv_wA ∧ Cond.initialized y.cls ∈ mv_wA ∧ Cond.code y cb k rt ∈ mv_wA ∧ mv_nm y n
def mv_wI (own : String) (idx : Nat) (y : MethodName) (cb : ByteArray) (k n : Nat) : Prop := (Cond.methodLink own idx y ∈ mv_wA ∨ ∃ host, Cond.methodLinkNest own idx y host ∈ mv_nest) ∧ Cond.instanceMethod y ∈ mv_wA ∧ Cond.initialized y.cls ∈ mv_wA ∧ Cond.code y cb k none ∈ mv_wA ∧ y.name = "<init>" ∧ mv_nm y n
/-- the walk behind a call, for any room and end -/
theorem mv_wcallV {p : Program} {e : Env} {R : Room} {s : State} {m : MethodId} {args : Array Value} {below : List Frame} {meth : Method} {c : Code} {H : Heap} {locs : List Loc} {Q : State → Prop} {n0 s0 : Nat} {β : Type} {rv' : β → Option Value} {b : β} {h h1 : mv_Hp} {ls : Array Slot} {stk : List Value} {y : MethodName} {cb : ByteArray} {kL fr' lo' ci n idx i : Nat} {rt : Option FieldType} {C : String} {T : u_T} {gf : mv_M β} (As : List Value) (hC : mv_Cx N0 D dA own cc nL ret ini p s m args meth c n0)
    (hM : mv_SimM l N0 D dA y cb kL rt fr' lo' rv' (.ref (N0 + i) :: As) gf) (hc : vwCl[ci]? = some (C, T, n)) (hci : ci < 8) (hw : mv_wV own idx C y cb kL rt As.length) (hR : fr' + 1 ≤ R.frames ∧ 8 + (kL + 11) + lo' ≤ R.locals) (hRc : h1.1.length - n0 ≤ R.cells ∧ h1.2.1 - s0 ≤ R.slots) (hst : stk = As.reverse ++ .ref (N0 + i) :: st) (hcat : (st.map fun v => v.category).sum ≤ 8) (hdg : decode cc pc = .ok (.invokevirtual idx, 3))
    (g1 : n0 ≤ h.1.length) (g2 : s0 ≤ h.2.1) (hP : va_P D vwCl (mv_ws N0 dA h) H) (hS : va_S (fun q : Nat => N0 ≤ q) s.heap H locs) (hsz : ls.size = nL) (hi : h.1[i]? = some (ci, n)) (hg : gf h = some (b, h1))
    (kk : ∀ (H1 : Heap) (locs1 : List Loc), va_P D vwCl (mv_ws N0 dA h1) H1 → va_S (fun q : Nat => N0 ≤ q) s.heap H1 locs1 → W p l e R s m args below meth c H1 locs1 (h1.1.length - n0) (h1.2.1 - s0) Q (F0 m (pc + 3) ls ((rv' b).toList ++ st))) :
    W p l e R s m args below meth c H locs (h.1.length - n0) (h.2.1 - s0) Q (F0 m pc ls stk) := by
  obtain ⟨hx, hb, hml, hown, hts, -, -, -, hK, hNW, hz⟩ := hC
  obtain ⟨w1, w2, w3, w4, w5, w6⟩ := hw
  have hgr := hM.1 h b h1 hg
  refine mv_bound (fun hbd => ?_)
  have hsize := mv_size hz g1 hP hS hbd
  refine mv_ofRun g1 g2 hgr.1 hgr.2 (va_runV (As := As) (rest := st) ⟨hx, hb, hml, hown, hts⟩ (hM.2 h b h1 hg) ⟨callB_of As.length hts (mv_goodIn w5) rfl rfl rfl (hts _ w4) (hts _ w1) w6 hR, hts _ w2, hts _ w3⟩ ⟨mv_blind, va_recv hK hP hc (mv_ws_o hi hci), fun U hU hW => ⟨rfl, by rw [hU]; exact hsize, by rw [hU]; exact hP, va_K.moved hW.alike hK, mv_NW.warm hW hNW⟩⟩ rfl rfl hsz hst (lv_room hcat) hdg ⟨by omega, by omega⟩) hS kk
theorem mv_wcallS {p : Program} {e : Env} {R : Room} {s : State} {m : MethodId} {args : Array Value} {below : List Frame} {meth : Method} {c : Code} {H : Heap} {locs : List Loc} {Q : State → Prop} {n0 s0 : Nat} {β : Type} {rv' : β → Option Value} {b : β} {h h1 : mv_Hp} {ls : Array Slot} {stk : List Value} {y : MethodName} {cb : ByteArray} {kL fr' lo' idx : Nat} {rt : Option FieldType} {gf : mv_M β} (As : List Value) (hC : mv_Cx N0 D dA own cc nL ret ini p s m args meth c n0)
    (hM : mv_SimM l N0 D dA y cb kL rt fr' lo' rv' As gf) (hw : mv_wS own idx y cb kL rt As.length) (hR : fr' + 1 ≤ R.frames ∧ 8 + (kL + 11) + lo' ≤ R.locals) (hRc : h1.1.length - n0 ≤ R.cells ∧ h1.2.1 - s0 ≤ R.slots) (hst : stk = As.reverse ++ st) (hcat : (st.map fun v => v.category).sum ≤ 8) (hdg : decode cc pc = .ok (.invokestatic idx, 3))
    (g1 : n0 ≤ h.1.length) (g2 : s0 ≤ h.2.1) (hP : va_P D vwCl (mv_ws N0 dA h) H) (hS : va_S (fun q : Nat => N0 ≤ q) s.heap H locs) (hsz : ls.size = nL) (hg : gf h = some (b, h1))
    (kk : ∀ (H1 : Heap) (locs1 : List Loc), va_P D vwCl (mv_ws N0 dA h1) H1 → va_S (fun q : Nat => N0 ≤ q) s.heap H1 locs1 → W p l e R s m args below meth c H1 locs1 (h1.1.length - n0) (h1.2.1 - s0) Q (F0 m (pc + 3) ls ((rv' b).toList ++ st))) :
    W p l e R s m args below meth c H locs (h.1.length - n0) (h.2.1 - s0) Q (F0 m pc ls stk) := by
  obtain ⟨hx, hb, hml, hown, hts, -, -, -, hK, hNW, hz⟩ := hC
  obtain ⟨w1, w2, w4, w5, w6⟩ := hw
  have hgr := hM.1 h b h1 hg
  refine mv_bound (fun hbd => ?_)
  have hsize := mv_size hz g1 hP hS hbd
  refine mv_ofRun g1 g2 hgr.1 hgr.2 (va_runS (As := As) (rest := st) ⟨hx, hb, hml, hown, hts⟩ (hM.2 h b h1 hg) ⟨callB_of As.length hts (mv_goodIn w5) rfl rfl rfl (hts _ w4) (hts _ w1) w6 hR, hts _ w2⟩ ⟨mv_blind, fun U hU hW => ⟨rfl, by rw [hU]; exact hsize, by rw [hU]; exact hP, va_K.moved hW.alike hK, mv_NW.warm hW hNW⟩⟩ rfl rfl hsz hst (lv_room hcat) hdg ⟨by omega, by omega⟩) hS kk
theorem mv_wcallI {p : Program} {e : Env} {R : Room} {s : State} {m : MethodId} {args : Array Value} {below : List Frame} {meth : Method} {c : Code} {H : Heap} {locs : List Loc} {Q : State → Prop} {n0 s0 : Nat} {b : Unit} {h h1 : mv_Hp} {ls : Array Slot} {stk : List Value} {y : MethodName} {cb : ByteArray} {kL fr' lo' idx i : Nat} {gf : mv_M Unit} (As : List Value) (hC : mv_Cx N0 D dA own cc nL ret ini p s m args meth c n0)
    (hM : mv_SimM l N0 D dA y cb kL none fr' lo' mv_rV (.ref (N0 + i) :: As) gf) (hw : mv_wI own idx y cb kL As.length) (hR : fr' + 1 ≤ R.frames ∧ 8 + (kL + 11) + lo' ≤ R.locals) (hRc : h1.1.length - n0 ≤ R.cells ∧ h1.2.1 - s0 ≤ R.slots) (hst : stk = As.reverse ++ .ref (N0 + i) :: st) (hcat : (st.map fun v => v.category).sum ≤ 8) (hdg : decode cc pc = .ok (.invokespecial idx, 3))
    (g1 : n0 ≤ h.1.length) (g2 : s0 ≤ h.2.1) (hP : va_P D vwCl (mv_ws N0 dA h) H) (hS : va_S (fun q : Nat => N0 ≤ q) s.heap H locs) (hsz : ls.size = nL) (hg : gf h = some (b, h1))
    (kk : ∀ (H1 : Heap) (locs1 : List Loc), va_P D vwCl (mv_ws N0 dA h1) H1 → va_S (fun q : Nat => N0 ≤ q) s.heap H1 locs1 → W p l e R s m args below meth c H1 locs1 (h1.1.length - n0) (h1.2.1 - s0) Q (F0 m (pc + 3) ls st)) :
    W p l e R s m args below meth c H locs (h.1.length - n0) (h.2.1 - s0) Q (F0 m pc ls stk) := by
  obtain ⟨hx, hb, hml, hown, hts, -, -, -, hK, hNW, hz⟩ := hC
  obtain ⟨w1, w2, w4, w5, w6, w7⟩ := hw
  have hgr := hM.1 h b h1 hg
  refine mv_bound (fun hbd => ?_)
  have hsize := mv_size hz g1 hP hS hbd
  rcases w1 with w1 | ⟨host, w1⟩
  · exact mv_ofRun g1 g2 hgr.1 hgr.2 (va_runI (As := As) (rest := st) ⟨hx, hb, hml, hown, hts⟩ (hM.2 h b h1 hg) ⟨callB_of As.length hts (mv_goodIn w5) rfl rfl rfl (hts _ w4) (hts _ w1) w7 hR, w6, hts _ w2⟩ ⟨mv_blind, fun U hU hW => ⟨rfl, by rw [hU]; exact hsize, by rw [hU]; exact hP, va_K.moved hW.alike hK, mv_NW.warm hW hNW⟩⟩ rfl rfl hsz hst (lv_room hcat) hdg ⟨by omega, by omega⟩) hS kk
  · exact mv_ofRun g1 g2 hgr.1 hgr.2 (va_runIN (host := host) (As := As) (rest := st) ⟨hx, hb, hml, hown, hts⟩ (hM.2 h b h1 hg) ⟨va_cnB As.length hts (mv_goodIn w5) rfl rfl rfl (hNW.1 _ w1) (hts _ w4) w7 hR, w6, hts _ w2⟩ ⟨mv_blind, fun U hU hW => ⟨rfl, by rw [hU]; exact hsize, by rw [hU]; exact hP, va_K.moved hW.alike hK, mv_NW.warm hW hNW⟩⟩ rfl rfl hsz hst (lv_room hcat) hdg ⟨by omega, by omega⟩) hS kk
theorem mv_callV {β : Type} {rv' : β → Option Value} {gf : Nat → mv_M β} {g : β → mv_M α} {stk : List Value} {y : MethodName} {cb : ByteArray} {kL fr' lo' ci n idx : Nat} {rt : Option FieldType} {C : String} {T : u_T} {r : Option Nat} (As : List Value) (hM : ∀ i, mv_SimM l N0 D dA y cb kL rt fr' lo' rv' (.ref (N0 + i) :: As) (gf i)) (hc : vwCl[ci]? = some (C, T, n)) (hci : ci < 8) (hw : mv_wV own idx C y cb kL rt As.length) (hR : fr' + 1 ≤ fr ∧ 8 + (kL + 11) + lo' ≤ lo) (hst : stk = As.reverse ++ mv_vr N0 r :: st) (hcat : (st.map fun v => v.category).sum ≤ 8) (hdg : decode cc pc = .ok (.invokevirtual idx, 3)) (hp : pc + 3 = q) (kk : ∀ b, mv_Sim l N0 D dA own cc nL fr lo ret ini rv q L ((rv' b).toList ++ st) (g b)) : mv_Sim l N0 D dA own cc nL fr lo ret ini rv pc L stk (mv_bd (mv_rc ci n r) fun i => mv_bd (gf i) g) := by
  subst hp
  refine ⟨mv_Gr.bd mv_Gr.rc (fun i => mv_Gr.bd (hM i).1 (fun a => (kk a).1)), fun p e s m args below meth c n0 s0 hC h H locs ls v h' g1 g2 hP hS hl hq hf => ?_⟩
  obtain ⟨i, h0, e1, e2⟩ := mv_bd_of hf
  obtain ⟨rfl, hi, rfl⟩ := mv_rc_of e1
  obtain ⟨b, h1, e3, e4⟩ := mv_bd_of e2
  have k1 := (hM i).1 _ _ _ e3
  have k2 := (kk b).1 _ _ _ e4
  exact mv_wcallV As hC (hM i) hc hci hw hR ⟨by show h1.1.length - n0 ≤ h'.1.length - n0; omega, by show h1.2.1 - s0 ≤ h'.2.1 - s0; omega⟩ hst hcat hdg g1 g2 hP hS hl.1 hi e3 (fun H1 locs1 hP1 hS1 => (kk b).2 p e s m args below meth c n0 s0 hC h1 H1 locs1 ls v h' (by omega) (by omega) hP1 hS1 hl hq e4)
theorem mv_callS {β : Type} {rv' : β → Option Value} {gf : mv_M β} {g : β → mv_M α} {stk : List Value} {y : MethodName} {cb : ByteArray} {kL fr' lo' idx : Nat} {rt : Option FieldType} (As : List Value) (hM : mv_SimM l N0 D dA y cb kL rt fr' lo' rv' As gf) (hw : mv_wS own idx y cb kL rt As.length) (hR : fr' + 1 ≤ fr ∧ 8 + (kL + 11) + lo' ≤ lo) (hst : stk = As.reverse ++ st) (hcat : (st.map fun v => v.category).sum ≤ 8) (hdg : decode cc pc = .ok (.invokestatic idx, 3)) (hp : pc + 3 = q) (kk : ∀ b, mv_Sim l N0 D dA own cc nL fr lo ret ini rv q L ((rv' b).toList ++ st) (g b)) : mv_Sim l N0 D dA own cc nL fr lo ret ini rv pc L stk (mv_bd gf g) := by
  subst hp
  refine ⟨mv_Gr.bd hM.1 (fun a => (kk a).1), fun p e s m args below meth c n0 s0 hC h H locs ls v h' g1 g2 hP hS hl hq hf => ?_⟩
  obtain ⟨b, h1, e3, e4⟩ := mv_bd_of hf
  have k1 := hM.1 _ _ _ e3
  have k2 := (kk b).1 _ _ _ e4
  exact mv_wcallS As hC hM hw hR ⟨by show h1.1.length - n0 ≤ h'.1.length - n0; omega, by show h1.2.1 - s0 ≤ h'.2.1 - s0; omega⟩ hst hcat hdg g1 g2 hP hS hl.1 e3 (fun H1 locs1 hP1 hS1 => (kk b).2 p e s m args below meth c n0 s0 hC h1 H1 locs1 ls v h' (by omega) (by omega) hP1 hS1 hl hq e4)
theorem mv_callI {gf : Nat → mv_M Unit} {g : Unit → mv_M α} {stk : List Value} {y : MethodName} {cb : ByteArray} {kL fr' lo' ci n idx : Nat} {r : Option Nat} (As : List Value) (hM : ∀ i, mv_SimM l N0 D dA y cb kL none fr' lo' mv_rV (.ref (N0 + i) :: As) (gf i)) (hw : mv_wI own idx y cb kL As.length) (hR : fr' + 1 ≤ fr ∧ 8 + (kL + 11) + lo' ≤ lo) (hst : stk = As.reverse ++ mv_vr N0 r :: st) (hcat : (st.map fun v => v.category).sum ≤ 8) (hdg : decode cc pc = .ok (.invokespecial idx, 3)) (hp : pc + 3 = q) (kk : mv_Sim l N0 D dA own cc nL fr lo ret ini rv q L st (g ())) : mv_Sim l N0 D dA own cc nL fr lo ret ini rv pc L stk (mv_bd (mv_rc ci n r) fun i => mv_bd (gf i) g) := by
  subst hp
  refine ⟨mv_Gr.bd mv_Gr.rc (fun i => mv_Gr.bd (hM i).1 (fun a => kk.1)), fun p e s m args below meth c n0 s0 hC h H locs ls v h' g1 g2 hP hS hl hq hf => ?_⟩
  obtain ⟨i, h0, e1, e2⟩ := mv_bd_of hf
  obtain ⟨rfl, hi, rfl⟩ := mv_rc_of e1
  obtain ⟨b, h1, e3, e4⟩ := mv_bd_of e2
  have k1 := (hM i).1 _ _ _ e3
  have k2 := kk.1 _ _ _ e4
  exact mv_wcallI As hC (hM i) hw hR ⟨by show h1.1.length - n0 ≤ h'.1.length - n0; omega, by show h1.2.1 - s0 ≤ h'.2.1 - s0; omega⟩ hst hcat hdg g1 g2 hP hS hl.1 e3 (fun H1 locs1 hP1 hS1 => kk.2 p e s m args below meth c n0 s0 hC h1 H1 locs1 ls v h' (by omega) (by omega) hP1 hS1 hl hq e4)
theorem mv_SimM_of {y : MethodName} {av : List Value} {L0 : List (Nat × Value)} (ini : Bool) (hy : plainName y.cls = true) (hn : (lg_sl av).length ≤ nL) (hL : lv_args 0 av = L0) (hcat : ∀ q ∈ L0, q.2.category = 1) (hini : ini = true → y.name = "<init>") (hs : mv_Sim l N0 D dA y.cls cc nL fr lo ret ini rv 0 L0 [] f) : mv_SimM l N0 D dA y cc nL ret fr lo rv av f := by
  refine ⟨hs.1, fun h v h' hf => ?_⟩
  refine Met.ofW (cc := cc) (maxL := nL) (ret := ret) hy rfl ?_
  intro p e s m args below meth c s₁ B hml hv
  obtain ⟨rfl, hsz, hP, hK, hNW⟩ := hv
  have hts := atoms_spec (ws := .code y cc nL ret :: mv_wA) B.pre
  have hl := lv_entry av (n := nL) hn
  rw [hL] at hl
  have key := hs.2 p e s m av.toArray below meth c h.1.length h.2.1 ⟨B.exec, B.bytes, hml, findClass_of_methodNamed B.named, fun w hw => hts w (List.mem_cons_of_mem _ hw), B.returns, B.notSynchronized, fun hi => (name_of_methodNamed B.named B.method).1.trans (hini hi), hK, hNW, hsz⟩ h s.heap [] _ v h' (Nat.le_refl _) (Nat.le_refl _) hP va_S.rf hl (Or.inr hcat) hf
  rw [Nat.sub_self, Nat.sub_self] at key
  rw [lg_entry_eq]
  exact key
theorem mv_SimM_oL {y : MethodName} {av : List Value} {L0 : List (Nat × Value)} (ini : Bool) (hy : plainName y.cls = true) (hn : (lg_sl av).length ≤ nL) (hL : lv_args 0 av = L0) (ho : y.cls = RL) (hini : ini = true → y.name = "<init>") (hs : mv_Sim l N0 D dA y.cls cc nL fr lo ret ini rv 0 L0 [] f) : mv_SimM l N0 D dA y cc nL ret fr lo rv av f := by
  refine ⟨hs.1, fun h v h' hf => ?_⟩
  refine Met.ofW (cc := cc) (maxL := nL) (ret := ret) hy rfl ?_
  intro p e s m args below meth c s₁ B hml hv
  obtain ⟨rfl, hsz, hP, hK, hNW⟩ := hv
  have hts := atoms_spec (ws := .code y cc nL ret :: mv_wA) B.pre
  have hl := lv_entry av (n := nL) hn
  rw [hL] at hl
  have key := hs.2 p e s m av.toArray below meth c h.1.length h.2.1 ⟨B.exec, B.bytes, hml, findClass_of_methodNamed B.named, fun w hw => hts w (List.mem_cons_of_mem _ hw), B.returns, B.notSynchronized, fun hi => (name_of_methodNamed B.named B.method).1.trans (hini hi), hK, hNW, hsz⟩ h s.heap [] _ v h' (Nat.le_refl _) (Nat.le_refl _) hP va_S.rf hl (Or.inl ho) hf
  rw [Nat.sub_self, Nat.sub_self] at key
  rw [lg_entry_eq]
  exact key
theorem mv_SimM_oF {y : MethodName} {av : List Value} {L0 : List (Nat × Value)} (ini : Bool) (hy : plainFor y = true) (hn : (lg_sl av).length ≤ nL) (hL : lv_args 0 av = L0) (hcat : ∀ q ∈ L0, q.2.category = 1) (hini : ini = true → y.name = "<init>") (hs : mv_Sim l N0 D dA y.cls cc nL fr lo ret ini rv 0 L0 [] f) : mv_SimM l N0 D dA y cc nL ret fr lo rv av f := by
  refine ⟨hs.1, fun h v h' hf => ?_⟩
  refine va_MetF (cc := cc) (maxL := nL) (ret := ret) hy rfl ?_
  intro p e s m args below meth c s₁ B hml hv
  obtain ⟨rfl, hsz, hP, hK, hNW⟩ := hv
  have hts := atoms_spec (ws := .code y cc nL ret :: mv_wA) B.pre
  have hl := lv_entry av (n := nL) hn
  rw [hL] at hl
  have key := hs.2 p e s m av.toArray below meth c h.1.length h.2.1 ⟨B.exec, B.bytes, hml, findClass_of_methodNamed B.named, fun w hw => hts w (List.mem_cons_of_mem _ hw), B.returns, B.notSynchronized, fun hi => (name_of_methodNamed B.named B.method).1.trans (hini hi), hK, hNW, hsz⟩ h s.heap [] _ v h' (Nat.le_refl _) (Nat.le_refl _) hP va_S.rf hl (Or.inr hcat) hf
  rw [Nat.sub_self, Nat.sub_self] at key
  rw [lg_entry_eq]
  exact key
end MVR

