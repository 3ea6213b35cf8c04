section MVL
variable {p : Program} {l : Launch} {e : Env} {s : State} {m : MethodId} {b : Addr} {below : List Frame} {meth : Method} {c : Code} {N0 : Nat} {D : va_G} {dA : Nat → ClassId} {Ls : Nat} {xs : Nat → Int32} {pc q : Nat} {L : List (Nat × Value)} {st : List Value} {h : mv_Hp} {f : mv_M Int32}
/-- the law's walk, at pc, over the small heap h -/
def mv_Lw (p : Program) (l : Launch) (e : Env) (s : State) (m : MethodId) (b : Addr) (below : List Frame) (meth : Method) (c : Code) (N0 : Nat) (D : va_G) (dA : Nat → ClassId) (pc : Nat) (L : List (Nat × Value)) (st : List Value) (h : mv_Hp) : Prop :=
  ∀ (H : Heap) (locs : List Loc) (ls : Array Slot), va_P D vwCl (mv_ws N0 dA h) H → va_S (fun q : Nat => N0 ≤ q) s.heap H locs → lv_has ls 13 L → W p l e room_1 s m #[Value.ref b] below meth c H locs (h.1.length - 0) (h.2.1 - 0) (lw_Z below #[Value.ref b] s) (F0 m pc ls st)
abbrev mv_Lx (p : Program) (s : State) (m : MethodId) (b : Addr) (meth : Method) (c : Code) (N0 : Nat) (D : va_G) (dA : Nat → ClassId) : Prop := mv_Cx N0 D dA RL code 13 ret false p s m #[Value.ref b] meth c 0
def mv_Lsc (s : State) (b N0 Ls : Nat) (xs : Nat → Int32) : Prop := va_X b Ls xs s s.heap ∧ b < s.heap.size ∧ b < N0 ∧ N0 = s.heap.size
/-- the walk ends true, if f says so -/
def mv_LS (p : Program) (l : Launch) (e : Env) (s : State) (m : MethodId) (b : Addr) (below : List Frame) (meth : Method) (c : Code) (N0 : Nat) (D : va_G) (dA : Nat → ClassId) (pc : Nat) (L : List (Nat × Value)) (st : List Value) (f : mv_M Int32) : Prop :=
  mv_Gr f ∧ ∀ h h', f h = some (1, h') → h'.1.length ≤ 1000 → h'.2.1 ≤ 10000 → mv_Lw p l e s m b below meth c N0 D dA pc L st h
theorem ls_fl : mv_LS p l e s m b below meth c N0 D dA pc L st (mv_fl : mv_M Int32) := ⟨mv_Gr.fl, fun h h' hf => by cases hf⟩
theorem ls_iconst {n : Int} {v : Int32} (hC : mv_Lx p s m b meth c N0 D dA) (hdg : decode code pc = .ok (.iconst n, 1)) (hv : Int32.ofInt n = v) (hp : pc + 1 = q) (kk : mv_LS p l e s m b below meth c N0 D dA q L (.int v :: st) f) : mv_LS p l e s m b below meth c N0 D dA pc L st f := by
  subst hp
  exact ⟨kk.1, fun h h' hf b1 b2 H locs ls hP hS hl => lv_iconst hC.1 hC.2.1 hdg hv (kk.2 h h' hf b1 b2 H locs ls hP hS hl)⟩
theorem ls_bipush {n : Int} {v : Int32} (hC : mv_Lx p s m b meth c N0 D dA) (hdg : decode code pc = .ok (.bipush n, 2)) (hv : (Int8.ofInt n).toInt32 = v) (hp : pc + 2 = q) (kk : mv_LS p l e s m b below meth c N0 D dA q L (.int v :: st) f) : mv_LS p l e s m b below meth c N0 D dA pc L st f := by
  subst hp
  exact ⟨kk.1, fun h h' hf b1 b2 H locs ls hP hS hl => lv_bipush hC.1 hC.2.1 hdg hv (kk.2 h h' hf b1 b2 H locs ls hP hS hl)⟩
theorem ls_iload_n {k : Fin 4} {i : Nat} {x : Int32} (j : Nat) (hC : mv_Lx p s m b meth c N0 D dA) (hdg : decode code pc = .ok (.iload_n k, 1)) (hi : (k : Nat) = i) (hj : L[j]? = some (i, .int x)) (hp : pc + 1 = q) (kk : mv_LS p l e s m b below meth c N0 D dA q L (.int x :: st) f) : mv_LS p l e s m b below meth c N0 D dA pc L st f := by
  subst hp
  exact ⟨kk.1, fun h h' hf b1 b2 H locs ls hP hS hl => lv_iload_n hC.1 hC.2.1 hdg hi (lv_at hl j hj) (kk.2 h h' hf b1 b2 H locs ls hP hS hl)⟩
theorem ls_iload {i : Nat} {x : Int32} (j : Nat) (hC : mv_Lx p s m b meth c N0 D dA) (hdg : decode code pc = .ok (.iload i, 2)) (hj : L[j]? = some (i, .int x)) (hp : pc + 2 = q) (kk : mv_LS p l e s m b below meth c N0 D dA q L (.int x :: st) f) : mv_LS p l e s m b below meth c N0 D dA pc L st f := by
  subst hp
  exact ⟨kk.1, fun h h' hf b1 b2 H locs ls hP hS hl => lv_iload hC.1 hC.2.1 hdg (lv_at hl j hj) (kk.2 h h' hf b1 b2 H locs ls hP hS hl)⟩
theorem ls_lload_n {k : Fin 4} {i : Nat} {x : Int64} (j : Nat) (hC : mv_Lx p s m b meth c N0 D dA) (hdg : decode code pc = .ok (.lload_n k, 1)) (hi : (k : Nat) = i) (hj : L[j]? = some (i, .long x)) (hp : pc + 1 = q) (kk : mv_LS p l e s m b below meth c N0 D dA q L (.long x :: st) f) : mv_LS p l e s m b below meth c N0 D dA pc L st f := by
  subst hp
  exact ⟨kk.1, fun h h' hf b1 b2 H locs ls hP hS hl => lv_lload_n hC.1 hC.2.1 hdg hi (lv_at hl j hj) (kk.2 h h' hf b1 b2 H locs ls hP hS hl)⟩
theorem ls_lload {i : Nat} {x : Int64} (j : Nat) (hC : mv_Lx p s m b meth c N0 D dA) (hdg : decode code pc = .ok (.lload i, 2)) (hj : L[j]? = some (i, .long x)) (hp : pc + 2 = q) (kk : mv_LS p l e s m b below meth c N0 D dA q L (.long x :: st) f) : mv_LS p l e s m b below meth c N0 D dA pc L st f := by
  subst hp
  exact ⟨kk.1, fun h h' hf b1 b2 H locs ls hP hS hl => lv_lload hC.1 hC.2.1 hdg (lv_at hl j hj) (kk.2 h h' hf b1 b2 H locs ls hP hS hl)⟩
theorem ls_aload_n {k : Fin 4} {i a : Nat} (j : Nat) (hC : mv_Lx p s m b meth c N0 D dA) (hdg : decode code pc = .ok (.aload_n k, 1)) (hi : (k : Nat) = i) (hj : L[j]? = some (i, .ref a)) (hp : pc + 1 = q) (kk : mv_LS p l e s m b below meth c N0 D dA q L (.ref a :: st) f) : mv_LS p l e s m b below meth c N0 D dA pc L st f := by
  subst hp
  exact ⟨kk.1, fun h h' hf b1 b2 H locs ls hP hS hl => lv_aload_n hC.1 hC.2.1 hdg hi (lv_at hl j hj) (kk.2 h h' hf b1 b2 H locs ls hP hS hl)⟩
theorem ls_iadd {x y : Int32} (hC : mv_Lx p s m b meth c N0 D dA) (hdg : decode code pc = .ok (.iadd, 1))  (hp : pc + 1 = q) (kk : mv_LS p l e s m b below meth c N0 D dA q L (.int (x + y) :: st) f) : mv_LS p l e s m b below meth c N0 D dA pc L (.int y :: .int x :: st) f := by
  subst hp
  exact ⟨kk.1, fun h h' hf b1 b2 H locs ls hP hS hl => lv_iadd hC.1 hC.2.1 hdg (kk.2 h h' hf b1 b2 H locs ls hP hS hl)⟩
theorem ls_isub {x y : Int32} (hC : mv_Lx p s m b meth c N0 D dA) (hdg : decode code pc = .ok (.isub, 1))  (hp : pc + 1 = q) (kk : mv_LS p l e s m b below meth c N0 D dA q L (.int (x - y) :: st) f) : mv_LS p l e s m b below meth c N0 D dA pc L (.int y :: .int x :: st) f := by
  subst hp
  exact ⟨kk.1, fun h h' hf b1 b2 H locs ls hP hS hl => lv_isub hC.1 hC.2.1 hdg (kk.2 h h' hf b1 b2 H locs ls hP hS hl)⟩
theorem ls_imul {x y : Int32} (hC : mv_Lx p s m b meth c N0 D dA) (hdg : decode code pc = .ok (.imul, 1))  (hp : pc + 1 = q) (kk : mv_LS p l e s m b below meth c N0 D dA q L (.int (x * y) :: st) f) : mv_LS p l e s m b below meth c N0 D dA pc L (.int y :: .int x :: st) f := by
  subst hp
  exact ⟨kk.1, fun h h' hf b1 b2 H locs ls hP hS hl => lv_imul hC.1 hC.2.1 hdg (kk.2 h h' hf b1 b2 H locs ls hP hS hl)⟩
theorem ls_ishr {x y : Int32} (hC : mv_Lx p s m b meth c N0 D dA) (hdg : decode code pc = .ok (.ishr, 1))  (hp : pc + 1 = q) (kk : mv_LS p l e s m b below meth c N0 D dA q L (.int (x >>> (y &&& 31)) :: st) f) : mv_LS p l e s m b below meth c N0 D dA pc L (.int y :: .int x :: st) f := by
  subst hp
  exact ⟨kk.1, fun h h' hf b1 b2 H locs ls hP hS hl => lv_ishr hC.1 hC.2.1 hdg (kk.2 h h' hf b1 b2 H locs ls hP hS hl)⟩
theorem ls_lcmp {x y : Int64} (hC : mv_Lx p s m b meth c N0 D dA) (hdg : decode code pc = .ok (.lcmp, 1))  (hp : pc + 1 = q) (kk : mv_LS p l e s m b below meth c N0 D dA q L (.int (lg_cmp x y) :: st) f) : mv_LS p l e s m b below meth c N0 D dA pc L (.long y :: .long x :: st) f := by
  subst hp
  exact ⟨kk.1, fun h h' hf b1 b2 H locs ls hP hS hl => W.lcmp hC.1 hC.2.1 hdg (kk.2 h h' hf b1 b2 H locs ls hP hS hl)⟩
theorem ls_dup {va : Value} (hC : mv_Lx p s m b meth c N0 D dA) (hdg : decode code pc = .ok (.dup, 1)) (hva : va.category = 1) (hp : pc + 1 = q) (kk : mv_LS p l e s m b below meth c N0 D dA q L (va :: va :: st) f) : mv_LS p l e s m b below meth c N0 D dA pc L (va :: st) f := by
  subst hp
  exact ⟨kk.1, fun h h' hf b1 b2 H locs ls hP hS hl => lv_dup hC.1 hC.2.1 hdg hva (kk.2 h h' hf b1 b2 H locs ls hP hS hl)⟩
theorem ls_goto {off : Int} (hC : mv_Lx p s m b meth c N0 D dA) (hdg : decode code pc = .ok (.goto off, 3)) (ht : (pc : Int) + off = (q : Int)) (kk : mv_LS p l e s m b below meth c N0 D dA q L st f) : mv_LS p l e s m b below meth c N0 D dA pc L st f :=
  ⟨kk.1, fun h h' hf b1 b2 H locs ls hP hS hl => lv_goto hC.1 hC.2.1 hdg ht (kk.2 h h' hf b1 b2 H locs ls hP hS hl)⟩
theorem ls_sub {L' : List (Nat × Value)} (ks : List Nat) (hL : lv_pick L ks = L') (kk : mv_LS p l e s m b below meth c N0 D dA pc L' st f) : mv_LS p l e s m b below meth c N0 D dA pc L st f :=
  ⟨kk.1, fun h h' hf b1 b2 H locs ls hP hS hl => kk.2 h h' hf b1 b2 H locs ls hP hS (lv_sub hl ks hL)⟩
theorem ls_let {x : Int32} {g : Int32 → mv_M Int32} (kk : ∀ y, mv_LS p l e s m b below meth c N0 D dA pc L (.int y :: st) (g y)) : mv_LS p l e s m b below meth c N0 D dA pc L (.int x :: st) (mv_bd (mv_pu x) g) :=
  ⟨mv_Gr.bd (mv_Gr.pu _) (fun a => (kk a).1), fun h h' hf b1 b2 H locs ls hP hS hl => (kk x).2 h h' hf b1 b2 H locs ls hP hS hl⟩
theorem ls_letJ {x : Int64} {g : Int64 → mv_M Int32} (kk : ∀ y, mv_LS p l e s m b below meth c N0 D dA pc L (.long y :: st) (g y)) : mv_LS p l e s m b below meth c N0 D dA pc L (.long x :: st) (mv_bd (mv_pu x) g) :=
  ⟨mv_Gr.bd (mv_Gr.pu _) (fun a => (kk a).1), fun h h' hf b1 b2 H locs ls hP hS hl => (kk x).2 h h' hf b1 b2 H locs ls hP hS hl⟩
theorem ls_istore_n {k : Fin 4} {i : Nat} {x : Int32} {L' : List (Nat × Value)} (hC : mv_Lx p s m b meth c N0 D dA) (hdg : decode code pc = .ok (.istore_n k, 1)) (hi : (k : Nat) = i) (hn : i < 13) (hL : (i, Value.int x) :: L.filter (fun q => !(q.1 == i) && !(q.1 + 1 == i && q.2.category == 2)) = L') (hp : pc + 1 = q) (kk : mv_LS p l e s m b below meth c N0 D dA q L' st f) : mv_LS p l e s m b below meth c N0 D dA pc L (.int x :: st) f := by
  subst hp
  exact ⟨kk.1, fun h h' hf b1 b2 H locs ls hP hS hl => lv_istore_n hC.1 hC.2.1 hdg hi hl hn hL (fun ls hl => kk.2 h h' hf b1 b2 H locs ls hP hS hl)⟩
theorem ls_istore {i : Nat} {x : Int32} {L' : List (Nat × Value)} (hC : mv_Lx p s m b meth c N0 D dA) (hdg : decode code pc = .ok (.istore i, 2)) (hn : i < 13) (hL : (i, Value.int x) :: L.filter (fun q => !(q.1 == i) && !(q.1 + 1 == i && q.2.category == 2)) = L') (hp : pc + 2 = q) (kk : mv_LS p l e s m b below meth c N0 D dA q L' st f) : mv_LS p l e s m b below meth c N0 D dA pc L (.int x :: st) f := by
  subst hp
  exact ⟨kk.1, fun h h' hf b1 b2 H locs ls hP hS hl => lv_istore hC.1 hC.2.1 hdg hl hn hL (fun ls hl => kk.2 h h' hf b1 b2 H locs ls hP hS hl)⟩
theorem ls_lstore_n {k : Fin 4} {i : Nat} {x : Int64} {L' : List (Nat × Value)} (hC : mv_Lx p s m b meth c N0 D dA) (hdg : decode code pc = .ok (.lstore_n k, 1)) (hi : (k : Nat) = i) (hn : i + 1 < 13) (hL : (i, Value.long x) :: L.filter (fun q => !(q.1 == i) && (!(q.1 == i + 1) && !(q.1 + 1 == i && q.2.category == 2))) = L') (hp : pc + 1 = q) (kk : mv_LS p l e s m b below meth c N0 D dA q L' st f) : mv_LS p l e s m b below meth c N0 D dA pc L (.long x :: st) f := by
  subst hp
  exact ⟨kk.1, fun h h' hf b1 b2 H locs ls hP hS hl => lv_lstore_n hC.1 hC.2.1 hdg hi hl hn hL (fun ls hl => kk.2 h h' hf b1 b2 H locs ls hP hS hl)⟩
theorem ls_lstore {i : Nat} {x : Int64} {L' : List (Nat × Value)} (hC : mv_Lx p s m b meth c N0 D dA) (hdg : decode code pc = .ok (.lstore i, 2)) (hn : i + 1 < 13) (hL : (i, Value.long x) :: L.filter (fun q => !(q.1 == i) && (!(q.1 == i + 1) && !(q.1 + 1 == i && q.2.category == 2))) = L') (hp : pc + 2 = q) (kk : mv_LS p l e s m b below meth c N0 D dA q L' st f) : mv_LS p l e s m b below meth c N0 D dA pc L (.long x :: st) f := by
  subst hp
  exact ⟨kk.1, fun h h' hf b1 b2 H locs ls hP hS hl => lv_lstore hC.1 hC.2.1 hdg hl hn hL (fun ls hl => kk.2 h h' hf b1 b2 H locs ls hP hS hl)⟩
theorem ls_astore_n {k : Fin 4} {i a : Nat} {L' : List (Nat × Value)} (hC : mv_Lx p s m b meth c N0 D dA) (hdg : decode code pc = .ok (.astore_n k, 1)) (hi : (k : Nat) = i) (hn : i < 13) (hL : (i, Value.ref a) :: L.filter (fun q => !(q.1 == i) && !(q.1 + 1 == i && q.2.category == 2)) = L') (hp : pc + 1 = q) (kk : mv_LS p l e s m b below meth c N0 D dA q L' st f) : mv_LS p l e s m b below meth c N0 D dA pc L (.ref a :: st) f := by
  subst hp
  exact ⟨kk.1, fun h h' hf b1 b2 H locs ls hP hS hl => lv_astore_n hC.1 hC.2.1 hdg hi hl hn hL (fun ls hl => kk.2 h h' hf b1 b2 H locs ls hP hS hl)⟩
theorem ls_iinc {i : Nat} {n : Int} {x y : Int32} {L' : List (Nat × Value)} (j : Nat) (hC : mv_Lx p s m b meth c N0 D dA) (hdg : decode code pc = .ok (.iinc i n, 3)) (hj : L[j]? = some (i, .int x)) (hv : x + Int32.ofInt n = y) (hn : i < 13) (hL : (i, Value.int y) :: L.filter (fun q => !(q.1 == i) && !(q.1 + 1 == i && q.2.category == 2)) = L') (hp : pc + 3 = q) (kk : mv_LS p l e s m b below meth c N0 D dA q L' st f) : mv_LS p l e s m b below meth c N0 D dA pc L st f := by
  subst hp
  exact ⟨kk.1, fun h h' hf b1 b2 H locs ls hP hS hl => lv_iinc hC.1 hC.2.1 hdg hl hj hv hn hL (fun ls hl => kk.2 h h' hf b1 b2 H locs ls hP hS hl)⟩
theorem ls_if_eq {x : Int32} {off : Int} {tgt : Nat} {f1 f2 : mv_M Int32} (hC : mv_Lx p s m b meth c N0 D dA) (hdg : decode code pc = .ok (.ifCond .eq off, 3)) (ht : (pc : Int) + off = (tgt : Int)) (hp : pc + 3 = q) (k1 : mv_LS p l e s m b below meth c N0 D dA tgt L st f1) (k2 : mv_LS p l e s m b below meth c N0 D dA q L st f2) : mv_LS p l e s m b below meth c N0 D dA pc L (.int x :: st) (if x = 0 then f1 else f2) := by
  subst hp
  exact ⟨mv_Gr.ite k1.1 k2.1, fun h h' hf b1 b2 H locs ls hP hS hl => lv_if_eq hC.1 hC.2.1 hdg ht (fun z => k1.2 h h' (by rw [if_pos z] at hf; exact hf) b1 b2 H locs ls hP hS hl) (fun z => k2.2 h h' (by rw [if_neg z] at hf; exact hf) b1 b2 H locs ls hP hS hl)⟩
theorem ls_icmp_eq {x y : Int32} {off : Int} {tgt : Nat} {f1 f2 : mv_M Int32} (hC : mv_Lx p s m b meth c N0 D dA) (hdg : decode code pc = .ok (.if_icmp .eq off, 3)) (ht : (pc : Int) + off = (tgt : Int)) (hp : pc + 3 = q) (k1 : mv_LS p l e s m b below meth c N0 D dA tgt L st f1) (k2 : mv_LS p l e s m b below meth c N0 D dA q L st f2) : mv_LS p l e s m b below meth c N0 D dA pc L (.int y :: .int x :: st) (if x = y then f1 else f2) := by
  subst hp
  exact ⟨mv_Gr.ite k1.1 k2.1, fun h h' hf b1 b2 H locs ls hP hS hl => lv_icmp_eq hC.1 hC.2.1 hdg ht (fun z => k1.2 h h' (by rw [if_pos z] at hf; exact hf) b1 b2 H locs ls hP hS hl) (fun z => k2.2 h h' (by rw [if_neg z] at hf; exact hf) b1 b2 H locs ls hP hS hl)⟩
theorem ls_if_ne {x : Int32} {off : Int} {tgt : Nat} {f1 f2 : mv_M Int32} (hC : mv_Lx p s m b meth c N0 D dA) (hdg : decode code pc = .ok (.ifCond .ne off, 3)) (ht : (pc : Int) + off = (tgt : Int)) (hp : pc + 3 = q) (k1 : mv_LS p l e s m b below meth c N0 D dA tgt L st f1) (k2 : mv_LS p l e s m b below meth c N0 D dA q L st f2) : mv_LS p l e s m b below meth c N0 D dA pc L (.int x :: st) (if x = 0 then f2 else f1) := by
  subst hp
  exact ⟨mv_Gr.ite k2.1 k1.1, fun h h' hf b1 b2 H locs ls hP hS hl => lv_if_ne hC.1 hC.2.1 hdg ht (fun z => k1.2 h h' (by rw [if_neg z] at hf; exact hf) b1 b2 H locs ls hP hS hl) (fun z => k2.2 h h' (by rw [if_pos z] at hf; exact hf) b1 b2 H locs ls hP hS hl)⟩
theorem ls_icmp_ne {x y : Int32} {off : Int} {tgt : Nat} {f1 f2 : mv_M Int32} (hC : mv_Lx p s m b meth c N0 D dA) (hdg : decode code pc = .ok (.if_icmp .ne off, 3)) (ht : (pc : Int) + off = (tgt : Int)) (hp : pc + 3 = q) (k1 : mv_LS p l e s m b below meth c N0 D dA tgt L st f1) (k2 : mv_LS p l e s m b below meth c N0 D dA q L st f2) : mv_LS p l e s m b below meth c N0 D dA pc L (.int y :: .int x :: st) (if x = y then f2 else f1) := by
  subst hp
  exact ⟨mv_Gr.ite k2.1 k1.1, fun h h' hf b1 b2 H locs ls hP hS hl => lv_icmp_ne hC.1 hC.2.1 hdg ht (fun z => k1.2 h h' (by rw [if_neg z] at hf; exact hf) b1 b2 H locs ls hP hS hl) (fun z => k2.2 h h' (by rw [if_pos z] at hf; exact hf) b1 b2 H locs ls hP hS hl)⟩
theorem ls_if_lt {x : Int32} {off : Int} {tgt : Nat} {f1 f2 : mv_M Int32} (hC : mv_Lx p s m b meth c N0 D dA) (hdg : decode code pc = .ok (.ifCond .lt off, 3)) (ht : (pc : Int) + off = (tgt : Int)) (hp : pc + 3 = q) (k1 : mv_LS p l e s m b below meth c N0 D dA tgt L st f1) (k2 : mv_LS p l e s m b below meth c N0 D dA q L st f2) : mv_LS p l e s m b below meth c N0 D dA pc L (.int x :: st) (if x < 0 then f1 else f2) := by
  subst hp
  exact ⟨mv_Gr.ite k1.1 k2.1, fun h h' hf b1 b2 H locs ls hP hS hl => lv_if_lt hC.1 hC.2.1 hdg ht (fun z => k1.2 h h' (by rw [if_pos z] at hf; exact hf) b1 b2 H locs ls hP hS hl) (fun z => k2.2 h h' (by rw [if_neg z] at hf; exact hf) b1 b2 H locs ls hP hS hl)⟩
theorem ls_icmp_lt {x y : Int32} {off : Int} {tgt : Nat} {f1 f2 : mv_M Int32} (hC : mv_Lx p s m b meth c N0 D dA) (hdg : decode code pc = .ok (.if_icmp .lt off, 3)) (ht : (pc : Int) + off = (tgt : Int)) (hp : pc + 3 = q) (k1 : mv_LS p l e s m b below meth c N0 D dA tgt L st f1) (k2 : mv_LS p l e s m b below meth c N0 D dA q L st f2) : mv_LS p l e s m b below meth c N0 D dA pc L (.int y :: .int x :: st) (if x < y then f1 else f2) := by
  subst hp
  exact ⟨mv_Gr.ite k1.1 k2.1, fun h h' hf b1 b2 H locs ls hP hS hl => lv_icmp_lt hC.1 hC.2.1 hdg ht (fun z => k1.2 h h' (by rw [if_pos z] at hf; exact hf) b1 b2 H locs ls hP hS hl) (fun z => k2.2 h h' (by rw [if_neg z] at hf; exact hf) b1 b2 H locs ls hP hS hl)⟩
theorem ls_if_ge {x : Int32} {off : Int} {tgt : Nat} {f1 f2 : mv_M Int32} (hC : mv_Lx p s m b meth c N0 D dA) (hdg : decode code pc = .ok (.ifCond .ge off, 3)) (ht : (pc : Int) + off = (tgt : Int)) (hp : pc + 3 = q) (k1 : mv_LS p l e s m b below meth c N0 D dA tgt L st f1) (k2 : mv_LS p l e s m b below meth c N0 D dA q L st f2) : mv_LS p l e s m b below meth c N0 D dA pc L (.int x :: st) (if 0 ≤ x then f1 else f2) := by
  subst hp
  exact ⟨mv_Gr.ite k1.1 k2.1, fun h h' hf b1 b2 H locs ls hP hS hl => lv_if_ge hC.1 hC.2.1 hdg ht (fun z => k1.2 h h' (by rw [if_pos z] at hf; exact hf) b1 b2 H locs ls hP hS hl) (fun z => k2.2 h h' (by rw [if_neg z] at hf; exact hf) b1 b2 H locs ls hP hS hl)⟩
theorem ls_icmp_ge {x y : Int32} {off : Int} {tgt : Nat} {f1 f2 : mv_M Int32} (hC : mv_Lx p s m b meth c N0 D dA) (hdg : decode code pc = .ok (.if_icmp .ge off, 3)) (ht : (pc : Int) + off = (tgt : Int)) (hp : pc + 3 = q) (k1 : mv_LS p l e s m b below meth c N0 D dA tgt L st f1) (k2 : mv_LS p l e s m b below meth c N0 D dA q L st f2) : mv_LS p l e s m b below meth c N0 D dA pc L (.int y :: .int x :: st) (if y ≤ x then f1 else f2) := by
  subst hp
  exact ⟨mv_Gr.ite k1.1 k2.1, fun h h' hf b1 b2 H locs ls hP hS hl => lv_icmp_ge hC.1 hC.2.1 hdg ht (fun z => k1.2 h h' (by rw [if_pos z] at hf; exact hf) b1 b2 H locs ls hP hS hl) (fun z => k2.2 h h' (by rw [if_neg z] at hf; exact hf) b1 b2 H locs ls hP hS hl)⟩
theorem ls_if_gt {x : Int32} {off : Int} {tgt : Nat} {f1 f2 : mv_M Int32} (hC : mv_Lx p s m b meth c N0 D dA) (hdg : decode code pc = .ok (.ifCond .gt off, 3)) (ht : (pc : Int) + off = (tgt : Int)) (hp : pc + 3 = q) (k1 : mv_LS p l e s m b below meth c N0 D dA tgt L st f1) (k2 : mv_LS p l e s m b below meth c N0 D dA q L st f2) : mv_LS p l e s m b below meth c N0 D dA pc L (.int x :: st) (if 0 < x then f1 else f2) := by
  subst hp
  exact ⟨mv_Gr.ite k1.1 k2.1, fun h h' hf b1 b2 H locs ls hP hS hl => lv_if_gt hC.1 hC.2.1 hdg ht (fun z => k1.2 h h' (by rw [if_pos z] at hf; exact hf) b1 b2 H locs ls hP hS hl) (fun z => k2.2 h h' (by rw [if_neg z] at hf; exact hf) b1 b2 H locs ls hP hS hl)⟩
theorem ls_icmp_gt {x y : Int32} {off : Int} {tgt : Nat} {f1 f2 : mv_M Int32} (hC : mv_Lx p s m b meth c N0 D dA) (hdg : decode code pc = .ok (.if_icmp .gt off, 3)) (ht : (pc : Int) + off = (tgt : Int)) (hp : pc + 3 = q) (k1 : mv_LS p l e s m b below meth c N0 D dA tgt L st f1) (k2 : mv_LS p l e s m b below meth c N0 D dA q L st f2) : mv_LS p l e s m b below meth c N0 D dA pc L (.int y :: .int x :: st) (if y < x then f1 else f2) := by
  subst hp
  exact ⟨mv_Gr.ite k1.1 k2.1, fun h h' hf b1 b2 H locs ls hP hS hl => lv_icmp_gt hC.1 hC.2.1 hdg ht (fun z => k1.2 h h' (by rw [if_pos z] at hf; exact hf) b1 b2 H locs ls hP hS hl) (fun z => k2.2 h h' (by rw [if_neg z] at hf; exact hf) b1 b2 H locs ls hP hS hl)⟩
theorem ls_if_le {x : Int32} {off : Int} {tgt : Nat} {f1 f2 : mv_M Int32} (hC : mv_Lx p s m b meth c N0 D dA) (hdg : decode code pc = .ok (.ifCond .le off, 3)) (ht : (pc : Int) + off = (tgt : Int)) (hp : pc + 3 = q) (k1 : mv_LS p l e s m b below meth c N0 D dA tgt L st f1) (k2 : mv_LS p l e s m b below meth c N0 D dA q L st f2) : mv_LS p l e s m b below meth c N0 D dA pc L (.int x :: st) (if x ≤ 0 then f1 else f2) := by
  subst hp
  exact ⟨mv_Gr.ite k1.1 k2.1, fun h h' hf b1 b2 H locs ls hP hS hl => lv_if_le hC.1 hC.2.1 hdg ht (fun z => k1.2 h h' (by rw [if_pos z] at hf; exact hf) b1 b2 H locs ls hP hS hl) (fun z => k2.2 h h' (by rw [if_neg z] at hf; exact hf) b1 b2 H locs ls hP hS hl)⟩
theorem ls_icmp_le {x y : Int32} {off : Int} {tgt : Nat} {f1 f2 : mv_M Int32} (hC : mv_Lx p s m b meth c N0 D dA) (hdg : decode code pc = .ok (.if_icmp .le off, 3)) (ht : (pc : Int) + off = (tgt : Int)) (hp : pc + 3 = q) (k1 : mv_LS p l e s m b below meth c N0 D dA tgt L st f1) (k2 : mv_LS p l e s m b below meth c N0 D dA q L st f2) : mv_LS p l e s m b below meth c N0 D dA pc L (.int y :: .int x :: st) (if x ≤ y then f1 else f2) := by
  subst hp
  exact ⟨mv_Gr.ite k1.1 k2.1, fun h h' hf b1 b2 H locs ls hP hS hl => lv_icmp_le hC.1 hC.2.1 hdg ht (fun z => k1.2 h h' (by rw [if_pos z] at hf; exact hf) b1 b2 H locs ls hP hS hl) (fun z => k2.2 h h' (by rw [if_neg z] at hf; exact hf) b1 b2 H locs ls hP hS hl)⟩
theorem ls_irem {x y : Int32} {g : Int32 → mv_M Int32} (hC : mv_Lx p s m b meth c N0 D dA) (hdg : decode code pc = .ok (.irem, 1)) (hp : pc + 1 = q) (kk : ∀ z, mv_LS p l e s m b below meth c N0 D dA q L (.int z :: st) (g z)) : mv_LS p l e s m b below meth c N0 D dA pc L (.int y :: .int x :: st) (mv_bd (mv_rm x y) g) := by
  subst hp
  refine ⟨mv_Gr.bd mv_Gr.rm (fun a => (kk a).1), fun h h' hf b1 b2 H locs ls hP hS hl => ?_⟩
  by_cases hy : y = 0
  · unfold mv_rm at hf; rw [if_pos hy] at hf; cases hf
  · unfold mv_rm at hf; rw [if_neg hy] at hf
    exact lv_irem hC.1 hC.2.1 hdg hy ((kk _).2 h h' hf b1 b2 H locs ls hP hS hl)
theorem ls_zret {x : Int32} (hC : mv_Lx p s m b meth c N0 D dA) (hX : mv_Lsc s b N0 Ls xs) (hdg : decode code pc = .ok (.ireturn, 1)) : mv_LS p l e s m b below meth c N0 D dA pc L [.int x] (mv_rz x) := by
  refine ⟨mv_Gr.rz, fun h h' hf b1 b2 H locs ls hP hS hl => ?_⟩
  unfold mv_rz at hf
  by_cases hx : x = 0 ∨ x = 1
  · rw [if_pos hx] at hf
    cases hf
    refine va_forget (by rw [← hX.2.2.2]; exact hS.2.2) (W.widen (k := 600000) (n := 7302250) (by omega) (by omega) ?_)
    exact lw_ret (d0 := s.drawn) (Drawn.sameBut.refl s.drawn lw_cs) hC.1 hC.2.1 hC.2.2.2.2.2.1 hC.2.2.2.2.2.2.1 hdg
  · rw [if_neg hx] at hf; cases hf
theorem ls_callV {β : Type} {rv' : β → Option Value} {gf : Nat → mv_M β} {g : β → mv_M Int32} {stk : List Value} {y : MethodName} {cb : ByteArray} {kL fr' lo' ci n idx i0 : Nat} {rt : Option FieldType} {C : String} {T : u_T} (As : List Value) (hM : ∀ i, mv_SimM l N0 D dA y cb kL rt fr' lo' rv' (.ref (N0 + i) :: As) (gf i)) (hc : vwCl[ci]? = some (C, T, n)) (hci : ci < 8) (hw : mv_wV RL idx C y cb kL rt As.length) (hR : fr' + 1 ≤ 11 ∧ 8 + (kL + 11) + lo' ≤ 440) (hst : stk = As.reverse ++ .ref (N0 + i0) :: st) (hcat : (st.map fun v => v.category).sum ≤ 8) (hC : mv_Lx p s m b meth c N0 D dA) (hdg : decode code pc = .ok (.invokevirtual idx, 3)) (hp : pc + 3 = q) (kk : ∀ z, mv_LS p l e s m b below meth c N0 D dA q L ((rv' z).toList ++ st) (g z)) : mv_LS p l e s m b below meth c N0 D dA pc L stk (mv_bd (mv_rc ci n (some i0)) fun i => mv_bd (gf i) g) := by
  subst hp
  refine ⟨mv_Gr.bd mv_Gr.rc (fun i => mv_Gr.bd (hM i).1 (fun a => (kk a).1)), fun h h' hf b1 b2 H locs ls hP hS hl => ?_⟩
  obtain ⟨i, h0, e1, e2⟩ := mv_bd_of hf
  obtain ⟨z0, hi, rfl⟩ := mv_rc_of e1
  cases z0
  obtain ⟨z, h1, e3, e4⟩ := mv_bd_of e2
  have k2 := (kk z).1 _ _ _ e4
  exact mv_wcallV As hC (hM i0) hc hci hw (by show _ ≤ 12 ∧ _ ≤ 512; omega) ⟨by show h1.1.length - 0 ≤ 600000; omega, by show h1.2.1 - 0 ≤ 7302250; omega⟩ hst hcat hdg (Nat.zero_le _) (Nat.zero_le _) hP hS hl.1 hi e3 (fun H1 locs1 hP1 hS1 => (kk z).2 h1 h' e4 b1 b2 H1 locs1 ls hP1 hS1 hl)
theorem ls_callS {β : Type} {rv' : β → Option Value} {gf : mv_M β} {g : β → mv_M Int32} {stk : List Value} {y : MethodName} {cb : ByteArray} {kL fr' lo' idx : Nat} {rt : Option FieldType} (As : List Value) (hM : mv_SimM l N0 D dA y cb kL rt fr' lo' rv' As gf) (hw : mv_wS RL idx y cb kL rt As.length) (hR : fr' + 1 ≤ 11 ∧ 8 + (kL + 11) + lo' ≤ 440) (hst : stk = As.reverse ++ st) (hcat : (st.map fun v => v.category).sum ≤ 8) (hC : mv_Lx p s m b meth c N0 D dA) (hdg : decode code pc = .ok (.invokestatic idx, 3)) (hp : pc + 3 = q) (kk : ∀ z, mv_LS p l e s m b below meth c N0 D dA q L ((rv' z).toList ++ st) (g z)) : mv_LS p l e s m b below meth c N0 D dA pc L stk (mv_bd gf g) := by
  subst hp
  refine ⟨mv_Gr.bd hM.1 (fun a => (kk a).1), fun h h' hf b1 b2 H locs ls hP hS hl => ?_⟩
  obtain ⟨z, h1, e3, e4⟩ := mv_bd_of hf
  have k2 := (kk z).1 _ _ _ e4
  exact mv_wcallS As hC hM hw (by show _ ≤ 12 ∧ _ ≤ 512; omega) ⟨by show h1.1.length - 0 ≤ 600000; omega, by show h1.2.1 - 0 ≤ 7302250; omega⟩ hst hcat hdg (Nat.zero_le _) (Nat.zero_le _) hP hS hl.1 e3 (fun H1 locs1 hP1 hS1 => (kk z).2 h1 h' e4 b1 b2 H1 locs1 ls hP1 hS1 hl)
theorem ls_callVi {gf : Nat → mv_M Int32} {g : Int32 → mv_M Int32} {stk : List Value} {y : MethodName} {cb : ByteArray} {kL fr' lo' ci n idx i0 : Nat} {rt : Option FieldType} {C : String} {T : u_T} (As : List Value) (hM : ∀ i, mv_SimM l N0 D dA y cb kL rt fr' lo' mv_rI (.ref (N0 + i) :: As) (gf i)) (hc : vwCl[ci]? = some (C, T, n)) (hci : ci < 8) (hw : mv_wV RL idx C y cb kL rt As.length) (hR : fr' + 1 ≤ 11 ∧ 8 + (kL + 11) + lo' ≤ 440) (hst : stk = As.reverse ++ .ref (N0 + i0) :: st) (hcat : (st.map fun v => v.category).sum ≤ 8) (hC : mv_Lx p s m b meth c N0 D dA) (hdg : decode code pc = .ok (.invokevirtual idx, 3)) (hp : pc + 3 = q) (kk : ∀ z, mv_LS p l e s m b below meth c N0 D dA q L (.int z :: st) (g z)) : mv_LS p l e s m b below meth c N0 D dA pc L stk (mv_bd (mv_rc ci n (some i0)) fun i => mv_bd (gf i) g) :=
  ls_callV As hM hc hci hw hR hst hcat hC hdg hp (fun z => kk z)
theorem ls_callSi {gf : mv_M Int32} {g : Int32 → mv_M Int32} {stk : List Value} {y : MethodName} {cb : ByteArray} {kL fr' lo' idx : Nat} {rt : Option FieldType} (As : List Value) (hM : mv_SimM l N0 D dA y cb kL rt fr' lo' mv_rI As gf) (hw : mv_wS RL idx y cb kL rt As.length) (hR : fr' + 1 ≤ 11 ∧ 8 + (kL + 11) + lo' ≤ 440) (hst : stk = As.reverse ++ st) (hcat : (st.map fun v => v.category).sum ≤ 8) (hC : mv_Lx p s m b meth c N0 D dA) (hdg : decode code pc = .ok (.invokestatic idx, 3)) (hp : pc + 3 = q) (kk : ∀ z, mv_LS p l e s m b below meth c N0 D dA q L (.int z :: st) (g z)) : mv_LS p l e s m b below meth c N0 D dA pc L stk (mv_bd gf g) :=
  ls_callS As hM hw hR hst hcat hC hdg hp (fun z => kk z)
theorem ls_callVj {gf : Nat → mv_M Int64} {g : Int64 → mv_M Int32} {stk : List Value} {y : MethodName} {cb : ByteArray} {kL fr' lo' ci n idx i0 : Nat} {rt : Option FieldType} {C : String} {T : u_T} (As : List Value) (hM : ∀ i, mv_SimM l N0 D dA y cb kL rt fr' lo' mv_rJ (.ref (N0 + i) :: As) (gf i)) (hc : vwCl[ci]? = some (C, T, n)) (hci : ci < 8) (hw : mv_wV RL idx C y cb kL rt As.length) (hR : fr' + 1 ≤ 11 ∧ 8 + (kL + 11) + lo' ≤ 440) (hst : stk = As.reverse ++ .ref (N0 + i0) :: st) (hcat : (st.map fun v => v.category).sum ≤ 8) (hC : mv_Lx p s m b meth c N0 D dA) (hdg : decode code pc = .ok (.invokevirtual idx, 3)) (hp : pc + 3 = q) (kk : ∀ z, mv_LS p l e s m b below meth c N0 D dA q L (.long z :: st) (g z)) : mv_LS p l e s m b below meth c N0 D dA pc L stk (mv_bd (mv_rc ci n (some i0)) fun i => mv_bd (gf i) g) :=
  ls_callV As hM hc hci hw hR hst hcat hC hdg hp (fun z => kk z)
theorem ls_callSj {gf : mv_M Int64} {g : Int64 → mv_M Int32} {stk : List Value} {y : MethodName} {cb : ByteArray} {kL fr' lo' idx : Nat} {rt : Option FieldType} (As : List Value) (hM : mv_SimM l N0 D dA y cb kL rt fr' lo' mv_rJ As gf) (hw : mv_wS RL idx y cb kL rt As.length) (hR : fr' + 1 ≤ 11 ∧ 8 + (kL + 11) + lo' ≤ 440) (hst : stk = As.reverse ++ st) (hcat : (st.map fun v => v.category).sum ≤ 8) (hC : mv_Lx p s m b meth c N0 D dA) (hdg : decode code pc = .ok (.invokestatic idx, 3)) (hp : pc + 3 = q) (kk : ∀ z, mv_LS p l e s m b below meth c N0 D dA q L (.long z :: st) (g z)) : mv_LS p l e s m b below meth c N0 D dA pc L stk (mv_bd gf g) :=
  ls_callS As hM hw hR hst hcat hC hdg hp (fun z => kk z)
theorem nm_L_lot : mv_nm yL_lot 2 := ⟨by decide +kernel, by decide +kernel, by decide +kernel⟩
theorem wy_L_lot : Cond.static yL_lot ∈ mv_wA ∧ Cond.initialized yL_lot.cls ∈ mv_wA ∧ Cond.code yL_lot cL_lot 2 (some .int) ∈ mv_wA ∧ mv_nm yL_lot 2 := ⟨mv_wA_of (mv_t2 (List.mem_of_getElem? (i := 82) rfl)) rfl, mv_wA_of (mv_t1 (List.mem_of_getElem? (i := 0) rfl)) rfl, mv_wA_of (mv_t2 (List.mem_of_getElem? (i := 83) rfl)) rfl, nm_L_lot⟩
theorem wc_L_124 : mv_wS RL 124 yL_lot cL_lot 2 (some .int) 2 := ⟨mv_wA_of (mv_t2 (List.mem_of_getElem? (i := 81) rfl)) rfl, wy_L_lot⟩
theorem ls_lot {x : Int32} {g : Int32 → mv_M Int32} (hC : mv_Lx p s m b meth c N0 D dA) (hX : mv_Lsc s b N0 Ls xs) (hdg : decode code pc = .ok (.invokestatic 124, 3)) (hcat : (st.map fun v => v.category).sum ≤ 8) (hp : pc + 3 = q) (kk : ∀ z, mv_LS p l e s m b below meth c N0 D dA q L (.int z :: st) (g z)) : mv_LS p l e s m b below meth c N0 D dA pc L (.int x :: .ref b :: st) (mv_bd (mv_lot Ls xs x) g) := by
  subst hp
  refine ⟨mv_Gr.bd mv_Gr.lot (fun a => (kk a).1), fun h h' hf b1 b2 H locs ls hP hS hl => ?_⟩
  by_cases hk : x < 0
  · unfold mv_lot at hf; rw [if_pos hk] at hf; cases hf
  unfold mv_lot at hf
  rw [if_neg hk] at hf
  have hf' : g (p_lot Ls xs x) h = some (1, h') := hf
  have k2 := (kk (p_lot Ls xs x)).1 _ _ _ hf'
  obtain ⟨hx, hb, hml, hown, hts, -, -, -, hK, hNW, hz⟩ := hC
  obtain ⟨w1, w2, w4, w5, w6⟩ := wc_L_124
  obtain ⟨x1, x2, x3, x4⟩ := hX
  refine mv_bound (fun hbd => ?_)
  have hsize := mv_size hz (Nat.zero_le _) hP hS hbd
  have hbA : ¬ N0 ≤ b := Nat.not_le.mpr x3
  have hXH : va_X b Ls xs s H := x1.kept (hS.2.1 b x2 hbA)
  have blind : FrameBlind (mv_Pl N0 D dA h b Ls xs x) := fun a U g mk z => ⟨mv_blind a U g mk z.1, va_X.moved (u := U) (U := U.calling g mk a) (Vm.Alike.refl U.vm) z.2.1, z.2.2⟩
  have hr := va_runS (p := p) (l := l) (e := e) (R := room_1) (s := s) (m := m) (args := #[Value.ref b]) (below := below) (meth := meth) (c := c) (H := H) (locs := locs) (cells := h.1.length - 0) (slots := h.2.1 - 0) (g := F0 m pc ls (.int x :: .ref b :: st)) (As := [.ref b, .int x]) (rest := st) ⟨hx, hb, hml, hown, hts⟩ (c_L_lot l N0 D dA h (b := b) (Ls := Ls) xs x hk) ⟨callB_of 2 hts (mv_goodIn w5) rfl rfl rfl (hts _ w4) (hts _ w1) w6 ⟨Nat.le_of_ble_eq_true rfl, Nat.le_of_ble_eq_true rfl⟩, hts _ w2⟩ ⟨blind, fun U hU hW => ⟨⟨rfl, by rw [hU]; exact hsize, by rw [hU]; exact hP, va_K.moved hW.alike hK, mv_NW.warm hW hNW⟩, by rw [hU]; exact va_X.moved hW.alike hXH, by rw [hU]; exact Nat.lt_of_lt_of_le x2 hS.1, x3⟩⟩ rfl rfl hl.1 rfl (lv_room hcat) hdg ⟨by show h.1.length - 0 + 0 ≤ 600000; omega, by show h.2.1 - 0 + 0 ≤ 7302250; omega⟩
  have hr' : va_Run p l e room_1 s m #[Value.ref b] below meth c H locs (h.1.length - 0) (h.2.1 - 0) (h.1.length - h.1.length) (h.2.1 - h.2.1) (F0 m pc ls (.int x :: .ref b :: st)) st (mv_Qc N0 D dA mv_rI (p_lot Ls xs x) h [Value.ref b, .int x].toArray) (fun q : Nat => N0 ≤ q) := by rw [Nat.sub_self, Nat.sub_self]; exact hr
  exact mv_ofRun (Nat.zero_le _) (Nat.zero_le _) (Nat.le_refl _) (Nat.le_refl _) hr' hS (fun H1 locs1 hP1 hS1 => (kk _).2 h h' hf' b1 b2 H1 locs1 ls hP1 hS1 hl)
end MVL
