/-! the small heap: what the cells that the law makes hold; a cell is a number, a reference is a number or none -/
abbrev mv_Hp : Type := List (Nat × Nat) × Nat × (Nat → Nat → Int32) × (Nat → Nat → Option Nat)
abbrev mv_M (α : Type) : Type := mv_Hp → Option (α × mv_Hp)
def mv_pu {α : Type} (a : α) : mv_M α := fun h => some (a, h)
def mv_fl {α : Type} : mv_M α := fun _ => none
def mv_bd {α β : Type} (f : mv_M α) (g : α → mv_M β) : mv_M β := fun h => match f h with
  | none => none
  | some q => g q.1 q.2
def mv_u2 {α : Type} (f : Nat → Nat → α) (i k : Nat) (v : α) : Nat → Nat → α := fun a b => if a = i then (if b = k then v else f a b) else f a b
def mv_u1 {α : Type} (f : Nat → Nat → α) (i : Nat) (v : α) : Nat → Nat → α := fun a b => if a = i then v else f a b
/-- an int field (class c of n slots, slot k); a reference field; their writes; a boolean's -/
def mv_gI (c n k : Nat) (r : Option Nat) : mv_M Int32 := fun h => match r with
  | none => none
  | some i => if h.1[i]? = some (c, n) then some (h.2.2.1 i k, h) else none
def mv_gR (c n k : Nat) (r : Option Nat) : mv_M (Option Nat) := fun h => match r with
  | none => none
  | some i => if h.1[i]? = some (c, n) then some (h.2.2.2 i k, h) else none
def mv_sI (c n k : Nat) (r : Option Nat) (v : Int32) : mv_M Unit := fun h => match r with
  | none => none
  | some i => if h.1[i]? = some (c, n) then some ((), (h.1, h.2.1, mv_u2 h.2.2.1 i k v, h.2.2.2)) else none
def mv_sZ (c n k : Nat) (r : Option Nat) (v : Int32) : mv_M Unit := fun h => match r with
  | none => none
  | some i => if h.1[i]? = some (c, n) ∧ (v = 0 ∨ v = 1) then some ((), (h.1, h.2.1, mv_u2 h.2.2.1 i k v, h.2.2.2)) else none
def mv_sR (c n k : Nat) (r : Option Nat) (v : Option Nat) : mv_M Unit := fun h => match r with
  | none => none
  | some i => if h.1[i]? = some (c, n) then some ((), (h.1, h.2.1, h.2.2.1, mv_u2 h.2.2.2 i k v)) else none
/-- the receiver of a call: of class c -/
def mv_rc (c n : Nat) (r : Option Nat) : mv_M Nat := fun h => match r with
  | none => none
  | some i => if h.1[i]? = some (c, n) then some (i, h) else none
/-- arrays: kind 8 of ints, 9 .. 11 of references -/
def mv_aL (r : Option Nat) : mv_M Int32 := fun h => match r with
  | none => none
  | some i => match h.1[i]? with
    | none => none
    | some q => if 8 ≤ q.1 ∧ q.1 < 12 then some (Int32.ofNat q.2, h) else none
def mv_aI (r : Option Nat) (j : Int32) : mv_M Int32 := fun h => match r with
  | none => none
  | some i => match h.1[i]? with
    | none => none
    | some q => if q.1 = 8 ∧ ¬ (j < 0 ∨ q.2 ≤ j.toNatClampNeg) then some (h.2.2.1 i j.toNatClampNeg, h) else none
def mv_aS (r : Option Nat) (j v : Int32) : mv_M Unit := fun h => match r with
  | none => none
  | some i => match h.1[i]? with
    | none => none
    | some q => if q.1 = 8 ∧ ¬ (j < 0 ∨ q.2 ≤ j.toNatClampNeg) then some ((), (h.1, h.2.1, mv_u2 h.2.2.1 i j.toNatClampNeg v, h.2.2.2)) else none
def mv_aR (t : Nat) (r : Option Nat) (j : Int32) : mv_M (Option Nat) := fun h => match r with
  | none => none
  | some i => match h.1[i]? with
    | none => none
    | some q => if q.1 = 8 + t ∧ ¬ (j < 0 ∨ q.2 ≤ j.toNatClampNeg) then some (h.2.2.2 i j.toNatClampNeg, h) else none
def mv_aT (t c n : Nat) (r : Option Nat) (j : Int32) (v : Option Nat) : mv_M Unit := fun h => match r with
  | none => none
  | some i => match h.1[i]? with
    | none => none
    | some q => match v with
      | none => none
      | some x => if q.1 = 8 + t ∧ ¬ (j < 0 ∨ q.2 ≤ j.toNatClampNeg) ∧ h.1[x]? = some (c, n) then some ((), (h.1, h.2.1, h.2.2.1, mv_u2 h.2.2.2 i j.toNatClampNeg (some x))) else none
/-- a new cell of kind c and n slots -/
def mv_nw (c n : Nat) : mv_M (Option Nat) := fun h => some (some h.1.length, (h.1 ++ [(c, n)], h.2.1 + n, mv_u1 h.2.2.1 h.1.length 0, mv_u1 h.2.2.2 h.1.length none))
def mv_nA (c : Nat) (x : Int32) : mv_M (Option Nat) := fun h => if x < 0 ∨ 65536 < x.toNatClampNeg then none else mv_nw c x.toNatClampNeg h
def mv_rz (x : Int32) : mv_M Int32 := if x = 0 ∨ x = 1 then mv_pu x else mv_fl
def mv_rm (x y : Int32) : mv_M Int32 := if y = 0 then mv_fl else mv_pu (x - x / y * y)
def mv_dd (x y : UInt64) : mv_M UInt64 := if FP.ddiv x y &&& 0x7fffffffffffffff ≤ 0x7ff0000000000000 then mv_pu (FP.ddiv x y) else mv_fl
/-- which slots of a class hold references -/
def mv_rs (c k : Nat) : Bool := match c with
  | 1 => k == 0
  | 2 => k == 0
  | 3 => k == 0
  | 4 => k == 0
  | 5 => k == 0 || k == 1 || k == 2
  | 6 => k == 0 || k == 1 || k == 2 || k == 3 || k == 4 || k == 5
  | 7 => k == 0 || k == 1 || k == 2 || k == 4 || k == 6 || k == 11
  | _ => false
/-- it only grows -/
def mv_Gr {α : Type} (f : mv_M α) : Prop := ∀ h v h', f h = some (v, h') → h.1.length ≤ h'.1.length ∧ h.2.1 ≤ h'.2.1
abbrev mv_vr (N0 : Nat) (r : Option Nat) : Value := va_rf (r.map (fun i => N0 + i))
def mv_cE (N0 : Nat) (dA : Nat → ClassId) (h : mv_Hp) (i : Nat) (q : Nat × Nat) : va_E :=
  if q.1 < 8 then .inr (q.1, (List.range q.2).map (fun k => if mv_rs q.1 k = true then mv_vr N0 (h.2.2.2 i k) else .int (h.2.2.1 i k)))
  else if q.1 = 8 then .inl (dA 0, q.2, .inl (h.2.2.1 i)) else .inl (dA (q.1 - 8), q.2, .inr (.inr (.inr (.inr (fun k => (h.2.2.2 i k).map (fun i => N0 + i))))))
def mv_ws (N0 : Nat) (dA : Nat → ClassId) (h : mv_Hp) : va_W := (List.range h.1.length).map fun i => (N0 + i, mv_cE N0 dA h i (h.1.getD i (0, 0)))
def mv_ty (dA : Nat → ClassId) : List (ClassId × FieldType) := [(dA 0, .int), (dA 1, .object RX5), (dA 2, .object RX1), (dA 3, .object RX0)]
theorem mv_ws_get {N0 : Nat} {dA : Nat → ClassId} {h : mv_Hp} {i : Nat} {q : Nat × Nat} (hq : h.1[i]? = some q) : (mv_ws N0 dA h)[i]? = some (N0 + i, mv_cE N0 dA h i q) := by
  have hl : i < h.1.length := (List.getElem?_eq_some_iff.mp hq).1
  unfold mv_ws
  rw [List.getElem?_map, List.getElem?_range hl]
  simp [List.getD, hq]
theorem mv_ws_len {N0 : Nat} {dA : Nat → ClassId} {h : mv_Hp} : (mv_ws N0 dA h).length = h.1.length := by simp [mv_ws]
theorem mv_ws_of {N0 : Nat} {dA : Nat → ClassId} {h : mv_Hp} {i : Nat} {e : Nat × va_E} (he : (mv_ws N0 dA h)[i]? = some e) : ∃ q, h.1[i]? = some q ∧ e = (N0 + i, mv_cE N0 dA h i q) := by
  have hl : i < h.1.length := by
    have := (List.getElem?_eq_some_iff.mp he).1
    rwa [mv_ws_len] at this
  refine ⟨h.1[i], List.getElem?_eq_getElem hl, ?_⟩
  have h1 := mv_ws_get (N0 := N0) (dA := dA) (List.getElem?_eq_getElem hl)
  rw [h1] at he
  exact (Option.some.inj he).symm
theorem mv_ws_D (N0 : Nat) (dA : Nat → ClassId) (h : mv_Hp) : va_D (fun q : Nat => N0 ≤ q) (mv_ws N0 dA h) := by
  refine ⟨fun i j p q hi hj e => ?_, fun k q hk => ?_⟩
  · obtain ⟨a, -, rfl⟩ := mv_ws_of hi
    obtain ⟨b, -, rfl⟩ := mv_ws_of hj
    have e1 : N0 + i = N0 + j := e
    omega
  · obtain ⟨a, -, rfl⟩ := mv_ws_of hk
    exact Nat.le_add_right _ _
theorem mv_ws_set {N0 : Nat} {dA : Nat → ClassId} {h h' : mv_Hp} {i : Nat} {q : Nat × Nat} {e : va_E} (hk : h'.1 = h.1) (hq : h.1[i]? = some q) (he : mv_cE N0 dA h' i q = e) (ho : ∀ j q, j ≠ i → mv_cE N0 dA h' j q = mv_cE N0 dA h j q) : (mv_ws N0 dA h).set i (N0 + i, e) = mv_ws N0 dA h' := by
  apply List.ext_getElem?
  intro j
  by_cases hj : j < h.1.length
  · have hj2 := List.getElem?_eq_getElem hj
    rw [mv_ws_get (h := h') (q := h.1[j]) (by rw [hk]; exact hj2)]
    by_cases e1 : i = j
    · subst e1
      rw [List.getElem?_set_self (by rw [mv_ws_len]; exact hj)]
      rw [hq] at hj2
      rw [← Option.some.inj hj2, he]
    · rw [List.getElem?_set_ne e1, mv_ws_get hj2, ho j _ (fun z => e1 z.symm)]
  · rw [List.getElem?_eq_none (by rw [List.length_set, mv_ws_len]; omega), List.getElem?_eq_none (by rw [mv_ws_len, hk]; omega)]
theorem mv_ws_push {N0 : Nat} {dA : Nat → ClassId} {h h' : mv_Hp} {q : Nat × Nat} {e : va_E} (hk : h'.1 = h.1 ++ [q]) (he : mv_cE N0 dA h' h.1.length q = e) (ho : ∀ j q, j ≠ h.1.length → mv_cE N0 dA h' j q = mv_cE N0 dA h j q) : mv_ws N0 dA h ++ [(N0 + h.1.length, e)] = mv_ws N0 dA h' := by
  apply List.ext_getElem?
  intro j
  by_cases hj : j < h.1.length
  · have hj2 := List.getElem?_eq_getElem hj
    rw [List.getElem?_append_left (by rw [mv_ws_len]; exact hj), mv_ws_get hj2, mv_ws_get (h := h') (q := h.1[j]) (by rw [hk, List.getElem?_append_left hj]; exact hj2), ho j _ (by omega)]
  · by_cases e1 : j = h.1.length
    · subst e1
      rw [mv_ws_get (h := h') (q := q) (by rw [hk]; simp), he]
      rw [List.getElem?_append_right (by rw [mv_ws_len]; exact Nat.le_refl _), mv_ws_len]
      simp
    · rw [List.getElem?_eq_none (by simp [mv_ws_len]; omega), List.getElem?_eq_none (by rw [mv_ws_len, hk]; simp; omega)]

/-- the words of members of nest mates -/
def mv_nest : List Cond := [.methodLinkNest "MovedStalls$Roads" 34 ⟨"MovedStalls$Carrier", "<init>", "()V"⟩ "MovedStalls", .fieldLinkNest "MovedStalls$Roads" 92 "MovedStalls$Carrier" "tour" "[I" "MovedStalls", .fieldLinkNest "MovedStalls$Roads" 86 "MovedStalls$Carrier" "length" "I" "MovedStalls", .fieldLinkNest "MovedStalls" 140 "MovedStalls$Carrier" "length" "I" "MovedStalls", .fieldLinkNest "MovedStalls" 72 "MovedStalls$Carrier" "roughness" "I" "MovedStalls", .fieldLinkNest "MovedStalls$Roads" 149 "MovedStalls$Carrier" "roughness" "I" "MovedStalls", .fieldLinkNest "MovedStalls" 67 "MovedStalls$Carrier" "aboutAgain" "I" "MovedStalls", .fieldLinkNest "MovedStalls$Roads" 89 "MovedStalls$Carrier" "aboutAgain" "I" "MovedStalls", .fieldLinkNest "MovedStalls" 147 "MovedStalls$Carrier" "changes" "I" "MovedStalls", .fieldLinkNest "MovedStalls$Roads" 148 "MovedStalls$Carrier" "changes" "I" "MovedStalls", .fieldLinkNest "MovedStalls" 150 "MovedStalls$Carrier" "broken" "I" "MovedStalls", .fieldLinkNest "MovedStalls$Roads" 152 "MovedStalls$Carrier" "broken" "I" "MovedStalls", .methodLinkNest "MovedStalls$Roads" 35 ⟨"MovedStalls$Bundle", "<init>", "()V"⟩ "MovedStalls", .fieldLinkNest "MovedStalls$Foresight" 32 "MovedStalls$Bundle" "to" "I" "MovedStalls", .fieldLinkNest "MovedStalls" 153 "MovedStalls$Bundle" "to" "I" "MovedStalls", .fieldLinkNest "MovedStalls$Roads" 120 "MovedStalls$Bundle" "to" "I" "MovedStalls", .fieldLinkNest "MovedStalls$Foresight" 29 "MovedStalls$Bundle" "town" "I" "MovedStalls", .fieldLinkNest "MovedStalls" 158 "MovedStalls$Bundle" "town" "I" "MovedStalls", .fieldLinkNest "MovedStalls$Roads" 106 "MovedStalls$Bundle" "town" "I" "MovedStalls", .fieldLinkNest "MovedStalls$Foresight" 61 "MovedStalls$Bundle" "hand" "I" "MovedStalls", .fieldLinkNest "MovedStalls$Roads" 99 "MovedStalls$Bundle" "hand" "I" "MovedStalls", .fieldLinkNest "MovedStalls" 161 "MovedStalls$Bundle" "hand" "I" "MovedStalls", .fieldLinkNest "MovedStalls$Foresight" 24 "MovedStalls$Bundle" "arrivedOn" "I" "MovedStalls", .fieldLinkNest "MovedStalls" 164 "MovedStalls$Bundle" "arrivedOn" "I" "MovedStalls", .fieldLinkNest "MovedStalls$Roads" 109 "MovedStalls$Bundle" "arrivedOn" "I" "MovedStalls", .fieldLinkNest "MovedStalls" 167 "MovedStalls$Bundle" "promise" "I" "MovedStalls", .fieldLinkNest "MovedStalls" 174 "MovedStalls$Bundle" "broken" "Z" "MovedStalls", .fieldLinkNest "MovedStalls$Roads" 112 "MovedStalls$Bundle" "broken" "Z" "MovedStalls", .fieldLinkNest "MovedStalls" 177 "MovedStalls$Bundle" "changes" "I" "MovedStalls", .fieldLinkNest "MovedStalls$Roads" 147 "MovedStalls$Bundle" "changes" "I" "MovedStalls", .fieldLinkNest "MovedStalls" 178 "MovedStalls$Bundle" "postedOn" "I" "MovedStalls", .fieldLinkNest "MovedStalls" 121 "MovedStalls$Roads" "carrierCount" "I" "MovedStalls", .fieldLinkNest "MovedStalls$Foresight" 50 "MovedStalls$Roads" "bundleCount" "I" "MovedStalls", .fieldLinkNest "MovedStalls" 82 "MovedStalls$Roads" "bundleCount" "I" "MovedStalls", .fieldLinkNest "MovedStalls$Foresight" 35 "MovedStalls$Roads" "today" "I" "MovedStalls", .fieldLinkNest "MovedStalls" 63 "MovedStalls$Roads" "today" "I" "MovedStalls", .fieldLinkNest "MovedStalls" 75 "MovedStalls$Roads" "load" "I" "MovedStalls", .fieldLinkNest "MovedStalls" 210 "MovedStalls$Roads" "lot" "I" "MovedStalls", .fieldLinkNest "MovedStalls" 203 "MovedStalls$Roads" "posted" "I" "MovedStalls", .fieldLinkNest "MovedStalls" 101 "MovedStalls$Roads" "arrivals" "I" "MovedStalls", .fieldLinkNest "MovedStalls" 206 "MovedStalls$Roads" "forgotten" "I" "MovedStalls", .fieldLinkNest "MovedStalls" 209 "MovedStalls$Roads" "changes" "I" "MovedStalls", .fieldLinkNest "MovedStalls" 213 "MovedStalls$History" "length" "I" "MovedStalls", .methodLinkNest "MovedStalls" 31 ⟨"MovedStalls$Pad", "<init>", "()V"⟩ "MovedStalls", .fieldLinkNest "MovedStalls" 108 "MovedStalls$Pad" "length" "I" "MovedStalls", .methodLinkNest "MovedStalls" 38 ⟨"MovedStalls$Foresight", "<init>", "()V"⟩ "MovedStalls", .fieldLinkNest "MovedStalls" 224 "MovedStalls$Foresight" "found" "I" "MovedStalls", .fieldLinkNest "MovedStalls" 227 "MovedStalls$Foresight" "sum" "I" "MovedStalls"]
def mv_isN : Cond → Bool
  | .fieldLinkNest _ _ _ _ _ _ => true
  | .methodLinkNest _ _ _ _ => true
  | _ => false
theorem mv_nest_all : mv_nest.all mv_isN = true := by decide +kernel
theorem mv_isN_same {w : Cond} (hw : mv_isN w = true) {u U : State} (h : u.vm = U.vm) (hZ : va_Nw w u) : va_Nw w U := by
  cases w <;> first | exact va_Nw.same rfl h hZ | (cases hw; done)
theorem mv_isN_warm {w : Cond} (hw : mv_isN w = true) {s U : State} (hW : s.WarmedH U.vm) (hZ : va_Nw w s) : va_Nw w U := by
  cases w <;> first | exact va_Nw.warmF hW hZ | exact va_Nw.warmM hW hZ | (cases hw; done)
def mv_NW (U : State) : Prop := (∀ w ∈ mv_nest, va_Nw w U) ∧ va_AO RX5 U ∧ va_AO RX1 U ∧ va_AO RX0 U
theorem mv_NW.same {u U : State} (h : u.vm = U.vm) (hN : mv_NW u) : mv_NW U := ⟨fun w hw => mv_isN_same (List.all_eq_true.mp mv_nest_all w hw) h (hN.1 w hw), hN.2.1.moved (by rw [h]; exact Vm.Alike.refl _), hN.2.2.1.moved (by rw [h]; exact Vm.Alike.refl _), hN.2.2.2.moved (by rw [h]; exact Vm.Alike.refl _)⟩
theorem mv_NW.warm {s U : State} (hW : s.WarmedH U.vm) (hN : mv_NW s) : mv_NW U := ⟨fun w hw => mv_isN_warm (List.all_eq_true.mp mv_nest_all w hw) hW (hN.1 w hw), hN.2.1.moved hW.alike, hN.2.2.1.moved hW.alike, hN.2.2.2.moved hW.alike⟩
def mv_wA : List Cond := lw_tbl.filter goodWord
theorem mv_wA_of {w : Cond} (h : w ∈ lw_tbl) (hg : goodWord w = true) : w ∈ mv_wA := List.mem_filter.mpr ⟨h, hg⟩
theorem mv_t1 {w : Cond} (h : w ∈ tables_1_1) : w ∈ lw_tbl := List.mem_append_right _ (List.mem_append_left _ h)
theorem mv_t2 {w : Cond} (h : w ∈ tables_1_2) : w ∈ lw_tbl := List.mem_append_right _ (List.mem_append_right _ (List.mem_append_left _ h))
theorem mv_t3 {w : Cond} (h : w ∈ tables_1_3) : w ∈ lw_tbl := List.mem_append_right _ (List.mem_append_right _ (List.mem_append_right _ h))
theorem mv_ts {w : Cond} (h : w ∈ k2_sels lw_privs) : w ∈ lw_tbl := List.mem_append_left _ h
theorem mv_good : mv_wA.all goodWord = true := List.all_eq_true.mpr fun w h => (List.mem_filter.mp h).2
/-- what stays in a method: the machine, its code, its words, the classes -/
def mv_Cx (N0 : Nat) (D : va_G) (dA : Nat → ClassId) (own : String) (cc : ByteArray) (nL : Nat) (ret : Option FieldType) (ini : Bool) (p : Program) (s : State) (m : MethodId) (args : Array Value) (meth : Method) (c : Code) (n0 : Nat) : Prop :=
  p.tables.exec = Jvm.exec ∧ c.code = cc ∧ c.maxLocals = nL ∧ s.vm.findClass own = some m.cls ∧ (∀ w ∈ mv_wA, w.before args s = true) ∧ meth.sig.returnType = ret ∧ meth.locks = false ∧ (ini = true → meth.name = "<init>") ∧ va_K D vwCl (mv_ty dA) s ∧ mv_NW s ∧ s.heap.size = N0 + n0
def mv_Pc (N0 : Nat) (D : va_G) (dA : Nat → ClassId) (av : List Value) (h : mv_Hp) : Array Value → State → Prop := fun a U => a = av.toArray ∧ U.heap.size = N0 + h.1.length ∧ va_P D vwCl (mv_ws N0 dA h) U.heap ∧ va_K D vwCl (mv_ty dA) U ∧ mv_NW U
def mv_Qc {α : Type} (N0 : Nat) (D : va_G) (dA : Nat → ClassId) (rv : α → Option Value) (v : α) (h' : mv_Hp) : Array Value → State → Outcome → State → Prop := fun _ st o t => o = .returned (rv v) ∧ va_P D vwCl (mv_ws N0 dA h') t.heap ∧ va_F (fun q : Nat => N0 ≤ q) st t
/-- the walk from pc on does what f says -/
def mv_Sw (l : Launch) (N0 : Nat) (D : va_G) (dA : Nat → ClassId) (own : String) (cc : ByteArray) (nL fr lo : Nat) (ret : Option FieldType) (ini : Bool) {α : Type} (rv : α → Option Value) (pc : Nat) (L : List (Nat × Value)) (st : List Value) (f : mv_M α) : Prop :=
  ∀ (p : Program) (e : Env) (s : State) (m : MethodId) (args : Array Value) (below : List Frame) (meth : Method) (c : Code) (n0 s0 : Nat), mv_Cx N0 D dA own cc nL ret ini p s m args meth c n0 →
    ∀ (h : mv_Hp) (H : Heap) (locs : List Loc) (ls : Array Slot) (v : α) (h' : mv_Hp), n0 ≤ h.1.length → s0 ≤ h.2.1 → va_P D vwCl (mv_ws N0 dA h) H → va_S (fun q : Nat => N0 ≤ q) s.heap H locs → lv_has ls nL L → (own = RL ∨ ∀ q ∈ L, q.2.category = 1) → f h = some (v, h') →
      W p l e { frames := fr, cells := h'.1.length - n0, slots := h'.2.1 - s0, locals := lo } s m args below meth c H locs (h.1.length - n0) (h.2.1 - s0) (MQ below (mv_Qc N0 D dA rv v h') args s (h'.1.length - n0) (h'.2.1 - s0) (fun q : Nat => N0 ≤ q)) (F0 m pc ls st)
def mv_Sim (l : Launch) (N0 : Nat) (D : va_G) (dA : Nat → ClassId) (own : String) (cc : ByteArray) (nL fr lo : Nat) (ret : Option FieldType) (ini : Bool) {α : Type} (rv : α → Option Value) (pc : Nat) (L : List (Nat × Value)) (st : List Value) (f : mv_M α) : Prop :=
  mv_Gr f ∧ mv_Sw l N0 D dA own cc nL fr lo ret ini rv pc L st f
/-- a whole method -/
def mv_SimM (l : Launch) (N0 : Nat) (D : va_G) (dA : Nat → ClassId) (y : MethodName) (cc : ByteArray) (nL : Nat) (ret : Option FieldType) (fr lo : Nat) {α : Type} (rv : α → Option Value) (av : List Value) (f : mv_M α) : Prop :=
  mv_Gr f ∧ ∀ (h : mv_Hp) (v : α) (h' : mv_Hp), f h = some (v, h') → Met l y (.code y cc nL ret :: mv_wA) { frames := fr, cells := h'.1.length - h.1.length, slots := h'.2.1 - h.2.1, locals := lo } (mv_Pc N0 D dA av h) (mv_Qc N0 D dA rv v h') (h'.1.length - h.1.length) (h'.2.1 - h.2.1) (fun q : Nat => N0 ≤ q)
def mv_rI : Int32 → Option Value := fun x => some (.int x)
def mv_rV : Unit → Option Value := fun _ => none
def mv_rR (N0 : Nat) : Option Nat → Option Value := fun r => some (mv_vr N0 r)
def mv_rD : UInt64 → Option Value := fun x => some (.double x)
def mv_rJ : Int64 → Option Value := fun x => some (.long x)
theorem mv_cat (N0 : Nat) (r : Option Nat) : (mv_vr N0 r).category = 1 := by cases r <;> rfl
theorem mv_Gr.pu {α : Type} (a : α) : mv_Gr (mv_pu a) := fun h v h' e => by cases e; exact ⟨Nat.le_refl _, Nat.le_refl _⟩
theorem mv_Gr.fl {α : Type} : mv_Gr (mv_fl : mv_M α) := fun h v h' e => by cases e
theorem mv_Gr.bd {α β : Type} {f : mv_M α} {g : α → mv_M β} (hf : mv_Gr f) (hg : ∀ a, mv_Gr (g a)) : mv_Gr (mv_bd f g) := fun h v h' e => by
  unfold mv_bd at e
  cases h1 : f h with
  | none => rw [h1] at e; cases e
  | some q =>
    rw [h1] at e
    have a1 := hf h q.1 q.2 h1
    have a2 := hg q.1 q.2 v h' e
    exact ⟨Nat.le_trans a1.1 a2.1, Nat.le_trans a1.2 a2.2⟩
theorem mv_Gr.ite {α : Type} {c : Prop} [Decidable c] {f g : mv_M α} (hf : mv_Gr f) (hg : mv_Gr g) : mv_Gr (if c then f else g) := by
  by_cases h : c
  · rw [if_pos h]; exact hf
  · rw [if_neg h]; exact hg
/-- a read: the heap stays -/
theorem mv_Gr.rd {α : Type} {f : mv_M α} (hf : ∀ h v h', f h = some (v, h') → h'.1 = h.1 ∧ h'.2.1 = h.2.1) : mv_Gr f := fun h v h' e => by
  obtain ⟨a, b⟩ := hf h v h' e
  exact ⟨by rw [a]; exact Nat.le_refl _, by rw [b]; exact Nat.le_refl _⟩
theorem mv_gI_of {c n k : Nat} {r : Option Nat} {h : mv_Hp} {v : Int32} {h' : mv_Hp} (e : mv_gI c n k r h = some (v, h')) : ∃ i, r = some i ∧ h.1[i]? = some (c, n) ∧ v = h.2.2.1 i k ∧ h = h' := by
  cases r with
  | none => cases e
  | some i =>
    unfold mv_gI at e
    dsimp only at e
    split at e
    · next q => cases e; exact ⟨i, rfl, q, rfl, rfl⟩
    · cases e
theorem mv_gR_of {c n k : Nat} {r : Option Nat} {h : mv_Hp} {v : Option Nat} {h' : mv_Hp} (e : mv_gR c n k r h = some (v, h')) : ∃ i, r = some i ∧ h.1[i]? = some (c, n) ∧ v = h.2.2.2 i k ∧ h = h' := by
  cases r with
  | none => cases e
  | some i =>
    unfold mv_gR at e
    dsimp only at e
    split at e
    · next q => cases e; exact ⟨i, rfl, q, rfl, rfl⟩
    · cases e
theorem mv_rc_of {c n : Nat} {r : Option Nat} {h : mv_Hp} {v : Nat} {h' : mv_Hp} (e : mv_rc c n r h = some (v, h')) : r = some v ∧ h.1[v]? = some (c, n) ∧ h = h' := by
  cases r with
  | none => cases e
  | some i =>
    unfold mv_rc at e
    dsimp only at e
    split at e
    · next q => cases e; exact ⟨rfl, q, rfl⟩
    · cases e
theorem mv_sI_of {c n k : Nat} {r : Option Nat} {x : Int32} {h : mv_Hp} {v : Unit} {h' : mv_Hp} (e : mv_sI c n k r x h = some (v, h')) : ∃ i, r = some i ∧ h.1[i]? = some (c, n) ∧ h' = (h.1, h.2.1, mv_u2 h.2.2.1 i k x, h.2.2.2) := by
  cases r with
  | none => cases e
  | some i =>
    unfold mv_sI at e
    dsimp only at e
    split at e
    · next q => cases e; exact ⟨i, rfl, q, rfl⟩
    · cases e
theorem mv_sZ_of {c n k : Nat} {r : Option Nat} {x : Int32} {h : mv_Hp} {v : Unit} {h' : mv_Hp} (e : mv_sZ c n k r x h = some (v, h')) : ∃ i, r = some i ∧ h.1[i]? = some (c, n) ∧ (x = 0 ∨ x = 1) ∧ h' = (h.1, h.2.1, mv_u2 h.2.2.1 i k x, h.2.2.2) := by
  cases r with
  | none => cases e
  | some i =>
    unfold mv_sZ at e
    dsimp only at e
    split at e
    · next q => cases e; exact ⟨i, rfl, q.1, q.2, rfl⟩
    · cases e
theorem mv_sR_of {c n k : Nat} {r x : Option Nat} {h : mv_Hp} {v : Unit} {h' : mv_Hp} (e : mv_sR c n k r x h = some (v, h')) : ∃ i, r = some i ∧ h.1[i]? = some (c, n) ∧ h' = (h.1, h.2.1, h.2.2.1, mv_u2 h.2.2.2 i k x) := by
  cases r with
  | none => cases e
  | some i =>
    unfold mv_sR at e
    dsimp only at e
    split at e
    · next q => cases e; exact ⟨i, rfl, q, rfl⟩
    · cases e
theorem mv_aL_of {r : Option Nat} {h : mv_Hp} {v : Int32} {h' : mv_Hp} (e : mv_aL r h = some (v, h')) : ∃ i q, r = some i ∧ h.1[i]? = some q ∧ 8 ≤ q.1 ∧ q.1 < 12 ∧ v = Int32.ofNat q.2 ∧ h = h' := by
  cases r with
  | none => cases e
  | some i =>
    unfold mv_aL at e
    dsimp only at e
    split at e
    · cases e
    · next q hq =>
      split at e
      · next hc => cases e; exact ⟨i, q, rfl, hq, hc.1, hc.2, rfl, rfl⟩
      · cases e
theorem mv_aI_of {r : Option Nat} {j : Int32} {h : mv_Hp} {v : Int32} {h' : mv_Hp} (e : mv_aI r j h = some (v, h')) : ∃ i n, r = some i ∧ h.1[i]? = some (8, n) ∧ vp_in j n ∧ v = h.2.2.1 i j.toNatClampNeg ∧ h = h' := by
  cases r with
  | none => cases e
  | some i =>
    unfold mv_aI at e
    dsimp only at e
    split at e
    · cases e
    · next q hq =>
      split at e
      · next hc => cases e; obtain ⟨a, n⟩ := q; obtain ⟨rfl, h2⟩ := hc; exact ⟨i, n, rfl, hq, h2, rfl, rfl⟩
      · cases e
theorem mv_aS_of {r : Option Nat} {j x : Int32} {h : mv_Hp} {v : Unit} {h' : mv_Hp} (e : mv_aS r j x h = some (v, h')) : ∃ i n, r = some i ∧ h.1[i]? = some (8, n) ∧ vp_in j n ∧ h' = (h.1, h.2.1, mv_u2 h.2.2.1 i j.toNatClampNeg x, h.2.2.2) := by
  cases r with
  | none => cases e
  | some i =>
    unfold mv_aS at e
    dsimp only at e
    split at e
    · cases e
    · next q hq =>
      split at e
      · next hc => cases e; obtain ⟨a, n⟩ := q; obtain ⟨rfl, h2⟩ := hc; exact ⟨i, n, rfl, hq, h2, rfl⟩
      · cases e
theorem mv_aR_of {t : Nat} {r : Option Nat} {j : Int32} {h : mv_Hp} {v : Option Nat} {h' : mv_Hp} (e : mv_aR t r j h = some (v, h')) : ∃ i n, r = some i ∧ h.1[i]? = some (8 + t, n) ∧ vp_in j n ∧ v = h.2.2.2 i j.toNatClampNeg ∧ h = h' := by
  cases r with
  | none => cases e
  | some i =>
    unfold mv_aR at e
    dsimp only at e
    split at e
    · cases e
    · next q hq =>
      split at e
      · next hc => cases e; obtain ⟨a, n⟩ := q; obtain ⟨h1, h2⟩ := hc; cases h1; exact ⟨i, n, rfl, hq, h2, rfl, rfl⟩
      · cases e
theorem mv_aT_of {t c k : Nat} {r x : Option Nat} {j : Int32} {h : mv_Hp} {v : Unit} {h' : mv_Hp} (e : mv_aT t c k r j x h = some (v, h')) : ∃ i n y, r = some i ∧ x = some y ∧ h.1[i]? = some (8 + t, n) ∧ vp_in j n ∧ h.1[y]? = some (c, k) ∧ h' = (h.1, h.2.1, h.2.2.1, mv_u2 h.2.2.2 i j.toNatClampNeg (some y)) := by
  cases r with
  | none => cases e
  | some i =>
    unfold mv_aT at e
    dsimp only at e
    split at e
    · cases e
    · next q hq =>
      cases x with
      | none => cases e
      | some y =>
        dsimp only at e
        split at e
        · next hc => cases e; obtain ⟨a, n⟩ := q; obtain ⟨h1, h2, h3⟩ := hc; cases h1; exact ⟨i, n, y, rfl, rfl, hq, h2, h3, rfl⟩
        · cases e
theorem mv_nA_of {c : Nat} {x : Int32} {h : mv_Hp} {v : Option Nat} {h' : mv_Hp} (e : mv_nA c x h = some (v, h')) : ¬ x < 0 ∧ x.toNatClampNeg ≤ 65536 ∧ mv_nw c x.toNatClampNeg h = some (v, h') := by
  unfold mv_nA at e
  split at e
  · cases e
  · next q => exact ⟨fun z => q (Or.inl z), Nat.le_of_not_lt (fun z => q (Or.inr z)), e⟩
theorem mv_bd_of {α β : Type} {f : mv_M α} {g : α → mv_M β} {h : mv_Hp} {v : β} {h' : mv_Hp} (e : mv_bd f g h = some (v, h')) : ∃ a h1, f h = some (a, h1) ∧ g a h1 = some (v, h') := by
  unfold mv_bd at e
  cases h1 : f h with
  | none => rw [h1] at e; cases e
  | some q => rw [h1] at e; exact ⟨q.1, q.2, rfl, e⟩
theorem mv_Gr.gI {c n k : Nat} {r : Option Nat} : mv_Gr (mv_gI c n k r) := .rd fun h v h' e => by obtain ⟨i, -, -, -, rfl⟩ := mv_gI_of e; exact ⟨rfl, rfl⟩
theorem mv_Gr.gR {c n k : Nat} {r : Option Nat} : mv_Gr (mv_gR c n k r) := .rd fun h v h' e => by obtain ⟨i, -, -, -, rfl⟩ := mv_gR_of e; exact ⟨rfl, rfl⟩
theorem mv_Gr.rc {c n : Nat} {r : Option Nat} : mv_Gr (mv_rc c n r) := .rd fun h v h' e => by obtain ⟨-, -, rfl⟩ := mv_rc_of e; exact ⟨rfl, rfl⟩
theorem mv_Gr.sI {c n k : Nat} {r : Option Nat} {x : Int32} : mv_Gr (mv_sI c n k r x) := .rd fun h v h' e => by obtain ⟨i, -, -, rfl⟩ := mv_sI_of e; exact ⟨rfl, rfl⟩
theorem mv_Gr.sZ {c n k : Nat} {r : Option Nat} {x : Int32} : mv_Gr (mv_sZ c n k r x) := .rd fun h v h' e => by obtain ⟨i, -, -, -, rfl⟩ := mv_sZ_of e; exact ⟨rfl, rfl⟩
theorem mv_Gr.sR {c n k : Nat} {r x : Option Nat} : mv_Gr (mv_sR c n k r x) := .rd fun h v h' e => by obtain ⟨i, -, -, rfl⟩ := mv_sR_of e; exact ⟨rfl, rfl⟩
theorem mv_Gr.aL {r : Option Nat} : mv_Gr (mv_aL r) := .rd fun h v h' e => by obtain ⟨i, q, -, -, -, -, -, rfl⟩ := mv_aL_of e; exact ⟨rfl, rfl⟩
theorem mv_Gr.aI {r : Option Nat} {j : Int32} : mv_Gr (mv_aI r j) := .rd fun h v h' e => by obtain ⟨i, n, -, -, -, -, rfl⟩ := mv_aI_of e; exact ⟨rfl, rfl⟩
theorem mv_Gr.aS {r : Option Nat} {j x : Int32} : mv_Gr (mv_aS r j x) := .rd fun h v h' e => by obtain ⟨i, n, -, -, -, rfl⟩ := mv_aS_of e; exact ⟨rfl, rfl⟩
theorem mv_Gr.aR {t : Nat} {r : Option Nat} {j : Int32} : mv_Gr (mv_aR t r j) := .rd fun h v h' e => by obtain ⟨i, n, -, -, -, -, rfl⟩ := mv_aR_of e; exact ⟨rfl, rfl⟩
theorem mv_Gr.aT {t c k : Nat} {r x : Option Nat} {j : Int32} : mv_Gr (mv_aT t c k r j x) := .rd fun h v h' e => by obtain ⟨i, n, y, -, -, -, -, -, rfl⟩ := mv_aT_of e; exact ⟨rfl, rfl⟩
theorem mv_Gr.nw {c n : Nat} : mv_Gr (mv_nw c n) := fun h v h' e => by cases e; exact ⟨by simp, Nat.le_add_right _ _⟩
theorem mv_Gr.nA {c : Nat} {x : Int32} : mv_Gr (mv_nA c x) := fun h v h' e => mv_Gr.nw h v h' (mv_nA_of e).2.2
theorem mv_Gr.rm {x y : Int32} : mv_Gr (mv_rm x y) := by unfold mv_rm; exact mv_Gr.ite mv_Gr.fl (mv_Gr.pu _)
theorem mv_Gr.dd {x y : UInt64} : mv_Gr (mv_dd x y) := by unfold mv_dd; exact mv_Gr.ite (mv_Gr.pu _) mv_Gr.fl
theorem mv_Gr.rz {x : Int32} : mv_Gr (mv_rz x) := by unfold mv_rz; exact mv_Gr.ite (mv_Gr.pu _) mv_Gr.fl

