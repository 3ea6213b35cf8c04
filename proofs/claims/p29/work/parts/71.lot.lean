/-- the script's number at k, or one out of k -/
def p_lot (Ls : Nat) (xs : Nat → Int32) (k : Int32) : Int32 := if k < nI Ls then xs k.toNatClampNeg else (-404691603 : Int32) * (k + 4621) + 4363
def mv_lot (Ls : Nat) (xs : Nat → Int32) (k : Int32) : mv_M Int32 := if k < 0 then mv_fl else mv_pu (p_lot Ls xs k)
theorem mv_Gr.lot {Ls : Nat} {xs : Nat → Int32} {k : Int32} : mv_Gr (mv_lot Ls xs k) := by unfold mv_lot; exact mv_Gr.ite mv_Gr.fl (mv_Gr.pu _)
def mv_Pl (N0 : Nat) (D : va_G) (dA : Nat → ClassId) (h : mv_Hp) (b Ls : Nat) (xs : Nat → Int32) (k : Int32) : Array Value → State → Prop := fun a U => mv_Pc N0 D dA [.ref b, .int k] h a U ∧ va_X b Ls xs U U.heap ∧ b < U.heap.size ∧ b < N0
theorem c_L_lot (l : Launch) (N0 : Nat) (D : va_G) (dA : Nat → ClassId) (h : mv_Hp) {b Ls : Nat} (xs : Nat → Int32) (k : Int32) (hk : ¬ k < 0) : Met l yL_lot (.code yL_lot cL_lot 2 (some .int) :: mv_wA) { frames := 0, cells := 0, slots := 0, locals := 0 } (mv_Pl N0 D dA h b Ls xs k) (mv_Qc N0 D dA mv_rI (p_lot Ls xs k) h) 0 0 (fun q : Nat => N0 ≤ q) := by
  refine Met.ofW (cc := cL_lot) (maxL := 2) (ret := some .int) (by decide) rfl ?_
  intro p e s m args below meth c s₁ B hml hv
  obtain ⟨⟨rfl, hsz, hP, hK, hNW⟩, hX, hbl, hbN⟩ := hv
  have hts := atoms_spec (ws := .code yL_lot cL_lot 2 (some .int) :: mv_wA) B.pre
  have hl := lv_entry [.ref b, .int k] (n := 2) (Nat.le_of_ble_eq_true rfl)
  rw [lg_entry_eq]
  generalize (lg_sl [Value.ref b, Value.int k] ++ List.replicate (2 - (lg_sl [Value.ref b, Value.int k]).length) Slot.unset).toArray = ls at hl ⊢
  have hl' : lv_has ls 2 [(0, .ref b), (1, .int k)] := hl
  have hx := B.exec
  have hb := B.bytes
  have hS : va_S (fun q : Nat => N0 ≤ q) s.heap s.heap [] := va_S.rf
  have hbA : ¬ N0 ≤ b := Nat.not_le.mpr hbN
  have fin : ∀ v : Int32, v = p_lot Ls xs k → W p l e (headSpec (Cond.code yL_lot cL_lot 2 (some .int) :: mv_wA) { frames := 0, cells := 0, slots := 0, locals := 0 }).room s m [Value.ref b, Value.int k].toArray below meth c s.heap [] 0 0 (MQ below (mv_Qc N0 D dA mv_rI (p_lot Ls xs k) h) [Value.ref b, Value.int k].toArray s 0 0 (fun q : Nat => N0 ≤ q)) (F0 m 24 ls [.int v]) := by
    intro v hv
    subst hv
    exact W.iret hx hb B.returns (fun t ht _ => mv_Qc_of (rv := mv_rI) hP hS ht) hS.2.2 dL_lot_24 B.notSynchronized
  refine lv_iload_n hx hb dL_lot_0 rfl (lv_at hl' 1 rfl) ?_
  refine lv_aload_n hx hb dL_lot_1 rfl (lv_at hl' 0 rfl) ?_
  refine va_slen (A := fun q : Nat => N0 ≤ q) hx hb hX hbl hbA hS dL_lot_2 ?_
  refine lv_icmp_ge (tgt := 12) hx hb dL_lot_3 rfl (fun hc => ?_) (fun hc => ?_)
  · refine lv_ldc hx hb (findClass_of_methodNamed B.named) (hts _ (List.mem_cons_of_mem _ (mv_wA_of (mv_t2 (List.mem_of_getElem? (i := 84) rfl)) rfl))) dL_lot_12 ?_
    refine lv_iload_n hx hb dL_lot_14 rfl (lv_at hl' 1 rfl) ?_
    refine lv_sipush (v := 4621) hx hb dL_lot_15 (by decide) ?_
    refine lv_iadd hx hb dL_lot_18 ?_
    refine lv_imul hx hb dL_lot_19 ?_
    refine lv_sipush (v := 4363) hx hb dL_lot_20 (by decide) ?_
    refine lv_iadd hx hb dL_lot_23 ?_
    exact fin _ (by unfold p_lot; rw [if_neg (show ¬ k < nI Ls from Int32.not_lt.mpr hc)])
  · have hlt : k < nI Ls := Int32.not_le.mp hc
    refine lv_aload_n hx hb dL_lot_6 rfl (lv_at hl' 0 rfl) ?_
    refine lv_iload_n hx hb dL_lot_7 rfl (lv_at hl' 1 rfl) ?_
    refine va_sld (A := fun q : Nat => N0 ≤ q) hx hb hX hbl hbA hS (fun z => ?_) dL_lot_8 ?_
    · rcases z with z | z
      · exact hk z
      · obtain ⟨i, hi, rfl⟩ := nI_of hk
        rw [nI_clamp hi] at z
        by_cases hL : Ls < 2 ^ 31
        · exact absurd ((mv_lt hi hL).mp hlt) (by omega)
        · omega
    · refine lv_goto (tgt := 24) hx hb dL_lot_9 rfl ?_
      exact fin _ (by unfold p_lot; rw [if_pos hlt])

