section MVS
variable {p : Program} {l : Launch} {e : Env} {s : State} {m : MethodId} {b : Addr} {below : List Frame} {meth : Method} {c : Code} {N0 : Nat} {D : va_G} {dA : Nat → ClassId} {Ls : Nat} {xs : Nat → Int32} {pc q : Nat} {L : List (Nat × Value)} {st : List Value} {h : mv_Hp}
/-- a call of each: one answer, and the invariant a call further -/
def mv_A1 {β : Type} (Inv : Nat → mv_Hp → Prop) (X Y : mv_M β) : Prop := ∀ (j : Nat) (h : mv_Hp), j < 512 → Inv j h → ∃ (r : β) (h1 h2 : mv_Hp), X h = some (r, h1) ∧ h1.1 = h.1 ∧ h1.2.1 = h.2.1 ∧ Y h1 = some (r, h2) ∧ Inv (j + 1) h2
def mv_A1d (Inv : Nat → mv_Hp → Prop) (X Y : mv_M UInt64) : Prop := ∀ (j : Nat) (h : mv_Hp), j < 512 → Inv j h → ∃ (r : UInt64) (h1 h2 : mv_Hp), X h = some (r, h1) ∧ h1.1 = h.1 ∧ h1.2.1 = h.2.1 ∧ Y h1 = some (r, h2) ∧ Inv (j + 1) h2 ∧ r &&& 0x7fffffffffffffff ≤ 0x7ff0000000000000

def mv_K0 : List (Nat × Nat) := [(6, 7), (5, 12), (8, 7), (10, 4), (11, 8), (1, 6), (8, 7), (1, 6), (8, 7), (1, 6), (8, 7), (1, 6), (8, 7), (0, 8), (0, 8), (0, 8), (0, 8), (0, 8), (0, 8), (0, 8), (0, 8), (5, 12), (8, 7), (10, 4), (11, 8), (1, 6), (8, 7), (1, 6), (8, 7), (1, 6), (8, 7), (1, 6), (8, 7), (0, 8), (0, 8), (0, 8), (0, 8), (0, 8), (0, 8), (0, 8), (0, 8), (5, 12), (8, 7), (10, 4), (11, 8), (1, 6), (8, 7), (1, 6), (8, 7), (1, 6), (8, 7), (1, 6), (8, 7), (0, 8), (0, 8), (0, 8), (0, 8), (0, 8), (0, 8), (0, 8), (0, 8), (3, 2), (9, 4), (5, 12), (8, 7), (10, 4), (11, 8), (1, 6), (8, 7), (1, 6), (8, 7), (1, 6), (8, 7), (1, 6), (8, 7), (0, 8), (0, 8), (0, 8), (0, 8), (0, 8), (0, 8), (0, 8), (0, 8), (5, 12), (8, 7), (10, 4), (11, 8), (1, 6), (8, 7), (1, 6), (8, 7), (1, 6), (8, 7), (1, 6), (8, 7), (0, 8), (0, 8), (0, 8), (0, 8), (0, 8), (0, 8), (0, 8), (0, 8), (5, 12), (8, 7), (10, 4), (11, 8), (1, 6), (8, 7), (1, 6), (8, 7), (1, 6), (8, 7), (1, 6), (8, 7), (0, 8), (0, 8), (0, 8), (0, 8), (0, 8), (0, 8), (0, 8), (0, 8), (5, 12), (8, 7), (10, 4), (11, 8), (1, 6), (8, 7), (1, 6), (8, 7), (1, 6), (8, 7), (1, 6), (8, 7), (0, 8), (0, 8), (0, 8), (0, 8), (0, 8), (0, 8), (0, 8), (0, 8), (4, 2), (8, 60), (2, 4), (8, 4), (7, 12), (8, 128), (8, 128), (8, 512), (8, 128), (8, 60), (8, 300)]
def mv_S0 : Nat := 2380
def mv_Ag_0 (Inv : Nat → mv_Hp → Prop) : Prop := (∀ (a b : Int32), mv_A1 Inv (F_X6_stall 0 a b) (F_X7_stall 147 a b))
def mv_Ag_1 (Inv : Nat → mv_Hp → Prop) : Prop := (∀ (a b : Int32), mv_A1 Inv (F_X6_ill 0 a b) (F_X7_ill 147 a b))
def mv_Ag_2 (Inv : Nat → mv_Hp → Prop) : Prop := (∀ (a b : Int32), mv_A1 Inv (F_X6_rough 0 a b) (F_X7_rough 147 a b))
def mv_Ag_3 (Inv : Nat → mv_Hp → Prop) : Prop := (∀ (a : Int32), mv_A1 Inv (F_X6_load 0 a) (F_X7_load 147 a))
def mv_Ag_4 (Inv : Nat → mv_Hp → Prop) : Prop := (∀ (a b : Int32), mv_A1 Inv (F_X6_post 0 a b) (F_X7_post 147 a b))
def mv_Ag_5 (Inv : Nat → mv_Hp → Prop) : Prop := (∀ (a : Int32), mv_A1 Inv (F_X6_forget 0 a) (F_X7_forget 147 a))
def mv_Ag_6 (Inv : Nat → mv_Hp → Prop) : Prop := (∀ (a : Int32), mv_A1 Inv (F_X6_pass 0 a) (F_X7_pass 147 a))
def mv_Ag_7 (Inv : Nat → mv_Hp → Prop) : Prop := (∀ (a : Int32), mv_A1 Inv (F_X6_append 0 a) (F_X7_append 147 a))
def mv_Ag_8 (Inv : Nat → mv_Hp → Prop) : Prop := (mv_A1 Inv (F_X6_clear 0) (F_X7_clear 147))
def mv_Ag_9 (Inv : Nat → mv_Hp → Prop) : Prop := (∀ (a : Int32), mv_A1 Inv (F_X6_fault 0 a) (F_X7_fault 147 a))
def mv_Ag_10 (Inv : Nat → mv_Hp → Prop) : Prop := (mv_A1 Inv (F_X6_tours 0) (F_X7_tours 147))
def mv_Ag_11 (Inv : Nat → mv_Hp → Prop) : Prop := (mv_A1 Inv (F_X6_letters 0) (F_X7_letters 147))
def mv_Ag_12 (Inv : Nat → mv_Hp → Prop) : Prop := (∀ (a b : Int32), mv_A1 Inv (F_X6_where 0 a b) (F_X7_where 147 a b))
def mv_Ag_13 (Inv : Nat → mv_Hp → Prop) : Prop := (∀ (a b : Int32), mv_A1 Inv (F_X6_carrier 0 a b) (F_X7_carrier 147 a b))
def mv_Ag_14 (Inv : Nat → mv_Hp → Prop) : Prop := (∀ (a b : Int32), mv_A1 Inv (F_X6_bundle 0 a b) (F_X7_bundle 147 a b))
def mv_Ag_15 (Inv : Nat → mv_Hp → Prop) : Prop := (∀ (a b : Int32), mv_A1 Inv (F_X6_arrival 0 a b) (F_X7_arrival 147 a b))
def mv_Ag_16 (Inv : Nat → mv_Hp → Prop) : Prop := (∀ (a b z : Int32), z = 0 ∨ z = 1 → mv_A1 Inv (F_X6_meeting 0 a b z) (F_X7_meeting 147 a b z))
def mv_Ag_17 (Inv : Nat → mv_Hp → Prop) : Prop := (∀ (a : Int32), mv_A1 Inv (F_X6_count 0 a) (F_X7_count 147 a))
def mv_Ag_18 (Inv : Nat → mv_Hp → Prop) : Prop := (mv_A1d Inv (F_X6_lateness 0) (F_X7_lateness 147))
def mv_Ag_19 (Inv : Nat → mv_Hp → Prop) : Prop := (∀ (a b c : Int32), mv_A1 Inv (F_X6_ifPosted 0 a b c) (F_X7_ifPosted 147 a b c))
def mv_Ag_20 (Inv : Nat → mv_Hp → Prop) : Prop := (∀ (a b : Int32), mv_A1 Inv (F_X6_bestDay 0 a b) (F_X7_bestDay 147 a b))
def mv_Ag_21 (Inv : Nat → mv_Hp → Prop) : Prop := (∀ (a : Int32), mv_A1 Inv (F_X6_bestTown 0 a) (F_X7_bestTown 147 a))
def mv_Ag_22 (Inv : Nat → mv_Hp → Prop) : Prop := (∀ (a b : Int32), mv_A1 Inv (F_X6_ifPassed 0 a b) (F_X7_ifPassed 147 a b))
def mv_Ag_23 (Inv : Nat → mv_Hp → Prop) : Prop := (mv_A1 Inv (F_X6_undo 0) (F_X7_undo 147))
def mv_Ag_24 (Inv : Nat → mv_Hp → Prop) : Prop := (mv_A1 Inv (F_X6_save 0) (F_X7_save 147))
def mv_Ag_25 (Inv : Nat → mv_Hp → Prop) : Prop := (mv_A1 Inv (F_X6_restore 0) (F_X7_restore 147))
def mv_Ag (Inv : Nat → mv_Hp → Prop) : Prop := mv_Ag_0 Inv ∧ mv_Ag_1 Inv ∧ mv_Ag_2 Inv ∧ mv_Ag_3 Inv ∧ mv_Ag_4 Inv ∧ mv_Ag_5 Inv ∧ mv_Ag_6 Inv ∧ mv_Ag_7 Inv ∧ mv_Ag_8 Inv ∧ mv_Ag_9 Inv ∧ mv_Ag_10 Inv ∧ mv_Ag_11 Inv ∧ mv_Ag_12 Inv ∧ mv_Ag_13 Inv ∧ mv_Ag_14 Inv ∧ mv_Ag_15 Inv ∧ mv_Ag_16 Inv ∧ mv_Ag_17 Inv ∧ mv_Ag_18 Inv ∧ mv_Ag_19 Inv ∧ mv_Ag_20 Inv ∧ mv_Ag_21 Inv ∧ mv_Ag_22 Inv ∧ mv_Ag_23 Inv ∧ mv_Ag_24 Inv ∧ mv_Ag_25 Inv
set_option maxHeartbeats 4000000 in
set_option maxRecDepth 100000 in
theorem mv_loop (Inv : Nat → mv_Hp → Prop) (hAg : mv_Ag Inv) (hK : ∀ j h, Inv j h → h.1 = mv_K0 ∧ h.2.1 = mv_S0) (hS : ∀ j h, Inv j h → Inv (j + 1) h) (hC : mv_Lx p s m b meth c N0 D dA) (hX : mv_Lsc s b N0 Ls xs) (hN : N0 = s.heap.size) : ∀ (n j : Nat) (h : mv_Hp), 512 - j < n → j ≤ 512 → Inv j h → mv_Lw p l e s m b below meth c N0 D dA 18 [(0, .ref b), (1, .ref (N0 + 0)), (2, .ref (N0 + 147)), (3, .int (nI (4 * j)))] [] h := by
  intro n
  induction n with
  | zero => intro j h hn; omega
  | succ n ih =>
  intro j h hn hj hI
  have hLs := hX.2.2.2
  have e0 := hK _ _ hI
  refine ml_iload_n 3 hC dL_law_18 rfl rfl rfl ?_
  refine ml_aload_n 0 hC dL_law_19 rfl rfl rfl ?_
  refine ml_slen hC hX dL_law_20 rfl ?_
  refine ml_iconst (v := nI 4) hC dL_law_21 rfl rfl ?_
  refine ml_isub hC dL_law_22 rfl ?_
  refine ml_gt (tgt := 870) hC dL_law_23 rfl rfl (fun _ => ?_) (fun hz => ?_)
  · refine ml_iconst (v := 1) hC dL_law_870 rfl rfl ?_
    exact ml_ret hC hN (by rw [e0.1, e0.2]; exact ⟨Nat.le_of_ble_eq_true rfl, Nat.le_of_ble_eq_true rfl⟩) dL_law_871
  · have hi : 4 * j + 4 ≤ Ls := by
      rcases Nat.lt_or_ge Ls (4 * j + 4) with z | z
      · exfalso
        apply hz
        rw [Int32.lt_iff_toInt_lt, pk_sub_toInt (by omega) (by omega), nI_toInt (by omega)]
        omega
      · exact z
    have nx : ∀ h2, Inv (j + 1) h2 → mv_Lw p l e s m b below meth c N0 D dA 864 [(0, .ref b), (1, .ref (N0 + 0)), (2, .ref (N0 + 147)), (3, .int (nI (4 * j)))] [] h2 := by
      intro h2 hI2
      refine ml_iinc (y := nI (4 * (j + 1))) 3 hC dL_law_864 rfl (by rw [show Int32.ofInt 4 = nI 4 from rfl, nI_add]; rfl) (by decide) rfl rfl ?_
      refine ml_goto (q := 18) hC dL_law_867 rfl ?_
      exact ml_sub [1, 2, 3, 0] rfl (ih (j + 1) h2 (by omega) (by omega) hI2)
    refine ml_aload_n 0 hC dL_law_26 rfl rfl rfl ?_
    refine ml_iload_n 3 hC dL_law_27 rfl rfl rfl ?_
    refine ml_sld hC hX (by omega) dL_law_28 rfl ?_
    refine ml_bipush (v := 31) hC dL_law_29 rfl rfl ?_
    refine ml_iand hC dL_law_31 rfl ?_
    obtain ⟨v, hv0, hv⟩ := pk_andE (xs (4 * j)) (m := 31) 5 (by decide)
    rcases (show v = 0 ∨ v = 1 ∨ v = 2 ∨ v = 3 ∨ v = 4 ∨ v = 5 ∨ v = 6 ∨ v = 7 ∨ v = 8 ∨ v = 9 ∨ v = 10 ∨ v = 11 ∨ v = 12 ∨ v = 13 ∨ v = 14 ∨ v = 15 ∨ v = 16 ∨ v = 17 ∨ v = 18 ∨ v = 19 ∨ v = 20 ∨ v = 21 ∨ v = 22 ∨ v = 23 ∨ v = 24 ∨ v = 25 ∨ 26 ≤ v by omega) with rfl | rfl | rfl | rfl | rfl | rfl | rfl | rfl | rfl | rfl | rfl | rfl | rfl | rfl | rfl | rfl | rfl | rfl | rfl | rfl | rfl | rfl | rfl | rfl | rfl | rfl | hv26
    · obtain ⟨r, h1, h2, e1, k1, k2, e2, hI2⟩ := hAg.1 (xs (4 * j + 1)) (xs (4 * j + 2)) j h (by omega) hI
      have z1 := hK _ _ hI; have z2 := hK _ _ hI2
      refine ml_tabIn (q := 152) hC dL_law_32 (by rw [hv]; decide) (by rw [hv]; decide) (by rw [hv]; rfl) rfl ?_
      exact ml_case_0 (r := r) (h1 := h1) (h2 := h2) hC hX (by omega) (by rw [z1.1]; rfl) (by rw [k1, z1.1]; rfl) (by rw [k1, k2, z1.1, z1.2]; exact ⟨Nat.le_of_ble_eq_true rfl, Nat.le_of_ble_eq_true rfl⟩) (by rw [z2.1, z2.2]; exact ⟨Nat.le_of_ble_eq_true rfl, Nat.le_of_ble_eq_true rfl⟩) e1 e2 (nx h2 hI2)
    · obtain ⟨r, h1, h2, e1, k1, k2, e2, hI2⟩ := hAg.2.1 (xs (4 * j + 1)) (xs (4 * j + 2)) j h (by omega) hI
      have z1 := hK _ _ hI; have z2 := hK _ _ hI2
      refine ml_tabIn (q := 185) hC dL_law_32 (by rw [hv]; decide) (by rw [hv]; decide) (by rw [hv]; rfl) rfl ?_
      exact ml_case_1 (r := r) (h1 := h1) (h2 := h2) hC hX (by omega) (by rw [z1.1]; rfl) (by rw [k1, z1.1]; rfl) (by rw [k1, k2, z1.1, z1.2]; exact ⟨Nat.le_of_ble_eq_true rfl, Nat.le_of_ble_eq_true rfl⟩) (by rw [z2.1, z2.2]; exact ⟨Nat.le_of_ble_eq_true rfl, Nat.le_of_ble_eq_true rfl⟩) e1 e2 (nx h2 hI2)
    · obtain ⟨r, h1, h2, e1, k1, k2, e2, hI2⟩ := hAg.2.2.1 (xs (4 * j + 1)) (xs (4 * j + 2)) j h (by omega) hI
      have z1 := hK _ _ hI; have z2 := hK _ _ hI2
      refine ml_tabIn (q := 218) hC dL_law_32 (by rw [hv]; decide) (by rw [hv]; decide) (by rw [hv]; rfl) rfl ?_
      exact ml_case_2 (r := r) (h1 := h1) (h2 := h2) hC hX (by omega) (by rw [z1.1]; rfl) (by rw [k1, z1.1]; rfl) (by rw [k1, k2, z1.1, z1.2]; exact ⟨Nat.le_of_ble_eq_true rfl, Nat.le_of_ble_eq_true rfl⟩) (by rw [z2.1, z2.2]; exact ⟨Nat.le_of_ble_eq_true rfl, Nat.le_of_ble_eq_true rfl⟩) e1 e2 (nx h2 hI2)
    · obtain ⟨r, h1, h2, e1, k1, k2, e2, hI2⟩ := hAg.2.2.2.1 (xs (4 * j + 1)) j h (by omega) hI
      have z1 := hK _ _ hI; have z2 := hK _ _ hI2
      refine ml_tabIn (q := 251) hC dL_law_32 (by rw [hv]; decide) (by rw [hv]; decide) (by rw [hv]; rfl) rfl ?_
      exact ml_case_3 (r := r) (h1 := h1) (h2 := h2) hC hX (by omega) (by rw [z1.1]; rfl) (by rw [k1, z1.1]; rfl) (by rw [k1, k2, z1.1, z1.2]; exact ⟨Nat.le_of_ble_eq_true rfl, Nat.le_of_ble_eq_true rfl⟩) (by rw [z2.1, z2.2]; exact ⟨Nat.le_of_ble_eq_true rfl, Nat.le_of_ble_eq_true rfl⟩) e1 e2 (nx h2 hI2)
    · obtain ⟨r, h1, h2, e1, k1, k2, e2, hI2⟩ := hAg.2.2.2.2.1 (xs (4 * j + 1)) (xs (4 * j + 2)) j h (by omega) hI
      have z1 := hK _ _ hI; have z2 := hK _ _ hI2
      refine ml_tabIn (q := 274) hC dL_law_32 (by rw [hv]; decide) (by rw [hv]; decide) (by rw [hv]; rfl) rfl ?_
      exact ml_case_4 (r := r) (h1 := h1) (h2 := h2) hC hX (by omega) (by rw [z1.1]; rfl) (by rw [k1, z1.1]; rfl) (by rw [k1, k2, z1.1, z1.2]; exact ⟨Nat.le_of_ble_eq_true rfl, Nat.le_of_ble_eq_true rfl⟩) (by rw [z2.1, z2.2]; exact ⟨Nat.le_of_ble_eq_true rfl, Nat.le_of_ble_eq_true rfl⟩) e1 e2 (nx h2 hI2)
    · obtain ⟨r, h1, h2, e1, k1, k2, e2, hI2⟩ := hAg.2.2.2.2.2.1 (xs (4 * j + 1)) j h (by omega) hI
      have z1 := hK _ _ hI; have z2 := hK _ _ hI2
      refine ml_tabIn (q := 307) hC dL_law_32 (by rw [hv]; decide) (by rw [hv]; decide) (by rw [hv]; rfl) rfl ?_
      exact ml_case_5 (r := r) (h1 := h1) (h2 := h2) hC hX (by omega) (by rw [z1.1]; rfl) (by rw [k1, z1.1]; rfl) (by rw [k1, k2, z1.1, z1.2]; exact ⟨Nat.le_of_ble_eq_true rfl, Nat.le_of_ble_eq_true rfl⟩) (by rw [z2.1, z2.2]; exact ⟨Nat.le_of_ble_eq_true rfl, Nat.le_of_ble_eq_true rfl⟩) e1 e2 (nx h2 hI2)
    · obtain ⟨r, h1, h2, e1, k1, k2, e2, hI2⟩ := hAg.2.2.2.2.2.2.1 (xs (4 * j + 1)) j h (by omega) hI
      have z1 := hK _ _ hI; have z2 := hK _ _ hI2
      refine ml_tabIn (q := 330) hC dL_law_32 (by rw [hv]; decide) (by rw [hv]; decide) (by rw [hv]; rfl) rfl ?_
      exact ml_case_6 (r := r) (h1 := h1) (h2 := h2) hC hX (by omega) (by rw [z1.1]; rfl) (by rw [k1, z1.1]; rfl) (by rw [k1, k2, z1.1, z1.2]; exact ⟨Nat.le_of_ble_eq_true rfl, Nat.le_of_ble_eq_true rfl⟩) (by rw [z2.1, z2.2]; exact ⟨Nat.le_of_ble_eq_true rfl, Nat.le_of_ble_eq_true rfl⟩) e1 e2 (nx h2 hI2)
    · obtain ⟨r, h1, h2, e1, k1, k2, e2, hI2⟩ := hAg.2.2.2.2.2.2.2.1 (xs (4 * j + 1)) j h (by omega) hI
      have z1 := hK _ _ hI; have z2 := hK _ _ hI2
      refine ml_tabIn (q := 353) hC dL_law_32 (by rw [hv]; decide) (by rw [hv]; decide) (by rw [hv]; rfl) rfl ?_
      exact ml_case_7 (r := r) (h1 := h1) (h2 := h2) hC hX (by omega) (by rw [z1.1]; rfl) (by rw [k1, z1.1]; rfl) (by rw [k1, k2, z1.1, z1.2]; exact ⟨Nat.le_of_ble_eq_true rfl, Nat.le_of_ble_eq_true rfl⟩) (by rw [z2.1, z2.2]; exact ⟨Nat.le_of_ble_eq_true rfl, Nat.le_of_ble_eq_true rfl⟩) e1 e2 (nx h2 hI2)
    · obtain ⟨r, h1, h2, e1, k1, k2, e2, hI2⟩ := hAg.2.2.2.2.2.2.2.2.1 j h (by omega) hI
      have z1 := hK _ _ hI; have z2 := hK _ _ hI2
      refine ml_tabIn (q := 376) hC dL_law_32 (by rw [hv]; decide) (by rw [hv]; decide) (by rw [hv]; rfl) rfl ?_
      exact ml_case_8 (r := r) (h1 := h1) (h2 := h2) hC hX (by omega) (by rw [z1.1]; rfl) (by rw [k1, z1.1]; rfl) (by rw [k1, k2, z1.1, z1.2]; exact ⟨Nat.le_of_ble_eq_true rfl, Nat.le_of_ble_eq_true rfl⟩) (by rw [z2.1, z2.2]; exact ⟨Nat.le_of_ble_eq_true rfl, Nat.le_of_ble_eq_true rfl⟩) e1 e2 (nx h2 hI2)
    · obtain ⟨r, h1, h2, e1, k1, k2, e2, hI2⟩ := hAg.2.2.2.2.2.2.2.2.2.1 (xs (4 * j + 1)) j h (by omega) hI
      have z1 := hK _ _ hI; have z2 := hK _ _ hI2
      refine ml_tabIn (q := 389) hC dL_law_32 (by rw [hv]; decide) (by rw [hv]; decide) (by rw [hv]; rfl) rfl ?_
      exact ml_case_9 (r := r) (h1 := h1) (h2 := h2) hC hX (by omega) (by rw [z1.1]; rfl) (by rw [k1, z1.1]; rfl) (by rw [k1, k2, z1.1, z1.2]; exact ⟨Nat.le_of_ble_eq_true rfl, Nat.le_of_ble_eq_true rfl⟩) (by rw [z2.1, z2.2]; exact ⟨Nat.le_of_ble_eq_true rfl, Nat.le_of_ble_eq_true rfl⟩) e1 e2 (nx h2 hI2)
    · obtain ⟨r, h1, h2, e1, k1, k2, e2, hI2⟩ := hAg.2.2.2.2.2.2.2.2.2.2.1 j h (by omega) hI
      have z1 := hK _ _ hI; have z2 := hK _ _ hI2
      refine ml_tabIn (q := 412) hC dL_law_32 (by rw [hv]; decide) (by rw [hv]; decide) (by rw [hv]; rfl) rfl ?_
      exact ml_case_10 (r := r) (h1 := h1) (h2 := h2) hC hX (by omega) (by rw [z1.1]; rfl) (by rw [k1, z1.1]; rfl) (by rw [k1, k2, z1.1, z1.2]; exact ⟨Nat.le_of_ble_eq_true rfl, Nat.le_of_ble_eq_true rfl⟩) (by rw [z2.1, z2.2]; exact ⟨Nat.le_of_ble_eq_true rfl, Nat.le_of_ble_eq_true rfl⟩) e1 e2 (nx h2 hI2)
    · obtain ⟨r, h1, h2, e1, k1, k2, e2, hI2⟩ := hAg.2.2.2.2.2.2.2.2.2.2.2.1 j h (by omega) hI
      have z1 := hK _ _ hI; have z2 := hK _ _ hI2
      refine ml_tabIn (q := 425) hC dL_law_32 (by rw [hv]; decide) (by rw [hv]; decide) (by rw [hv]; rfl) rfl ?_
      exact ml_case_11 (r := r) (h1 := h1) (h2 := h2) hC hX (by omega) (by rw [z1.1]; rfl) (by rw [k1, z1.1]; rfl) (by rw [k1, k2, z1.1, z1.2]; exact ⟨Nat.le_of_ble_eq_true rfl, Nat.le_of_ble_eq_true rfl⟩) (by rw [z2.1, z2.2]; exact ⟨Nat.le_of_ble_eq_true rfl, Nat.le_of_ble_eq_true rfl⟩) e1 e2 (nx h2 hI2)
    · obtain ⟨r, h1, h2, e1, k1, k2, e2, hI2⟩ := hAg.2.2.2.2.2.2.2.2.2.2.2.2.1 (xs (4 * j + 1)) (xs (4 * j + 2)) j h (by omega) hI
      have z1 := hK _ _ hI; have z2 := hK _ _ hI2
      refine ml_tabIn (q := 438) hC dL_law_32 (by rw [hv]; decide) (by rw [hv]; decide) (by rw [hv]; rfl) rfl ?_
      exact ml_case_12 (r := r) (h1 := h1) (h2 := h2) hC hX (by omega) (by rw [z1.1]; rfl) (by rw [k1, z1.1]; rfl) (by rw [k1, k2, z1.1, z1.2]; exact ⟨Nat.le_of_ble_eq_true rfl, Nat.le_of_ble_eq_true rfl⟩) (by rw [z2.1, z2.2]; exact ⟨Nat.le_of_ble_eq_true rfl, Nat.le_of_ble_eq_true rfl⟩) e1 e2 (nx h2 hI2)
    · obtain ⟨r, h1, h2, e1, k1, k2, e2, hI2⟩ := hAg.2.2.2.2.2.2.2.2.2.2.2.2.2.1 (xs (4 * j + 1)) (xs (4 * j + 2)) j h (by omega) hI
      have z1 := hK _ _ hI; have z2 := hK _ _ hI2
      refine ml_tabIn (q := 471) hC dL_law_32 (by rw [hv]; decide) (by rw [hv]; decide) (by rw [hv]; rfl) rfl ?_
      exact ml_case_13 (r := r) (h1 := h1) (h2 := h2) hC hX (by omega) (by rw [z1.1]; rfl) (by rw [k1, z1.1]; rfl) (by rw [k1, k2, z1.1, z1.2]; exact ⟨Nat.le_of_ble_eq_true rfl, Nat.le_of_ble_eq_true rfl⟩) (by rw [z2.1, z2.2]; exact ⟨Nat.le_of_ble_eq_true rfl, Nat.le_of_ble_eq_true rfl⟩) e1 e2 (nx h2 hI2)
    · obtain ⟨r, h1, h2, e1, k1, k2, e2, hI2⟩ := hAg.2.2.2.2.2.2.2.2.2.2.2.2.2.2.1 (xs (4 * j + 1)) (xs (4 * j + 2)) j h (by omega) hI
      have z1 := hK _ _ hI; have z2 := hK _ _ hI2
      refine ml_tabIn (q := 504) hC dL_law_32 (by rw [hv]; decide) (by rw [hv]; decide) (by rw [hv]; rfl) rfl ?_
      exact ml_case_14 (r := r) (h1 := h1) (h2 := h2) hC hX (by omega) (by rw [z1.1]; rfl) (by rw [k1, z1.1]; rfl) (by rw [k1, k2, z1.1, z1.2]; exact ⟨Nat.le_of_ble_eq_true rfl, Nat.le_of_ble_eq_true rfl⟩) (by rw [z2.1, z2.2]; exact ⟨Nat.le_of_ble_eq_true rfl, Nat.le_of_ble_eq_true rfl⟩) e1 e2 (nx h2 hI2)
    · obtain ⟨r, h1, h2, e1, k1, k2, e2, hI2⟩ := hAg.2.2.2.2.2.2.2.2.2.2.2.2.2.2.2.1 (xs (4 * j + 1)) (xs (4 * j + 2)) j h (by omega) hI
      have z1 := hK _ _ hI; have z2 := hK _ _ hI2
      refine ml_tabIn (q := 537) hC dL_law_32 (by rw [hv]; decide) (by rw [hv]; decide) (by rw [hv]; rfl) rfl ?_
      exact ml_case_15 (r := r) (h1 := h1) (h2 := h2) hC hX (by omega) (by rw [z1.1]; rfl) (by rw [k1, z1.1]; rfl) (by rw [k1, k2, z1.1, z1.2]; exact ⟨Nat.le_of_ble_eq_true rfl, Nat.le_of_ble_eq_true rfl⟩) (by rw [z2.1, z2.2]; exact ⟨Nat.le_of_ble_eq_true rfl, Nat.le_of_ble_eq_true rfl⟩) e1 e2 (nx h2 hI2)
    · obtain ⟨r, h1, h2, e1, k1, k2, e2, hI2⟩ := hAg.2.2.2.2.2.2.2.2.2.2.2.2.2.2.2.2.1 (xs (4 * j + 1)) (xs (4 * j + 2)) (if xs (4 * j + 3) = 0 then 0 else 1) (by by_cases z : xs (4 * j + 3) = 0 <;> simp [z]) j h (by omega) hI
      have z1 := hK _ _ hI; have z2 := hK _ _ hI2
      refine ml_tabIn (q := 570) hC dL_law_32 (by rw [hv]; decide) (by rw [hv]; decide) (by rw [hv]; rfl) rfl ?_
      exact ml_case_16 (r := r) (h1 := h1) (h2 := h2) rfl hC hX (by omega) (by rw [z1.1]; rfl) (by rw [k1, z1.1]; rfl) (by rw [k1, k2, z1.1, z1.2]; exact ⟨Nat.le_of_ble_eq_true rfl, Nat.le_of_ble_eq_true rfl⟩) (by rw [z2.1, z2.2]; exact ⟨Nat.le_of_ble_eq_true rfl, Nat.le_of_ble_eq_true rfl⟩) e1 e2 (nx h2 hI2)
    · obtain ⟨r, h1, h2, e1, k1, k2, e2, hI2⟩ := hAg.2.2.2.2.2.2.2.2.2.2.2.2.2.2.2.2.2.1 (xs (4 * j + 1)) j h (by omega) hI
      have z1 := hK _ _ hI; have z2 := hK _ _ hI2
      refine ml_tabIn (q := 629) hC dL_law_32 (by rw [hv]; decide) (by rw [hv]; decide) (by rw [hv]; rfl) rfl ?_
      exact ml_case_17 (r := r) (h1 := h1) (h2 := h2) hC hX (by omega) (by rw [z1.1]; rfl) (by rw [k1, z1.1]; rfl) (by rw [k1, k2, z1.1, z1.2]; exact ⟨Nat.le_of_ble_eq_true rfl, Nat.le_of_ble_eq_true rfl⟩) (by rw [z2.1, z2.2]; exact ⟨Nat.le_of_ble_eq_true rfl, Nat.le_of_ble_eq_true rfl⟩) e1 e2 (nx h2 hI2)
    · obtain ⟨r, h1, h2, e1, k1, k2, e2, hI2, hnd⟩ := hAg.2.2.2.2.2.2.2.2.2.2.2.2.2.2.2.2.2.2.1 j h (by omega) hI
      have z1 := hK _ _ hI; have z2 := hK _ _ hI2
      refine ml_tabIn (q := 652) hC dL_law_32 (by rw [hv]; decide) (by rw [hv]; decide) (by rw [hv]; rfl) rfl ?_
      exact ml_case_18 (r := r) (h1 := h1) (h2 := h2) hC hX (by omega) (by rw [z1.1]; rfl) (by rw [k1, z1.1]; rfl) (by rw [k1, k2, z1.1, z1.2]; exact ⟨Nat.le_of_ble_eq_true rfl, Nat.le_of_ble_eq_true rfl⟩) (by rw [z2.1, z2.2]; exact ⟨Nat.le_of_ble_eq_true rfl, Nat.le_of_ble_eq_true rfl⟩) e1 e2 hnd (nx h2 hI2)
    · obtain ⟨r, h1, h2, e1, k1, k2, e2, hI2⟩ := hAg.2.2.2.2.2.2.2.2.2.2.2.2.2.2.2.2.2.2.2.1 (xs (4 * j + 1)) (xs (4 * j + 2)) (xs (4 * j + 3)) j h (by omega) hI
      have z1 := hK _ _ hI; have z2 := hK _ _ hI2
      refine ml_tabIn (q := 693) hC dL_law_32 (by rw [hv]; decide) (by rw [hv]; decide) (by rw [hv]; rfl) rfl ?_
      exact ml_case_19 (r := r) (h1 := h1) (h2 := h2) hC hX (by omega) (by rw [z1.1]; rfl) (by rw [k1, z1.1]; rfl) (by rw [k1, k2, z1.1, z1.2]; exact ⟨Nat.le_of_ble_eq_true rfl, Nat.le_of_ble_eq_true rfl⟩) (by rw [z2.1, z2.2]; exact ⟨Nat.le_of_ble_eq_true rfl, Nat.le_of_ble_eq_true rfl⟩) e1 e2 (nx h2 hI2)
    · obtain ⟨r, h1, h2, e1, k1, k2, e2, hI2⟩ := hAg.2.2.2.2.2.2.2.2.2.2.2.2.2.2.2.2.2.2.2.2.1 (xs (4 * j + 1)) (xs (4 * j + 2)) j h (by omega) hI
      have z1 := hK _ _ hI; have z2 := hK _ _ hI2
      refine ml_tabIn (q := 736) hC dL_law_32 (by rw [hv]; decide) (by rw [hv]; decide) (by rw [hv]; rfl) rfl ?_
      exact ml_case_20 (r := r) (h1 := h1) (h2 := h2) hC hX (by omega) (by rw [z1.1]; rfl) (by rw [k1, z1.1]; rfl) (by rw [k1, k2, z1.1, z1.2]; exact ⟨Nat.le_of_ble_eq_true rfl, Nat.le_of_ble_eq_true rfl⟩) (by rw [z2.1, z2.2]; exact ⟨Nat.le_of_ble_eq_true rfl, Nat.le_of_ble_eq_true rfl⟩) e1 e2 (nx h2 hI2)
    · obtain ⟨r, h1, h2, e1, k1, k2, e2, hI2⟩ := hAg.2.2.2.2.2.2.2.2.2.2.2.2.2.2.2.2.2.2.2.2.2.1 (xs (4 * j + 1)) j h (by omega) hI
      have z1 := hK _ _ hI; have z2 := hK _ _ hI2
      refine ml_tabIn (q := 769) hC dL_law_32 (by rw [hv]; decide) (by rw [hv]; decide) (by rw [hv]; rfl) rfl ?_
      exact ml_case_21 (r := r) (h1 := h1) (h2 := h2) hC hX (by omega) (by rw [z1.1]; rfl) (by rw [k1, z1.1]; rfl) (by rw [k1, k2, z1.1, z1.2]; exact ⟨Nat.le_of_ble_eq_true rfl, Nat.le_of_ble_eq_true rfl⟩) (by rw [z2.1, z2.2]; exact ⟨Nat.le_of_ble_eq_true rfl, Nat.le_of_ble_eq_true rfl⟩) e1 e2 (nx h2 hI2)
    · obtain ⟨r, h1, h2, e1, k1, k2, e2, hI2⟩ := hAg.2.2.2.2.2.2.2.2.2.2.2.2.2.2.2.2.2.2.2.2.2.2.1 (xs (4 * j + 1)) (xs (4 * j + 2)) j h (by omega) hI
      have z1 := hK _ _ hI; have z2 := hK _ _ hI2
      refine ml_tabIn (q := 792) hC dL_law_32 (by rw [hv]; decide) (by rw [hv]; decide) (by rw [hv]; rfl) rfl ?_
      exact ml_case_22 (r := r) (h1 := h1) (h2 := h2) hC hX (by omega) (by rw [z1.1]; rfl) (by rw [k1, z1.1]; rfl) (by rw [k1, k2, z1.1, z1.2]; exact ⟨Nat.le_of_ble_eq_true rfl, Nat.le_of_ble_eq_true rfl⟩) (by rw [z2.1, z2.2]; exact ⟨Nat.le_of_ble_eq_true rfl, Nat.le_of_ble_eq_true rfl⟩) e1 e2 (nx h2 hI2)
    · obtain ⟨r, h1, h2, e1, k1, k2, e2, hI2⟩ := hAg.2.2.2.2.2.2.2.2.2.2.2.2.2.2.2.2.2.2.2.2.2.2.2.1 j h (by omega) hI
      have z1 := hK _ _ hI; have z2 := hK _ _ hI2
      refine ml_tabIn (q := 825) hC dL_law_32 (by rw [hv]; decide) (by rw [hv]; decide) (by rw [hv]; rfl) rfl ?_
      exact ml_case_23 (r := r) (h1 := h1) (h2 := h2) hC hX (by omega) (by rw [z1.1]; rfl) (by rw [k1, z1.1]; rfl) (by rw [k1, k2, z1.1, z1.2]; exact ⟨Nat.le_of_ble_eq_true rfl, Nat.le_of_ble_eq_true rfl⟩) (by rw [z2.1, z2.2]; exact ⟨Nat.le_of_ble_eq_true rfl, Nat.le_of_ble_eq_true rfl⟩) e1 e2 (nx h2 hI2)
    · obtain ⟨r, h1, h2, e1, k1, k2, e2, hI2⟩ := hAg.2.2.2.2.2.2.2.2.2.2.2.2.2.2.2.2.2.2.2.2.2.2.2.2.1 j h (by omega) hI
      have z1 := hK _ _ hI; have z2 := hK _ _ hI2
      refine ml_tabIn (q := 838) hC dL_law_32 (by rw [hv]; decide) (by rw [hv]; decide) (by rw [hv]; rfl) rfl ?_
      exact ml_case_24 (r := r) (h1 := h1) (h2 := h2) hC hX (by omega) (by rw [z1.1]; rfl) (by rw [k1, z1.1]; rfl) (by rw [k1, k2, z1.1, z1.2]; exact ⟨Nat.le_of_ble_eq_true rfl, Nat.le_of_ble_eq_true rfl⟩) (by rw [z2.1, z2.2]; exact ⟨Nat.le_of_ble_eq_true rfl, Nat.le_of_ble_eq_true rfl⟩) e1 e2 (nx h2 hI2)
    · obtain ⟨r, h1, h2, e1, k1, k2, e2, hI2⟩ := hAg.2.2.2.2.2.2.2.2.2.2.2.2.2.2.2.2.2.2.2.2.2.2.2.2.2 j h (by omega) hI
      have z1 := hK _ _ hI; have z2 := hK _ _ hI2
      refine ml_tabIn (q := 851) hC dL_law_32 (by rw [hv]; decide) (by rw [hv]; decide) (by rw [hv]; rfl) rfl ?_
      exact ml_case_25 (r := r) (h1 := h1) (h2 := h2) hC hX (by omega) (by rw [z1.1]; rfl) (by rw [k1, z1.1]; rfl) (by rw [k1, k2, z1.1, z1.2]; exact ⟨Nat.le_of_ble_eq_true rfl, Nat.le_of_ble_eq_true rfl⟩) (by rw [z2.1, z2.2]; exact ⟨Nat.le_of_ble_eq_true rfl, Nat.le_of_ble_eq_true rfl⟩) e1 e2 (nx h2 hI2)
    · refine ml_tabOut (q := 864) hC dL_law_32 (Or.inr (by rw [hv, nI_toInt (by omega)]; omega)) rfl ?_
      exact nx h (hS _ _ hI)

end MVS
