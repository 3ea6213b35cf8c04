/-! the law, from the first state on, answers true -/
/-- f answers true -/
def p_E (j : Nat) (G : p_G) (f : mv_M Int32) : Prop := ∃ j' G', p_ac j G f 1 j' G'
/-- between two rounds of the loop: k is the look of the snapshot -/
def p_LI (j : Nat) (G : p_G) (k : Int64) : Prop := p_GI j G ∧ ∃ u C B D, G.2.2.1 = some u ∧ mv_VV u C B D ∧ D ≤ 30 * j ∧ k = p_lk u C B D
section PE
variable {j j1 : Nat} {G G1 : p_G} {f g : mv_M Int32} {C B D : Nat}
theorem E_bd {α : Type} {f : mv_M α} {g : α → mv_M Int32} {a : α} (h1 : p_ac j G f a j1 G1) (h2 : p_E j1 G1 (g a)) : p_E j G (mv_bd f g) := by
  obtain ⟨j', G', h⟩ := h2
  exact ⟨j', G', p_bd h1 h⟩
theorem E_cl {α : Type} {f : Nat → mv_M α} {g : α → mv_M Int32} {a : α} (h1 : p_ac j G (f 0) a j1 G1) (h2 : p_E j1 G1 (g a)) : p_E j G (mv_bd (mv_rc 6 7 (some 0)) fun i => mv_bd (f i) g) := by
  obtain ⟨j', G', h⟩ := h2
  exact ⟨j', G', p_cl h1 h⟩
theorem E_t {c : Prop} [Decidable c] (q : c) (h : p_E j G f) : p_E j G (if c then f else g) := by rw [if_pos q]; exact h
theorem E_f {c : Prop} [Decidable c] (q : ¬ c) (h : p_E j G g) : p_E j G (if c then f else g) := by rw [if_neg q]; exact h
theorem E_rm {x y : Nat} {g : Int32 → mv_M Int32} (hx : x < 2 ^ 31) (h0 : 0 < y) (hy : y < 2 ^ 31) (h : p_E j G (g (nI (x % y)))) : p_E j G (mv_bd (mv_rm (nI x) (nI y)) g) := by
  obtain ⟨j', G', h⟩ := h
  exact ⟨j', G', a_rm hx h0 hy h⟩
theorem E_lot {Ls : Nat} {xs : Nat → Int32} {m : Nat} {g : Int32 → mv_M Int32} (hm : m < 2 ^ 31) (h : ∀ z, p_E j G (g z)) : p_E j G (mv_bd (mv_lot Ls xs (nI m)) g) := by
  unfold mv_lot
  rw [if_neg (nI_pos hm)]
  exact E_bd p_pu (h _)
theorem p_LI_le {k : Int64} (hj : j ≤ j1) (h : p_LI j G k) : p_LI j1 G k := by
  obtain ⟨h1, u, C, B, D, h2, h3, h4, h5⟩ := h
  exact ⟨p_GI_le hj h1, u, C, B, D, h2, h3, by omega, h5⟩
variable {Ls : Nat} {xs : Nat → Int32} {K : Int32 → Int64 → Int32 → mv_M Int32} {i : Nat} {k : Int64}
/-- the next round -/
def p_nk (K : Int32 → Int64 → Int32 → mv_M Int32) (i : Nat) : Prop := ∀ j G k, j ≤ i + 1 → p_LI j G k → p_E j G (K 1 k (nI (i + 1)))
theorem E_386 (hK : p_nk K i) (hj : j ≤ i + 1) (hI : p_LI j G k) : p_E j G (J_L_law_386 K Ls xs 1 k (nI i)) := by
  unfold J_L_law_386
  rw [p_i1]
  exact hK j G k hj hI
theorem E_377 (hK : p_nk K i) (hj : j ≤ i + 1) (hI : p_LI j G k) {x y : Int32} (h : x = y) : p_E j G (J_L_law_377 K Ls xs k (nI i) x y) := by
  unfold J_L_law_377 J_L_law_385
  exact E_t h (E_386 hK hj hI)
theorem E_337 (hK : p_nk K i) (hi : i < 54) (hj : j ≤ i + 1) (hI : p_LI j G k) : p_E j G (J_L_law_337 K Ls xs 1 k (nI i)) := by
  have hI0 := hI
  obtain ⟨⟨⟨C, B, D, hV, H, hD⟩, h2, h3, h4⟩, hs⟩ := hI
  unfold J_L_law_337
  refine E_f (by decide) (E_rm (y := 11) (by omega) (by omega) (by omega) ?_)
  by_cases q : nI (i % 11) = (10 : Int32)
  · refine E_t q (E_cl (cl_ct16 (by omega) hV hD) ?_)
    obtain ⟨v, l, ks, pd⟩ := G
    cases l with
    | nil => exact E_cl cl_unno (E_t rfl (E_377 hK hj hI0 rfl))
    | cons u l =>
      have hl : l.length + 1 ≤ 4 := h4
      refine E_cl cl_un (E_f (fun z => by have := (mv_eq0 (show l.length + 1 < 2 ^ 31 by omega)).mp z; omega) ?_)
      refine E_377 (G := (u, l, ks, pd)) hK hj ⟨⟨h2 u (List.mem_cons_self ..), fun w hw => h2 w (List.mem_cons_of_mem _ hw), h3, by show l.length ≤ 4; omega⟩, hs⟩ ?_
      show nI l.length = nI (l.length + 1) - 1
      rw [li1, pk_sub (by omega)]; rfl
  · exact E_f q (E_386 hK hj hI0)
theorem E_331 (hK : p_nk K i) (hi : i < 54) (hj : j ≤ i + 1) (hI : p_GI j G) (hs : G.2.2.1 = some G.1) : p_E j G (J_L_law_331 K Ls xs (nI i) 1) := by
  have hI0 := hI
  obtain ⟨⟨C, B, D, hV, H, hD⟩, -⟩ := hI
  unfold J_L_law_331
  exact E_bd (cl_lk (by omega) hV hD) (E_337 hK hi hj ⟨hI0, G.1, C, B, D, hs, hV, hD, rfl⟩)
theorem E_268 (hK : p_nk K i) (hi : i < 54) (hj : j ≤ i + 1) (hI : p_LI j G k) : p_E j G (J_L_law_268 K Ls xs 1 k (nI i)) := by
  have hI0 := hI
  obtain ⟨⟨⟨C, B, D, hV, H, hD⟩, h2, h3, h4⟩, u, C2, B2, D2, hs, hV2, hD2, hk⟩ := hI
  unfold J_L_law_268
  refine E_f (by decide) (E_rm (y := 15) (by omega) (by omega) (by omega) ?_)
  by_cases q : nI (i % 15) = (14 : Int32)
  · refine E_t q ?_
    obtain ⟨v, l, ks, pd⟩ := G
    have hs' : ks = some u := hs
    subst hs'
    have hu := h3 u rfl
    obtain ⟨m, hm⟩ : ∃ m, (v :: l).take 4 = v :: m := ⟨l.take 3, rfl⟩
    have hm4 : ((v :: l).take 4).length ≤ 4 := by rw [List.length_take]; omega
    refine E_cl (cl_re (by omega) hV hD hV2 (by omega)) (E_cl (cl_ct0 (G := p_ch (v, l, some u, pd) u) (by omega) hV2 hD2) (E_t hV2.1.symm ?_))
    refine E_bd (cl_lk (G := p_ch (v, l, some u, pd) u) (by omega) hV2 hD2) (E_t (by rw [hk]; exact p_cmp0 _) ?_)
    have e : p_ch (v, l, some u, pd) u = (u, v :: m, some u, pd) := by show (u, (v :: l).take 4, some u, pd) = _; rw [hm]
    rw [e]
    rw [hm] at hm4
    have hm3 : m.length + 1 ≤ 4 := hm4
    have hin : ∀ w ∈ m, p_IV j w := fun w hw => by
      have : w ∈ (v :: l).take 4 := by rw [hm]; exact List.mem_cons_of_mem _ hw
      rcases List.mem_cons.mp (List.mem_of_mem_take this) with z | z
      · rw [z]; exact ⟨C, B, D, hV, H, hD⟩
      · exact h2 w z
    refine E_cl cl_un (E_f (nI_pos (by omega)) ?_)
    refine E_cl (cl_sa (G := (v, m, some u, pd)) (by omega) hV hD) (E_cl (cl_ct0 (G := (v, m, some v, pd)) (by omega) hV hD) (E_t hV.1.symm ?_))
    refine E_331 (G := (v, m, some v, pd)) hK hi hj ⟨⟨C, B, D, hV, H, hD⟩, hin, fun w hw => ?_, by show m.length ≤ 4; omega⟩ rfl
    have hw' : some v = some w := hw
    cases hw'
    exact ⟨C, B, D, hV, H, hD⟩
  · exact E_f q (E_337 hK hi hj hI0)
theorem E_217 (hK : p_nk K i) (hi : i < 54) (hj : j ≤ i + 1) (hV : mv_VV G.1 C B D) (hIV : p_IV j G.1) (h4 : G.2.1.length ≤ 4) (hn : p_nx G G1) (hI : p_LI j G1 k) {x7 : Int32} (hD : D ≤ 30 * j) : p_E j G1 (J_L_law_217 K Ls xs k (nI i) x7 (p_lk G.1 C B D) (nI G.2.1.length) (nI G1.2.1.length) 1) := by
  unfold J_L_law_217
  refine E_f (by decide) ?_
  by_cases q : nI G1.2.1.length = nI G.2.1.length + 1
  · refine E_t q (E_bd (cl_low (n := 3) (by omega) (by omega)) ?_)
    by_cases q2 : nI (p_low (x7 >>> ((8 : Int32) &&& 31)) 3) = 0
    · refine E_t q2 ?_
      have h1 := hI.1
      have q' : G1.2.1.length = G.2.1.length + 1 := by
        rw [p_i1] at q
        have := h1.2.2.2
        exact (mv_eq (by omega) (by omega)).mp q
      rcases hn with ⟨-, e2, -⟩ | ⟨e2, e3⟩
      · rw [e2] at q'; omega
      · obtain ⟨v, l, ks, pd⟩ := G
        obtain ⟨v1, l1, ks1, pd1⟩ := G1
        have e2' : l1 = (v :: l).take 4 := e2
        have e3' : ks1 = ks := e3
        subst e3'
        have q3 : l1.length = l.length + 1 := q'
        have e4 : (v :: l).take 4 = v :: l := List.take_of_length_le (by
          rw [e2', List.length_take] at q3
          show l.length + 1 ≤ 4
          have : (v :: l).length = l.length + 1 := rfl
          omega)
        rw [e4] at e2'
        subst e2'
        obtain ⟨u, C2, B2, D2, s1, s2, s3, s4⟩ := hI.2
        refine E_cl cl_un (E_t rfl (E_bd (cl_lk (G := (v, l, ks1, pd1)) (by omega) hV hD) (E_t (p_cmp0 _) ?_)))
        unfold J_L_law_267
        exact E_268 hK hi hj ⟨⟨hIV, fun w hw => h1.2.1 w (List.mem_cons_of_mem _ hw), h1.2.2.1, h4⟩, u, C2, B2, D2, s1, s2, s3, s4⟩
    · exact E_f q2 (E_268 hK hi hj hI)
  · exact E_f q (E_268 hK hi hj hI)
theorem E_162 (hK : p_nk K i) (hi : i < 54) (hj : j ≤ i + 1) (hV : mv_VV G.1 C B D) (hIV : p_IV j G.1) (h4 : G.2.1.length ≤ 4) (hn : p_nx G G1) (hI : p_LI j G1 k) {x7 : Int32} (hD : D ≤ 30 * j) : p_E j G1 (J_L_law_162 K Ls xs k (nI i) x7 (p_lk G.1 C B D) (nI G.2.1.length)) := by
  have h1 := hI.1
  obtain ⟨⟨C1, B1, D1, hV1, H1, hD1⟩, -⟩ := h1
  have go : p_E j G1 (J_L_law_212 K Ls xs k (nI i) x7 (p_lk G.1 C B D) (nI G.2.1.length) (nI G1.2.1.length)) := by
    unfold J_L_law_212
    exact E_217 hK hi hj hV hIV h4 hn hI hD
  unfold J_L_law_162 J_L_law_167
  refine E_cl (cl_ct16 (by omega) hV1 hD1) (E_f (by decide) ?_)
  rcases hn with ⟨e1, e2, e3⟩ | ⟨e2, e3⟩
  · refine E_t (by rw [e2]) ?_
    by_cases q : nI G.2.1.length = (4 : Int32)
    · exact E_t q go
    · refine E_f q (E_bd (cl_lk (by omega) (G := G1) (by rw [e1]; exact hV) hD) (E_t (by rw [e1]; exact p_cmp0 _) go))
  · have hl : G1.2.1.length = if 4 ≤ G.2.1.length then 4 else G.2.1.length + 1 := by rw [e2]; exact p_t4 h4
    by_cases q : G.2.1.length = 4
    · rw [if_pos (by omega)] at hl
      exact E_t (by rw [hl, q]) (E_t (by rw [q]; rfl) go)
    · rw [if_neg (by omega)] at hl
      refine E_f (fun z => by have := (mv_eq (by omega) (by omega)).mp z; omega) ?_
      unfold J_L_law_203
      exact E_t (by rw [hl, p_i1]) go
theorem E_145 (hK : p_nk K i) (hi : i < 54) (hj : j ≤ i + 1) (hV : mv_VV G.1 C B D) (hIV : p_IV j G.1) (h4 : G.2.1.length ≤ 4) (hn : p_nx G G1) (hI : p_LI j G1 k) {x7 : Int32} (hD : D ≤ 30 * j) : p_E j G1 (J_L_law_145 K Ls xs k (nI i) x7 (p_lk G.1 C B D) (nI G.2.1.length)) := by
  have h1 := hI.1
  obtain ⟨⟨C1, B1, D1, hV1, H1, hD1⟩, -⟩ := h1
  have go := E_162 (Ls := Ls) (xs := xs) hK hi hj hV hIV h4 hn hI (x7 := x7) hD
  unfold J_L_law_145
  refine E_rm (y := 4) (by omega) (by omega) (by omega) ?_
  by_cases q : nI (i % 4) = (2 : Int32)
  · exact E_t q (E_bd (cl_wo (by omega) hV1 H1 hD1 _) (E_f (by decide) go))
  · exact E_f q go
theorem E_92 (hK : p_nk K i) (hi : i < 54) (hj : j ≤ i) (hI : p_LI j G k) (x : Int32) : p_E j G (J_L_law_92 K Ls xs k (nI i) x) := by
  have hI0 := hI
  obtain ⟨hG, u, C2, B2, D2, s1, s2, s3, s4⟩ := hI
  have hG0 := hG
  obtain ⟨⟨C, B, D, hV, H, hD⟩, h2, h3, h4⟩ := hG
  unfold J_L_law_92
  rw [li1, li2, pk_mul, nI_add]
  refine E_lot (by omega) (fun y => ?_)
  refine E_bd (cl_lk (by omega) hV hD) (E_cl (cl_ct16 (by omega) hV hD) ?_)
  obtain ⟨G1, a1, a2, a3⟩ := cl_ac (show j < 300 by omega) hG0 x y
  refine E_bd a1 (E_f (by decide) (E_rm (y := 3) (by omega) (by omega) (by omega) ?_))
  have e3 : G1.2.2.1 = G.2.2.1 := by
    rcases a3 with ⟨-, -, e⟩ | ⟨-, e⟩
    · exact e
    · exact e
  have hI1 : p_LI (j + 1) G1 k := ⟨a2, u, C2, B2, D2, by rw [e3]; exact s1, s2, by omega, s4⟩
  have go := E_145 (Ls := Ls) (xs := xs) hK hi (show j + 1 ≤ i + 1 by omega) hV (p_IV_le (Nat.le_succ j) ⟨C, B, D, hV, H, hD⟩) h4 a3 hI1 (x7 := y) (show D ≤ 30 * (j + 1) by omega)
  by_cases q : (0 : Int32) < nI (i % 3)
  · exact E_t q go
  · obtain ⟨⟨C1, B1, D1, hV1, H1, hD1⟩, -⟩ := a2
    exact E_f q (E_bd (cl_ho (by omega) hV1 H1 hD1) (E_f (by decide) go))
theorem E_392 (hj : j ≤ 54) (hI : p_GI j G) : p_E j G (J_L_law_392 Ls xs 1) := by
  obtain ⟨⟨C, B, D, hV, H, hD⟩, -⟩ := hI
  unfold J_L_law_392
  refine E_f (by decide) (E_bd (cl_ho (by omega) hV H hD) (E_f (by decide) ?_))
  unfold J_L_law_408
  exact ⟨j, G, p_rz (Or.inr rfl)⟩
theorem E_62 : ∀ (n i j : Nat) (G : p_G) (k : Int64), 54 - i < n → i ≤ 54 → j ≤ i → p_LI j G k → p_E j G (Lp_L_law_62 Ls xs n 1 k (nI i))
  | 0, i, j, G, k, h, _, _, _ => absurd h (Nat.not_lt_zero _)
  | n + 1, i, j, G, k, hn, hi, hj, hI => by
    rw [Lp_L_law_62]
    by_cases q : i = 54
    · subst q
      exact E_t (by decide) (E_392 hj hI.1)
    · refine E_f (nI_ge (a := i) (b := 54) (by omega) (by omega)) (E_f (by decide) ?_)
      have hK : p_nk (Lp_L_law_62 Ls xs n) i := fun j' G' k' hj' hI' => E_62 n (i + 1) j' G' k' (by omega) (by omega) hj' hI'
      by_cases q2 : (2 : Int32) ≤ nI i
      · refine E_t q2 ?_
        rw [li2, pk_mul]
        exact E_lot (by omega) (fun z => E_92 hK (by omega) hj hI z)
      · exact E_f q2 (E_92 hK (by omega) hj hI _)
theorem E_law : p_E 0 p_G0 (F_L_law Ls xs) := by
  unfold F_L_law
  refine E_bd (cl_ho (by omega) p_V0 p_H0 (Nat.zero_le _)) (E_f (by decide) ?_)
  refine E_bd (cl_wo (by omega) p_V0 p_H0 (Nat.zero_le _) _) (E_f (by decide) ?_)
  refine E_cl cl_unno (E_t rfl (E_cl cl_reno (E_t rfl ?_)))
  refine E_cl (cl_sa (G := p_G0) (by omega) p_V0 (Nat.zero_le _)) (E_t rfl ?_)
  unfold J_L_law_53
  refine E_bd (cl_lk (G := (p_v0, [], some p_v0, [])) (by omega) p_V0 (Nat.zero_le _)) ?_
  refine E_62 mv_FU 0 0 _ _ (by unfold mv_FU; omega) (by omega) (by omega) ⟨⟨⟨0, 0, 0, p_V0, p_H0, Nat.zero_le _⟩, (fun u hu => absurd hu List.not_mem_nil), (fun u (hu : some p_v0 = some u) => ?_), Nat.zero_le _⟩, p_v0, 0, 0, 0, rfl, p_V0, Nat.zero_le _, rfl⟩
  cases hu
  exact ⟨0, 0, 0, p_V0, p_H0, Nat.zero_le _⟩
/-- on the heap that the constructor lays -/
theorem p_law {h : mv_Hp} (hr : p_rp 0 p_G0 h) : ∃ h', F_L_law Ls xs h = some (1, h') ∧ h'.1 = mv_K0 ∧ h'.2.1 = mv_S0 := by
  obtain ⟨j', G', H⟩ := E_law (Ls := Ls) (xs := xs)
  obtain ⟨h', e, hs, p, z, ks, pd, hc, -⟩ := H h hr
  exact ⟨h', e, hc.1.1, hs⟩
end PE
