section PY
variable {j : Nat} {G : p_G} {C B D : Nat} {sep N : Nat}
/-- f answers true, from the pad l, with a pad of N readings behind it -/
def p_T (j : Nat) (G : p_G) (sep N : Nat) (f : mv_M Int32) (l : List Nat) : Prop := ∃ lf, p_ty sep N lf ∧ p_ac j (G.1, G.2.1, G.2.2.1, l) f 1 j (G.1, G.2.1, G.2.2.1, lf)
theorem t_t {c : Prop} [Decidable c] {f g : mv_M Int32} {l : List Nat} (q : c) (h : p_T j G sep N f l) : p_T j G sep N (if c then f else g) l := by rw [if_pos q]; exact h
theorem t_f {c : Prop} [Decidable c] {f g : mv_M Int32} {l : List Nat} (q : ¬ c) (h : p_T j G sep N g l) : p_T j G sep N (if c then f else g) l := by rw [if_neg q]; exact h
theorem t_let {α : Type} {a : α} {g : α → mv_M Int32} {l : List Nat} (h : p_T j G sep N (g a) l) : p_T j G sep N (mv_bd (mv_pu a) g) l := by
  obtain ⟨lf, h1, h2⟩ := h
  exact ⟨lf, h1, p_let h2⟩
theorem t_low {x : Int32} {n : Nat} {g : Int32 → mv_M Int32} {l : List Nat} (h0 : 0 < n) (hn : n < 2 ^ 31) (h : p_T j G sep N (g (nI (p_low x n))) l) : p_T j G sep N (mv_bd (F_L_low x (nI n)) g) l := by
  obtain ⟨lf, h1, h2⟩ := h
  exact ⟨lf, h1, p_bd (cl_low h0 hn) h2⟩
theorem t_rm {x y : Nat} {g : Int32 → mv_M Int32} {l : List Nat} (hx : x < 2 ^ 31) (h0 : 0 < y) (hy : y < 2 ^ 31) (h : p_T j G sep N (g (nI (x % y))) l) : p_T j G sep N (mv_bd (mv_rm (nI x) (nI y)) g) l := by
  obtain ⟨lf, h1, h2⟩ := h
  refine ⟨lf, h1, fun z hr => ?_⟩
  obtain ⟨h', e, r⟩ := h2 z hr
  exact ⟨h', (ev_rm hx h0 hy).trans e, r⟩
theorem t_ap (hj : j < 300) (hV : mv_VV G.1 C B D) (hD : D ≤ 30 * j) {c : Nat} {g : Int32 → mv_M Int32} {l : List Nat} (c1 : 33 ≤ c) (c2 : c ≤ 126) (hl : l.length < 60) (h : p_T j G sep N (g (nI (l.length + 1))) (l ++ [c])) : p_T j G sep N (mv_bd (mv_rc 6 7 (some 0)) fun i => mv_bd (F_X6_append i (nI c)) g) l := by
  obtain ⟨lf, h1, h2⟩ := h
  exact ⟨lf, h1, p_cl (cl_ap (G := (G.1, G.2.1, G.2.2.1, l)) (by omega) hV hD c1 c2 hl) h2⟩
theorem t_end {l : List Nat} (h : p_ty sep N l) : p_T j G sep N (J_L_types_384 0) l := by
  refine ⟨l, h, ?_⟩
  unfold J_L_types_384 J_L_types_389
  exact p_rz (Or.inr rfl)
theorem t_48 (m : Nat) : (48 : Int32) + nI m = nI (48 + m) := by rw [li48, nI_add]
/-- behind the last reading: perhaps a sign between two -/
theorem t_tail (hj : j < 300) (hV : mv_VV G.1 C B D) (hD : D ≤ 30 * j) {x z : Int32} {l : List Nat} (hz : (z = 0 ∧ sep = 44) ∨ (z = 1 ∧ sep = 59)) (hl : l.length < 60) (h0 : N = 0 → l = []) (h1 : 0 < N → p_nc sep l + 1 = N) : p_T j G sep N (mv_bd (F_L_low (x >>> ((26 : Int32) &&& 31)) (6 : Int32)) fun v28 => if 0 < v28 then J_L_types_384 0 else if z = 0 then J_L_types_378 0 (44 : Int32) else J_L_types_378 0 (59 : Int32)) l := by
  refine t_low (n := 6) (by omega) (by omega) ?_
  have k : p_T j G sep N (J_L_types_378 0 (nI sep)) l := by
    unfold J_L_types_378
    refine t_ap hj hV hD (by omega) (by omega) hl (t_f (nI_ge (a := 0) (by omega) (by omega)) (t_end ⟨l, h0, h1, Or.inr rfl⟩))
  split
  · exact t_end ⟨l, h0, h1, Or.inl rfl⟩
  · rcases hz with ⟨rfl, rfl⟩ | ⟨rfl, rfl⟩
    · exact t_t rfl k
    · exact t_f (by decide) k
/-- one bundle of a text of letters -/
theorem t_letter (hj : j < 300) (hV : mv_VV G.1 C B D) (hD : D ≤ 30 * j) {x y : Int32} {c m : Nat} {k32 : Int32 → Int32 → mv_M Int32} {x3 : Int32} {l : List Nat} (hm : m < 7) (hl : l.length + 3 < 60) (hk : ∀ l', l'.length ≤ l.length + 3 → p_nc 44 l' = p_nc 44 l → p_T j G 44 N (k32 1 (nI (c + 1))) l') : p_T j G 44 N (J_L_types_106 k32 0 0 x x3 (nI c) y (nI m)) l := by
  have k329 : ∀ (l1 : List Nat) (q : Nat), q < 10 → l1.length = l.length + 2 → p_nc 44 l1 = p_nc 44 l → p_T j G 44 N (J_L_types_329 k32 0 0 x x3 (nI c) (48 : Int32) (nI q)) l1 := by
    intro l1 q hq e1 e2
    unfold J_L_types_329
    rw [t_48]
    refine t_ap hj hV hD (by omega) (by omega) (by omega) (t_f (nI_ge (a := 0) (by omega) (by omega)) ?_)
    unfold J_L_types_341 J_L_types_343
    rw [p_i1]
    refine hk _ (by rw [List.length_append]; simp; omega) ?_
    rw [p_nc_app, if_neg (by omega), e2]; rfl
  unfold J_L_types_106
  rw [t_48]
  refine t_ap hj hV hD (by omega) (by omega) (by omega) (t_f (nI_ge (a := 0) (by omega) (by omega)) ?_)
  unfold J_L_types_123
  refine t_t rfl (t_f (by decide) ?_)
  refine t_ap (c := 62) hj hV hD (by omega) (by omega) (by rw [List.length_append]; simp; omega) (t_f (nI_ge (a := 0) (by omega) (by rw [List.length_append]; simp; omega)) (t_low (n := 9) (by omega) (by omega) ?_))
  have e1 : (l ++ [48 + m] ++ [62]).length = l.length + 2 := by simp
  have e2 : p_nc 44 (l ++ [48 + m] ++ [62]) = p_nc 44 l := by rw [p_nc_app, p_nc_app, if_neg (by omega), if_neg (by omega)]; rfl
  split
  · refine t_low (n := 6) (by omega) (by omega) (k329 _ _ ?_ e1 e2)
    have := p_low_lt (x := y >>> ((3 : Int32) &&& 31)) (show 0 < 6 by omega)
    omega
  · refine t_low (n := 5) (by omega) (by omega) ?_
    have h5 := p_low_lt (x := y >>> ((3 : Int32) &&& 31)) (show 0 < 5 by omega)
    rw [p_i1, nI_add]
    refine t_rm (y := 6) (by omega) (by omega) (by omega) (k329 _ _ ?_ e1 e2)
    have := Nat.mod_lt (m + 1 + p_low (y >>> ((3 : Int32) &&& 31)) 5) (show 6 > 0 by omega)
    omega
/-- the towns of a tour behind the first, and how rough -/
theorem t_tour (hj : j < 300) (hV : mv_VV G.1 C B D) (hD : D ≤ 30 * j) {x y x3 : Int32} {c e : Nat} {k32 : Int32 → Int32 → mv_M Int32} (he : e ≤ 7) (hee : e = p_low (y >>> ((2 : Int32) &&& 31)) (if p_low (x >>> ((23 : Int32) &&& 31)) 9 = 0 then 8 else 6)) : ∀ (k n d : Nat) (l : List Nat), d + k = e → k < n → l.length + k + 2 < 60 → (∀ l', l'.length ≤ l.length + k + 2 → p_nc 59 l' = p_nc 59 l → p_T j G 59 N (k32 1 (nI (c + 1))) l') → p_T j G 59 N (Lp_L_types_132 k32 0 1 x x3 (nI c) y n 1 (nI d)) l := by
  have fin : ∀ l : List Nat, p_T j G 59 N (k32 1 (nI (c + 1))) l → p_T j G 59 N (J_L_types_262 k32 0 1 x x3 (nI c)) l := by
    intro l h
    unfold J_L_types_262 J_L_types_267 J_L_types_343
    rw [p_i1]
    exact h
  intro k
  induction k with
  | zero =>
    intro n d l hd hn hl hk
    obtain ⟨n, rfl⟩ := Nat.exists_eq_succ_of_ne_zero (show n ≠ 0 by omega)
    have hde : d = e := by omega
    rw [Nat.succ_eq_add_one, Lp_L_types_132]
    have key : ∀ w : Nat, 0 < w → w < 10 → e = p_low (y >>> ((2 : Int32) &&& 31)) w → p_T j G 59 N (J_L_types_157 k32 (Lp_L_types_132 k32 0 1 x x3 (nI c) y n) 0 1 x x3 1 (nI c) y (nI d) (nI d) (y >>> ((2 : Int32) &&& 31)) (nI w)) l := by
      intro w w0 w1 hw
      unfold J_L_types_157
      refine t_low w0 (by omega) ?_
      rw [← hw, hde]
      refine t_t (nI_le (Nat.le_refl _) (by omega)) (t_f (by decide) (t_low (n := 2) (by omega) (by omega) ?_))
      split
      · exact fin l (hk l (by omega) rfl)
      · refine t_ap (c := 42) hj hV hD (by omega) (by omega) (by omega) (t_f (nI_ge (a := 0) (by omega) (by omega)) (t_low (n := 9) (by omega) (by omega) ?_))
        have k252 : ∀ u : Nat, 0 < u → u < 12 → p_T j G 59 N (J_L_types_252 k32 0 1 x x3 (nI c) (48 : Int32) (y >>> ((5 : Int32) &&& 31)) (nI u)) (l ++ [42]) := by
          intro u u0 u1
          unfold J_L_types_252
          refine t_low u0 (by omega) ?_
          have hq := p_low_lt (x := y >>> ((5 : Int32) &&& 31)) u0
          rw [t_48]
          refine t_ap hj hV hD (by omega) (by omega) (by rw [List.length_append]; simp; omega) (t_f (nI_ge (a := 0) (by omega) (by rw [List.length_append]; simp; omega)) (fin _ (hk _ (by simp) ?_)))
          rw [p_nc_app, p_nc_app, if_neg (by omega), if_neg (by omega)]; rfl
        split
        · exact k252 11 (by omega) (by omega)
        · exact k252 10 (by omega) (by omega)
    refine t_low (n := 9) (by omega) (by omega) ?_
    by_cases q : p_low (x >>> ((23 : Int32) &&& 31)) 9 = 0
    · exact t_t (by rw [q]; rfl) (key 8 (by omega) (by omega) (by rw [hee, if_pos q]))
    · have h9 := p_low_lt (x := x >>> ((23 : Int32) &&& 31)) (show 0 < 9 by omega)
      exact t_f (fun z => q ((mv_eq0 (by omega)).mp z)) (key 6 (by omega) (by omega) (by rw [hee, if_neg q]))
  | succ k ih =>
    intro n d l hd hn hl hk
    obtain ⟨n, rfl⟩ := Nat.exists_eq_succ_of_ne_zero (show n ≠ 0 by omega)
    rw [Nat.succ_eq_add_one, Lp_L_types_132]
    have key : ∀ w : Nat, 0 < w → w < 10 → e = p_low (y >>> ((2 : Int32) &&& 31)) w → p_T j G 59 N (J_L_types_157 k32 (Lp_L_types_132 k32 0 1 x x3 (nI c) y n) 0 1 x x3 1 (nI c) y (nI d) (nI d) (y >>> ((2 : Int32) &&& 31)) (nI w)) l := by
      intro w w0 w1 hw
      unfold J_L_types_157
      refine t_low w0 (by omega) ?_
      rw [← hw]
      refine t_f (nI_ge (by omega) (by omega)) (t_f (by decide) (t_low (n := 6) (by omega) (by omega) ?_))
      have hq := p_low_lt (x := y >>> (nI d &&& 31)) (show 0 < 6 by omega)
      rw [t_48]
      refine t_ap hj hV hD (by omega) (by omega) (by omega) (t_f (nI_ge (a := 0) (by omega) (by omega)) ?_)
      unfold J_L_types_193
      rw [p_i1]
      refine ih n (d + 1) _ (by omega) (by omega) (by simp; omega) (fun l' h1 h2 => hk l' ?_ ?_)
      · rw [List.length_append] at h1
        have : [48 + p_low (y >>> (nI d &&& 31)) 6].length = 1 := rfl
        omega
      · rw [h2, p_nc_app, if_neg (by omega)]; rfl
    refine t_low (n := 9) (by omega) (by omega) ?_
    by_cases q : p_low (x >>> ((23 : Int32) &&& 31)) 9 = 0
    · exact t_t (by rw [q]; rfl) (key 8 (by omega) (by omega) (by rw [hee, if_pos q]))
    · have h9 := p_low_lt (x := x >>> ((23 : Int32) &&& 31)) (show 0 < 9 by omega)
      exact t_f (fun z => q ((mv_eq0 (by omega)).mp z)) (key 6 (by omega) (by omega) (by rw [hee, if_neg q]))
/-- all readings: of letters, of tours -/
theorem t_loop (hj : j < 300) (hV : mv_VV G.1 C B D) (hD : D ≤ 30 * j) {x z : Int32} (hz : (z = 0 ∧ sep = 44 ∧ N < 7) ∨ (z = 1 ∧ sep = 59 ∧ N < 4)) : ∀ (k n c : Nat) (l : List Nat), c + k = N → k < n → (z = 0 → l.length ≤ 4 * c) → (z = 1 → l.length ≤ 11 * c) → (c = 0 → l = []) → (0 < c → p_nc sep l + 1 = c) → p_T j G sep N (Lp_L_types_32 0 z x (nI N) n 1 (nI c)) l := by
  intro k
  induction k with
  | zero =>
    intro n c l hc hn h1 h2 h3 h4
    obtain ⟨n, rfl⟩ := Nat.exists_eq_succ_of_ne_zero (show n ≠ 0 by omega)
    have hcN : c = N := by omega
    subst hcN
    rw [Nat.succ_eq_add_one, Lp_L_types_32]
    refine t_t (nI_le (Nat.le_refl _) (by omega)) (t_f (by decide) ?_)
    refine t_tail hj hV hD (hz.imp (fun h => ⟨h.1, h.2.1⟩) (fun h => ⟨h.1, h.2.1⟩)) ?_ h3 h4
    rcases hz with ⟨rfl, rfl, h7⟩ | ⟨rfl, rfl, h7⟩
    · have := h1 rfl; omega
    · have := h2 rfl; omega
  | succ k ih =>
    intro n c l hc hn h1 h2 h3 h4
    obtain ⟨n, rfl⟩ := Nat.exists_eq_succ_of_ne_zero (show n ≠ 0 by omega)
    rw [Nat.succ_eq_add_one, Lp_L_types_32]
    refine t_f (nI_ge (by omega) (by omega)) (t_let ?_)
    generalize x >>> (((2 : Int32) + ((3 : Int32) * nI c)) &&& 31) = y
    have key : ∀ w : Nat, 0 < w → w < 8 → p_T j G sep N (J_L_types_67 (Lp_L_types_32 0 z x (nI N) n) 0 z x (nI N) 1 (nI c) y (nI w)) l := by
      intro w w0 w1
      unfold J_L_types_67
      refine t_low w0 (by omega) (t_f (by decide) ?_)
      have hm := p_low_lt (x := y) w0
      rcases hz with ⟨rfl, rfl, h7⟩ | ⟨rfl, rfl, h7⟩
      · have hl := h1 rfl
        have k106 : ∀ l1 : List Nat, l1.length ≤ l.length + 1 → p_nc 44 l1 = c → p_T j G 44 N (J_L_types_106 (Lp_L_types_32 0 0 x (nI N) n) 0 0 x (nI N) (nI c) y (nI (p_low y w))) l1 := by
          intro l1 e1 e2
          refine t_letter hj hV hD (by omega) (by omega) (fun l' g1 g2 => ih n (c + 1) l' (by omega) (by omega) (fun _ => by omega) (fun z => absurd z (by decide)) (fun z => by omega) (fun _ => by omega))
        by_cases h0 : c = 0
        · refine t_t (by rw [h0]; rfl) (k106 l (by omega) ?_)
          rw [h3 h0, h0]; rfl
        · refine t_f (fun z => h0 ((mv_eq0 (by omega)).mp z)) (t_t rfl ?_)
          unfold J_L_types_100
          refine t_ap (c := 44) hj hV hD (by omega) (by omega) (by omega) (t_f (nI_ge (a := 0) (by omega) (by omega)) (k106 _ (by simp) ?_))
          rw [p_nc_app, if_pos rfl]
          exact h4 (by omega)
      · have hl := h2 rfl
        have k106 : ∀ l1 : List Nat, l1.length ≤ l.length + 1 → p_nc 59 l1 = c → p_T j G 59 N (J_L_types_106 (Lp_L_types_32 0 1 x (nI N) n) 0 1 x (nI N) (nI c) y (nI (p_low y w))) l1 := by
          intro l1 e1 e2
          unfold J_L_types_106
          rw [t_48]
          refine t_ap hj hV hD (by omega) (by omega) (by omega) (t_f (nI_ge (a := 0) (by omega) (by omega)) ?_)
          unfold J_L_types_123
          refine t_f (by decide) ?_
          have he : p_low (y >>> ((2 : Int32) &&& 31)) (if p_low (x >>> ((23 : Int32) &&& 31)) 9 = 0 then 8 else 6) ≤ 7 := by
            split
            · have := p_low_lt (x := y >>> ((2 : Int32) &&& 31)) (show 0 < 8 by omega); omega
            · have := p_low_lt (x := y >>> ((2 : Int32) &&& 31)) (show 0 < 6 by omega); omega
          refine t_tour (e := p_low (y >>> ((2 : Int32) &&& 31)) (if p_low (x >>> ((23 : Int32) &&& 31)) 9 = 0 then 8 else 6)) hj hV hD he rfl _ mv_FU 0 (l1 ++ [48 + p_low y w]) (Nat.zero_add _) (by show _ < 1000; omega) (by simp; omega) (fun l' g1 g2 => ih n (c + 1) l' (by omega) (by omega) (fun z => absurd z (by decide)) (fun _ => ?_) (fun z => by omega) (fun _ => ?_))
          · rw [List.length_append] at g1
            have : [48 + p_low y w].length = 1 := rfl
            omega
          · rw [g2, p_nc_app, if_neg (by omega), e2]
        by_cases h0 : c = 0
        · refine t_t (by rw [h0]; rfl) (k106 l (by omega) ?_)
          rw [h3 h0, h0]; rfl
        · refine t_f (fun z => h0 ((mv_eq0 (by omega)).mp z)) (t_f (by decide) ?_)
          unfold J_L_types_100
          refine t_ap (c := 59) hj hV hD (by omega) (by omega) (by omega) (t_f (nI_ge (a := 0) (by omega) (by omega)) (k106 _ (by simp) ?_))
          rw [p_nc_app, if_pos rfl]
          exact h4 (by omega)
    refine t_low (n := 9) (by omega) (by omega) ?_
    split
    · exact key 7 (by omega) (by omega)
    · exact key 6 (by omega) (by omega)
/-- types: a text of n readings stands in the pad -/
theorem cl_ty (hj : j < 300) (hV : mv_VV G.1 C B D) (hD : D ≤ 30 * j) {x z : Int32} {w : Nat} (hz : (z = 0 ∧ sep = 44 ∧ w = 7) ∨ (z = 1 ∧ sep = 59 ∧ w = 4)) : ∃ lf, p_ty sep (p_low x w) lf ∧ p_ac j G (F_L_types 0 z x) 1 j (G.1, G.2.1, G.2.2.1, lf) := by
  have hw0 : 0 < w := by omega
  have hN := p_low_lt (x := x) hw0
  obtain ⟨lf, h1, h2⟩ := t_loop (sep := sep) (N := p_low x w) (x := x) (z := z) hj hV hD (hz.imp (fun h => ⟨h.1, h.2.1, by omega⟩) (fun h => ⟨h.1, h.2.1, by omega⟩)) (p_low x w) mv_FU 0 [] (Nat.zero_add _) (by show _ < 1000; omega) (fun _ => Nat.zero_le _) (fun _ => Nat.zero_le _) (fun _ => rfl) (fun z => absurd z (Nat.lt_irrefl _))
  refine ⟨lf, h1, ?_⟩
  have k : p_ac j G (J_L_types_11 0 z x x (nI w)) 1 j (G.1, G.2.1, G.2.2.1, lf) := by
    unfold J_L_types_11
    refine p_bd (cl_low hw0 (by omega)) ?_
    intro y hr
    have h60 : G.2.2.2.length ≤ 60 := by
      obtain ⟨p, zz, ks, pd, ⟨-, -, -, -, ⟨-, c2, -⟩⟩, -⟩ := p_CI (h0 := y) (I := y.2.2.1) hr
      exact c2
    refine p_cl (cl_cl (show j < 500 by omega) hV hD) (p_f (nI_pos (by omega)) ?_) y hr
    unfold J_L_types_27
    exact h2
  unfold F_L_types
  rcases hz with ⟨rfl, rfl, rfl⟩ | ⟨rfl, rfl, rfl⟩
  · exact p_t rfl k
  · exact p_f (by decide) k
end PY
