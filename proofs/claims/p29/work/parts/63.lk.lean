theorem p_rc {j : Nat} {G : p_G} {β : Type} {g : Nat → mv_M β} {r : β} {j' : Nat} {G' : p_G} (h : p_ac j G (g 0) r j' G') : p_ac j G (mv_bd (mv_rc 6 7 (some 0)) g) r j' G' := by
  intro x hr
  obtain ⟨p, z, ks, pd, ⟨hS, -⟩, -⟩ := p_CI (h0 := x) (I := x.2.2.1) hr
  obtain ⟨h', e, r1⟩ := h x hr
  exact ⟨h', (xo_rc (I := x.2.2.1) hS).trans e, r1⟩
/-- a call of the object, and what goes on behind it -/
theorem p_cl {α β : Type} {j j1 j2 : Nat} {G G1 G2 : p_G} {f : Nat → mv_M α} {g : α → mv_M β} {a : α} {b : β} (h1 : p_ac j G (f 0) a j1 G1) (h2 : p_ac j1 G1 (g a) b j2 G2) : p_ac j G (mv_bd (mv_rc 6 7 (some 0)) fun i => mv_bd (f i) g) b j2 G2 := p_rc (p_bd h1 h2)
theorem p_let {α β : Type} {j j2 : Nat} {G G2 : p_G} {g : α → mv_M β} {a : α} {b : β} (h2 : p_ac j G (g a) b j2 G2) : p_ac j G (mv_bd (mv_pu a) g) b j2 G2 := p_bd p_pu h2
theorem p_lp {σ β : Type} {j j' : Nat} {G G' : p_G} (L : Nat → Nat → σ → mv_M β) (f : Nat → σ → σ) (P : Nat → σ → Prop) (N : Nat) {r : β} (s : σ) (hN : N < 1000) (h1 : ∀ n c s, c < N → P c s → (p_ac j G (L n (c + 1) (f c s)) r j' G' → p_ac j G (L (n + 1) c s) r j' G') ∧ P (c + 1) (f c s)) (hp : P 0 s) (h2 : P N (mv_it f N 0 s) → ∀ n, p_ac j G (L (n + 1) N (mv_it f N 0 s)) r j' G') : p_ac j G (L mv_FU 0 s) r j' G' := by
  have key : ∀ k n c s, c + k = N → k < n → P c s → (P N (mv_it f k c s) → ∀ n, p_ac j G (L (n + 1) N (mv_it f k c s)) r j' G') → p_ac j G (L n c s) r j' G' := by
    intro k
    induction k with
    | zero =>
      intro n c s hc hn hP h
      have : c = N := by omega
      subst this
      obtain ⟨n, rfl⟩ := Nat.exists_eq_succ_of_ne_zero (show n ≠ 0 by omega)
      exact h hP n
    | succ k ih =>
      intro n c s hc hn hP h
      obtain ⟨n, rfl⟩ := Nat.exists_eq_succ_of_ne_zero (show n ≠ 0 by omega)
      obtain ⟨g1, g2⟩ := h1 n c s (by omega) hP
      exact g1 (ih n (c + 1) (f c s) (by omega) (by omega) g2 h)
  exact key N mv_FU 0 s (by omega) (by show N < 1000; omega) hp h2
def p_ct (v : Nat → Int32) (C B D k : Nat) : Int32 := match k with
  | 0 => v 0
  | 1 => p_st v D
  | 2 => v 3
  | 3 => mv_io v C D
  | 4 => v 4
  | 5 => mv_bb v B 1
  | 6 => mv_bb v B 2
  | 7 => mv_bb v B 3
  | 8 => mv_bb v B 5
  | 9 => v 5
  | 10 => v 6
  | 11 => v 7
  | 12 => v 8
  | 13 => v 1
  | _ => v 2
def p_ca (v : Nat → Int32) (B c k : Nat) : Int32 := match k with
  | 0 => v (16 + 12 * c + 0)
  | 1 => v (16 + 12 * c + 8)
  | 2 => mv_hs v B c
  | 3 => mv_ful v B c
  | 4 => v (16 + 12 * c + 9)
  | 5 => v (16 + 12 * c + 10)
  | _ => v (16 + 12 * c + 11)
def p_bu (v : Nat → Int32) (C D b k : Nat) : Int32 := match k with
  | 0 => v (64 + 8 * b + 0)
  | 1 => mv_dn (v (64 + 8 * b + 1))
  | 2 => mv_dn (v (64 + 8 * b + 2))
  | 3 => mv_dn (v (64 + 8 * b + 3))
  | 4 => v (64 + 8 * b + 4)
  | 5 => p_dl v C b D
  | 6 => v (64 + 8 * b + 5)
  | 7 => v (64 + 8 * b + 6)
  | _ => v (64 + 8 * b + 7)
def p_lk1 (v : Nat → Int32) (C B D : Nat) (k : Nat) (h : Int64) : Int64 := (31 : Int64) * h + Int32.toInt64 (p_ct v C B D k)
def p_lk2 (v : Nat → Int32) (B c : Nat) (k : Nat) (h : Int64) : Int64 := (31 : Int64) * h + Int32.toInt64 (p_ca v B c k)
def p_lk3 (v : Nat → Int32) (D c : Nat) (k : Nat) (h : Int64) : Int64 := (31 : Int64) * h + Int32.toInt64 (mv_tw v c (D + k))
def p_lk4 (v : Nat → Int32) (C D b : Nat) (k : Nat) (h : Int64) : Int64 := (31 : Int64) * h + Int32.toInt64 (p_bu v C D b k)
def p_lkc (v : Nat → Int32) (B D : Nat) (c : Nat) (h : Int64) : Int64 := mv_it (p_lk3 v D c) 7 0 (mv_it (p_lk2 v B c) 7 0 h)
def p_lkb (v : Nat → Int32) (C D : Nat) (b : Nat) (h : Int64) : Int64 := mv_it (p_lk4 v C D b) 9 0 h
/-- what look answers -/
def p_lk (v : Nat → Int32) (C B D : Nat) : Int64 := mv_it (p_lkb v C D) B 0 (mv_it (p_lkc v B D) C 0 (mv_it (p_lk1 v C B D) 15 0 433))
section PK
variable {j : Nat} {G : p_G} {C B D : Nat}
theorem cl_ct (hj : j < 300) (hV : mv_VV G.1 C B D) (hD : D ≤ 30 * j) {k : Nat} (hk : k < 15) : p_ac j G (F_X6_count 0 (nI k)) (p_ct G.1 C B D k) j G := by
  have hj5 : j < 500 := by omega
  rcases (show k = 0 ∨ k = 1 ∨ k = 2 ∨ k = 3 ∨ k = 4 ∨ k = 5 ∨ k = 6 ∨ k = 7 ∨ k = 8 ∨ k = 9 ∨ k = 10 ∨ k = 11 ∨ k = 12 ∨ k = 13 ∨ k = 14 by omega) with rfl | rfl | rfl | rfl | rfl | rfl | rfl | rfl | rfl | rfl | rfl | rfl | rfl | rfl | rfl
  · exact cl_ct0 hj5 hV hD
  · exact cl_ct1 hj5 hV hD
  · exact cl_ct2 hj5 hV hD
  · exact cl_ct3 hj5 hV hD
  · exact cl_ct4 hj5 hV hD
  · exact cl_ct5 hj5 hV hD
  · exact cl_ct6 hj5 hV hD
  · exact cl_ct7 hj5 hV hD
  · exact cl_ct8 hj5 hV hD
  · exact cl_ct9 hj5 hV hD
  · exact cl_ct10 hj5 hV hD
  · exact cl_ct11 hj5 hV hD
  · exact cl_ct12 hj5 hV hD
  · exact cl_ct13 hj5 hV hD
  · exact cl_ct14 hj5 hV hD
theorem cl_ca (hj : j < 300) (hV : mv_VV G.1 C B D) (hD : D ≤ 30 * j) {c k : Nat} (hc : c < C) (hk : k < 7) : p_ac j G (F_X6_carrier 0 (nI c) (nI k)) (p_ca G.1 B c k) j G := by
  have hj5 : j < 500 := by omega
  rcases (show k = 0 ∨ k = 1 ∨ k = 2 ∨ k = 3 ∨ k = 4 ∨ k = 5 ∨ k = 6 by omega) with rfl | rfl | rfl | rfl | rfl | rfl | rfl
  · exact cl_ca0 hj5 hV hD hc
  · exact cl_ca1 hj5 hV hD hc
  · exact cl_ca2 hj5 hV hD hc
  · exact cl_ca3 hj5 hV hD hc
  · exact cl_ca4 hj5 hV hD hc
  · exact cl_ca5 hj5 hV hD hc
  · exact cl_ca6 hj5 hV hD hc
theorem cl_bu (hj : j < 300) (hV : mv_VV G.1 C B D) (hD : D ≤ 30 * j) {b k : Nat} (hb : b < B) (hk : k < 9) : p_ac j G (F_X6_bundle 0 (nI b) (nI k)) (p_bu G.1 C D b k) j G := by
  have hj5 : j < 500 := by omega
  rcases (show k = 0 ∨ k = 1 ∨ k = 2 ∨ k = 3 ∨ k = 4 ∨ k = 5 ∨ k = 6 ∨ k = 7 ∨ k = 8 by omega) with rfl | rfl | rfl | rfl | rfl | rfl | rfl | rfl | rfl
  · exact cl_bu0 hj5 hV hD hb
  · exact cl_bu1 hj5 hV hD hb
  · exact cl_bu2 hj5 hV hD hb
  · exact cl_bu3 hj5 hV hD hb
  · exact cl_bu4 hj5 hV hD hb
  · exact cl_bu5 hj5 hV hD hb
  · exact cl_bu6 hj5 hV hD hb
  · exact cl_bu7 hj5 hV hD hb
  · exact cl_bu8 hj5 hV hD hb
theorem p_i1 (k : Nat) : nI k + (1 : Int32) = nI (k + 1) := by rw [li1, nI_add]
theorem cl_lk (hj : j < 300) (hV : mv_VV G.1 C B D) (hD : D ≤ 30 * j) : p_ac j G (F_L_look 0) (p_lk G.1 C B D) j G := by
  have hj5 : j < 500 := by omega
  have hC4 := hV.2.2.2.1
  have hB8 := hV.2.2.2.2.1
  have e0 := hV.1
  have e3 := hV.2.1
  have e4 := hV.2.2.1
  unfold F_L_look
  rw [li0]
  refine p_lp (fun n c s => Lp_L_look_6 0 n s (nI c)) (p_lk1 G.1 C B D) (fun _ _ => True) 15 433 (by omega) (fun n c s hc _ => ⟨fun h => ?_, trivial⟩) trivial (fun _ n => ?_)
  · rw [Lp_L_look_6, p_i1, li15]
    exact p_f (nI_ge hc (by omega)) (p_cl (cl_ct hj hV hD hc) (p_let h))
  generalize hs : mv_it (p_lk1 G.1 C B D) 15 0 433 = s1
  have es : p_lk G.1 C B D = mv_it (p_lkb G.1 C D) B 0 (mv_it (p_lkc G.1 B D) C 0 s1) := by rw [← hs]; rfl
  rw [Lp_L_look_6, li15, li0]
  refine p_t (nI_le (Nat.le_refl _) (by omega)) ?_
  refine p_lp (fun n c s => Lp_L_look_33 0 n s (nI c)) (p_lkc G.1 B D) (fun _ _ => True) C s1 (by omega) (fun n c s hc _ => ⟨fun h => ?_, trivial⟩) trivial (fun _ n => ?_)
  · rw [Lp_L_look_33, li0]
    refine p_cl (cl_ct2 hj5 hV hD) ?_
    rw [e3]
    refine p_f (nI_ge hc (by omega)) ?_
    refine p_lp (fun m k s => Lp_L_look_45 (Lp_L_look_33 0 n) 0 (nI c) m s (nI k)) (p_lk2 G.1 B c) (fun _ _ => True) 7 s (by omega) (fun m k s hk _ => ⟨fun h => ?_, trivial⟩) trivial (fun _ m => ?_)
    · rw [Lp_L_look_45, p_i1, li7]
      exact p_f (nI_ge hk (by omega)) (p_cl (cl_ca hj hV hD hc hk) (p_let h))
    · rw [Lp_L_look_45, li7, li0]
      refine p_t (nI_le (Nat.le_refl _) (by omega)) ?_
      refine p_lp (fun m k s => Lp_L_look_76 (Lp_L_look_33 0 n) 0 (nI c) m s (nI k)) (p_lk3 G.1 D c) (fun _ _ => True) 7 _ (by omega) (fun m k s hk _ => ⟨fun h => ?_, trivial⟩) trivial (fun _ m => ?_)
      · rw [Lp_L_look_76, p_i1 k, li7]
        refine p_f (nI_ge hk (by omega)) (p_cl (cl_ct0 hj5 hV hD) ?_)
        rw [e0, nI_add]
        exact p_cl (cl_wh hj5 hV hD hc (by omega)) (p_let h)
      · rw [Lp_L_look_76, li7, p_i1]
        exact p_t (nI_le (Nat.le_refl _) (by omega)) h
  generalize hs2 : mv_it (p_lkc G.1 B D) C 0 s1 = s2 at es
  rw [Lp_L_look_33]
  refine p_cl (cl_ct2 hj5 hV hD) ?_
  rw [e3, li0]
  refine p_t (nI_le (Nat.le_refl _) (by omega)) ?_
  refine p_lp (fun n c s => Lp_L_look_118 0 n s (nI c)) (p_lkb G.1 C D) (fun _ _ => True) B s2 (by omega) (fun n c s hc _ => ⟨fun h => ?_, trivial⟩) trivial (fun _ n => ?_)
  · rw [Lp_L_look_118, li0]
    refine p_cl (cl_ct4 hj5 hV hD) ?_
    rw [e4]
    refine p_f (nI_ge hc (by omega)) ?_
    refine p_lp (fun m k s => Lp_L_look_130 (Lp_L_look_118 0 n) 0 (nI c) m s (nI k)) (p_lk4 G.1 C D c) (fun _ _ => True) 9 s (by omega) (fun m k s hk _ => ⟨fun h => ?_, trivial⟩) trivial (fun _ m => ?_)
    · rw [Lp_L_look_130, p_i1 k, li9]
      exact p_f (nI_ge hk (by omega)) (p_cl (cl_bu hj hV hD hc hk) (p_let h))
    · rw [Lp_L_look_130, li9, p_i1]
      exact p_t (nI_le (Nat.le_refl _) (by omega)) h
  · rw [Lp_L_look_118]
    refine p_cl (cl_ct4 hj5 hV hD) ?_
    rw [e4, es]
    exact p_t (nI_le (Nat.le_refl _) (by omega)) p_pu
end PK
