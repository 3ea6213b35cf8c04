section PH2
variable {j : Nat} {G : p_G} {C B D : Nat}
/-- the bundles that a carrier has, counted by the law -/
def p_hf (v : Nat → Int32) (c : Nat) (b : Nat) (x : Int32) : Int32 := x + (if v (64 + 8 * b + 2) = nI (c + 1) then nI 1 else nI 0)
theorem h_842 (hj : j < 300) (hV : mv_VV G.1 C B D) (H : p_VR G.1 C B D) (hD : D ≤ 30 * j) {c : Nat} (hc : c < C) {k642 : Int32 → Int32 → Int32 → Int32 → mv_M Int32} {x1 x2 x3 x4 x5 x6 x7 x8 x9 x10 x11 s0 : Int32} (hk : p_ac j G (k642 x8 x9 1 (nI c + 1)) 1 j G) : p_ac j G (J_L_holds_842 k642 0 x1 x2 x3 x4 x5 x6 x7 x8 x9 x10 x11 (nI c) (mv_tw G.1 c D) s0 s0) 1 j G := by
  have hj5 : j < 500 := by omega
  obtain ⟨r, g, x, y, h1, h2, h3, h4, e1, e2, e3, e4⟩ := H.2.2.1 c hc
  unfold J_L_holds_842
  have h6 : ¬ (6 : Int32) ≤ mv_tw G.1 c D := by
    rcases mv_tw_tc hV hc D with ⟨-, q⟩ | ⟨t, t1, -, q⟩
    · rw [q]; decide
    · rw [q]; exact nI_ge (b := 6) (by omega) (by omega)
  refine p_t rfl (p_f h6 (p_cl (cl_ca6 hj5 hV hD hc) (p_cl (cl_ca5 hj5 hV hD hc) ?_)))
  rw [e3, e4]
  refine p_f (nI_nlt h3 (by omega)) ?_
  unfold J_L_holds_875
  exact hk
theorem h_811 (hj : j < 300) (hV : mv_VV G.1 C B D) (H : p_VR G.1 C B D) (hD : D ≤ 30 * j) {c : Nat} (hc : c < C) {k642 : Int32 → Int32 → Int32 → Int32 → mv_M Int32} {x1 x2 x4 x5 x6 x7 x8 x9 x10 x11 s0 : Int32} (hk : p_ac j G (k642 x8 x9 1 (nI c + 1)) 1 j G) : p_ac j G (J_L_holds_811 k642 0 x1 x2 (nI D) x4 x5 x6 x7 x8 x9 x10 x11 (nI c) (mv_tw G.1 c D) s0 s0) 1 j G := by
  have hj5 : j < 500 := by omega
  have k826 : ∀ y : Int32, (G.1 (16 + 12 * c + 9) ≤ nI D → y = 0) → (¬ G.1 (16 + 12 * c + 9) ≤ nI D → y = 1) → p_ac j G (J_L_holds_826 k642 0 x1 x2 (nI D) x4 x5 x6 x7 x8 x9 x10 x11 (nI c) (mv_tw G.1 c D) y) 1 j G := by
    intro y y0 y1
    unfold J_L_holds_826
    refine p_cl (cl_ca4 hj5 hV hD hc) ?_
    by_cases h : G.1 (16 + 12 * c + 9) ≤ nI D
    · rw [y0 h]; exact p_t h (h_842 hj hV H hD hc hk)
    · rw [y1 h]; exact p_f h (h_842 hj hV H hD hc hk)
  unfold J_L_holds_811
  refine p_t rfl ?_
  by_cases h : G.1 (16 + 12 * c + 9) ≤ nI D
  · refine p_f ?_ (k826 0 (fun _ => rfl) (fun z => absurd h z))
    rcases mv_tw_tc hV hc D with ⟨q0, q⟩ | ⟨t, t1, -, q⟩
    · exfalso
      unfold mv_tc at q0
      rw [if_pos hc, if_pos h] at q0
      unfold mv_tw at q
      rw [if_pos h, q0] at q
      exact absurd q (by decide)
    · rw [q]; exact mv_n4_ne (by omega)
  · refine p_t ?_ (k826 1 (fun z => absurd z h) (fun _ => rfl))
    unfold mv_tw
    rw [if_neg h]; rfl
theorem h_697 (hj : j < 300) (hV : mv_VV G.1 C B D) (H : p_VR G.1 C B D) (hD : D ≤ 30 * j) {c : Nat} (hc : c < C) {k642 : Int32 → Int32 → Int32 → Int32 → mv_M Int32} {x2 x4 x5 x6 x7 x8 x9 x10 x11 : Int32} (hk : p_ac j G (k642 x8 x9 1 (nI c + 1)) 1 j G) : p_ac j G (Lp_L_holds_697 k642 0 (nI B) x2 (nI D) x4 x5 x6 x7 x8 x9 x10 x11 (nI c) (mv_tw G.1 c D) mv_FU 0 0) 1 j G := by
  have hj5 : j < 500 := by omega
  have hC4 := hV.2.2.2.1
  have hB8 := hV.2.2.2.2.1
  obtain ⟨n, n1, n7, en, -⟩ := hV.2.2.2.2.2.2.1 c hc
  obtain ⟨r, g, x, y, h1, h2, h3, h4, e1, e2, e3, e4⟩ := H.2.2.1 c hc
  refine p_lp (fun n b s => Lp_L_holds_697 k642 0 (nI B) x2 (nI D) x4 x5 x6 x7 x8 x9 x10 x11 (nI c) (mv_tw G.1 c D) n s (nI b)) (p_hf G.1 c) (fun _ _ => True) B (nI 0) (by omega) (fun n b s hb _ => ⟨fun h => ?_, trivial⟩) trivial (fun _ n => ?_)
  · rw [Lp_L_holds_697]
    refine p_f (nI_ge hb (by omega)) (p_cl (cl_bu2 hj5 hV hD hb) ?_)
    obtain ⟨-, ⟨l, w, a, q1, q2, q3, q4, q5, q6, q7⟩, p5⟩ := hV.2.2.2.2.2.2.2 b hb
    unfold J_L_holds_722
    rw [p_i1]
    unfold p_hf at h
    rw [q5]
    rw [q5] at h
    by_cases z : mv_dn (nI w) = nI c
    · refine p_t z (p_let ?_)
      rw [if_pos ((mv_dn_eq (by omega) (by omega)).mp z)] at h
      exact h
    · refine p_f z (p_let ?_)
      rw [if_neg (fun q => z ((mv_dn_eq (by omega) (by omega)).mpr q))] at h
      exact h
  · rw [Lp_L_holds_697]
    have es : mv_it (p_hf G.1 c) B 0 (nI 0) = mv_hs G.1 B c := rfl
    rw [es]
    refine p_t (nI_le (Nat.le_refl _) (by omega)) (p_cl (cl_ca0 hj5 hV hD hc) ?_)
    rw [en]
    refine p_f (nI_nlt (b := 1) n1 (by omega)) (p_cl (cl_ca0 hj5 hV hD hc) ?_)
    rw [en]
    refine p_f (nI_nlt (a := 7) n7 (by omega)) (p_cl (cl_ca1 hj5 hV hD hc) ?_)
    rw [e1]
    refine p_f (nI_pos (by omega)) (p_cl (cl_ca1 hj5 hV hD hc) ?_)
    rw [e1]
    refine p_f (nI_nlt (a := 9) h1 (by omega)) (p_cl (cl_ca2 hj5 hV hD hc) (p_t rfl (p_cl (cl_ca3 hj5 hV hD hc) (p_cl (cl_ct13 hj5 hV hD) ?_))))
    by_cases q : mv_hs G.1 B c < G.1 1
    · refine p_f (Int32.not_le.mpr q) ?_
      unfold mv_ful
      rw [if_pos q]
      exact h_811 hj hV H hD hc hk
    · refine p_t (Int32.not_lt.mp q) ?_
      unfold mv_ful
      rw [if_neg q]
      exact h_811 hj hV H hD hc hk
/-- the ill ones, counted; the changes of hands, summed -/
def p_if2 (v : Nat → Int32) (D : Nat) (c : Nat) (s : Int32 × Int32) : Int32 × Int32 := (s.1 + (if mv_tw v c D = mv_n4 then nI 1 else nI 0), s.2 + v (16 + 12 * c + 10))
theorem p_if2_1 (v : Nat → Int32) (D : Nat) : ∀ C, (mv_it (p_if2 v D) C 0 (nI 0, nI 0)).1 = mv_io v C D
  | 0 => rfl
  | C + 1 => by
    unfold mv_io
    rw [mv_it_last, mv_it_last]
    show (mv_it (p_if2 v D) C 0 (nI 0, nI 0)).1 + _ = _
    rw [p_if2_1 v D C]
    rfl
theorem p_if2_2 {v : Nat → Int32} {D : Nat} : ∀ C, (∀ c, c < C → p_VC1 v D c) → (mv_it (p_if2 v D) C 0 (nI 0, nI 0)).2 = nI (p_hd v C)
  | 0, _ => rfl
  | C + 1, h => by
    obtain ⟨r, g, x, y, h1, h2, h3, h4, e1, e2, e3, e4⟩ := h C (by omega)
    rw [mv_it_last, Nat.zero_add]
    show (mv_it (p_if2 v D) C 0 (nI 0, nI 0)).2 + v (16 + 12 * C + 10) = nI (p_hd v C + p_k v (16 + 12 * C + 10))
    rw [p_if2_2 C (fun c hc => h c (by omega)), p_k_of e3 (by omega), e3, nI_add]
theorem p_dd {s : Int32 × Nat} {β : Type} {g : UInt64 → mv_M β} {r : β} {j' : Nat} {G' : p_G} (h0 : ¬ s.2 = 0) (h8 : s.2 ≤ 8) (h : p_ac j G (g (mv_lr s)) r j' G') : p_ac j G (mv_bd (mv_dd (FP.i2d s.1) (FP.i2d (nI s.2))) g) r j' G' := by
  intro x hr
  obtain ⟨h', e, r1⟩ := h x hr
  exact ⟨h', (ev_dd h0 h8).trans e, r1⟩
theorem h_883 (hj : j < 300) (hV : mv_VV G.1 C B D) (H : p_VR G.1 C B D) (hD : D ≤ 30 * j) : p_ac j G (J_L_holds_883 0 (nI (p_cn G.1 1 B)) (nI (p_cn G.1 2 B)) (nI (p_cn G.1 3 B)) (nI (p_cn G.1 5 B)) (mv_io G.1 C D) (nI (p_hd G.1 C)) (mv_it (mv_la G.1 C D) B 0 (nI 0, 0)).1 (nI (mv_it (mv_la G.1 C D) B 0 (nI 0, 0)).2) 1) 1 j G := by
  have hj5 : j < 500 := by omega
  have hB8 := hV.2.2.2.2.1
  have hle := mv_la_le G.1 C D B
  obtain ⟨a, a1, a2, a3⟩ := H.2.1
  have h8 := H.1.2.2.2.2
  unfold J_L_holds_883
  refine p_f (by decide) (p_cl (cl_ct5 hj5 hV hD) (p_t (p_bbV hV (by omega) (Or.inl rfl)).symm (p_cl (cl_ct6 hj5 hV hD) (p_t (p_bbV hV (by omega) (Or.inr (Or.inl rfl))).symm (p_cl (cl_ct7 hj5 hV hD) (p_t (p_bbV hV (by omega) (Or.inr (Or.inr (Or.inl rfl)))).symm (p_cl (cl_ct8 hj5 hV hD) (p_t (p_bbV hV (by omega) (Or.inr (Or.inr (Or.inr rfl)))).symm (p_cl (cl_ct3 hj5 hV hD) (p_t rfl (p_cl (cl_ct12 hj5 hV hD) (p_t h8.symm (p_cl (cl_ct10 hj5 hV hD) ?_)))))))))))))
  rw [a3]
  refine p_f (nI_nlt (by omega) (by omega)) (p_cl (cl_la hj5 hV hD) ?_)
  have hok := mv_lr_ok (s := mv_it (mv_la G.1 C D) B 0 (nI 0, 0)) (by omega)
  generalize mv_it (mv_la G.1 C D) B 0 (nI 0, 0) = r at hle hok ⊢
  have fin : p_ac j G (J_L_holds_983 0 (mv_lr r) (mv_lr r)) 1 j G := by
    unfold J_L_holds_983
    refine p_t (by rw [fp_cmp hok]; rfl) ?_
    unfold J_L_holds_992
    exact p_rz (Or.inr rfl)
  by_cases h0 : r.2 = 0
  · refine p_t (by rw [h0]; rfl) ?_
    have e : mv_lr r = FP.dconst0 := by unfold mv_lr; rw [if_pos h0]
    rw [e] at fin ⊢
    exact fin
  · exact p_f (fun z => h0 ((mv_eq0 (by omega)).mp z)) (p_dd h0 (by omega) fin)
/-- holds answers true -/
theorem cl_ho (hj : j < 300) (hV : mv_VV G.1 C B D) (H : p_VR G.1 C B D) (hD : D ≤ 30 * j) : p_ac j G (F_L_holds 0) 1 j G := by
  have hj5 : j < 500 := by omega
  have hC4 := hV.2.2.2.1
  have hB8 := hV.2.2.2.2.1
  have e0 := hV.1
  have e3 := hV.2.1
  have e4 := hV.2.2.1
  obtain ⟨⟨ld, l1, l2, l3⟩, ⟨x, x1, x2⟩, h5, -⟩ := H.1
  unfold F_L_holds
  refine p_cl (cl_ct4 hj5 hV hD) (p_cl (cl_ct2 hj5 hV hD) (p_cl (cl_ct0 hj5 hV hD) ?_))
  rw [e4, e3, e0]
  refine p_f (nI_nlt (a := 8) hB8 (by omega)) (p_f (nI_nlt (a := 4) hC4 (by omega)) (p_cl (cl_ct9 hj5 hV hD) (p_cl (cl_ct11 hj5 hV hD) (p_t (by rw [h5, e4]) (p_cl (cl_ct1 hj5 hV hD) (p_f ?_ (p_cl (cl_ct13 hj5 hV hD) ?_)))))))
  · unfold p_st
    obtain ⟨t, t1, t2⟩ := mv_sw_t hV D
    rw [t2]
    by_cases h : nI t = nI 6
    · rw [if_pos h]; decide
    · rw [if_neg h]
      have : t ≠ 6 := fun z => h (by rw [z])
      exact nI_ge (b := 6) (by omega) (by omega)
  rw [l3]
  refine p_f (nI_nlt (b := 1) l1 (by omega)) (p_cl (cl_ct13 hj5 hV hD) ?_)
  rw [l3]
  refine p_f (nI_nlt (a := 8) l2 (by omega)) (p_cl (cl_ct14 hj5 hV hD) ?_)
  rw [x2]
  refine p_f (nI_pos (by omega)) (p_cl (cl_ct14 hj5 hV hD) ?_)
  rw [x2]
  refine p_f (nI_ge (b := 10000) x1 (by omega)) (p_cl (cl_cano hj5 hV hD) (p_t rfl (p_cl (cl_buno hj5 hV hD) (p_t rfl ?_))))
  unfold J_L_holds_147
  refine p_lp (σ := Unit) (fun n b _ => Lp_L_holds_152 0 (nI B) (nI C) (nI D) 0 0 n (nI (p_cn G.1 1 b)) (nI (p_cn G.1 2 b)) (nI (p_cn G.1 3 b)) (nI (p_cn G.1 5 b)) (mv_it (mv_la G.1 C D) b 0 (nI 0, 0)).1 (nI (mv_it (mv_la G.1 C D) b 0 (nI 0, 0)).2) 1 (nI b)) (fun _ s => s) (fun _ _ => True) B () (by omega) (fun n b s hb _ => ⟨fun h => ?_, trivial⟩) trivial (fun _ n => ?_)
  · rw [Lp_L_holds_152]
    obtain ⟨t, l, w, a, k, s, nn, F⟩ := p_fac hV H (by omega) hb
    have F0 := F
    obtain ⟨⟨t1, t2⟩, ⟨l1, l2⟩, ⟨w1, w2, w3⟩, ⟨a1, a2⟩, ⟨k1, k2⟩, ⟨s1, s2⟩, cs, pr, ⟨n1, n2, n3, n4⟩, br⟩ := F
    refine p_f (nI_ge hb (by omega)) (p_f (by decide) (p_cl (cl_bu1 hj5 hV hD hb) (p_cl (cl_bu2 hj5 hV hD hb) (p_cl (cl_bu3 hj5 hV hD hb) (p_cl (cl_ar0 hj5 hV hD hb) (p_cl (cl_bu4 hj5 hV hD hb) ?_))))))
    rw [l2, w3, a2, n1]
    rw [← p_i1] at h
    have no : mv_hD G.1 C b D = nI 0 → p_ac j G (J_L_holds_226 (Lp_L_holds_152 0 (nI B) (nI C) (nI D) 0 0 n) 0 (nI B) (nI C) (nI D) (nI (p_cn G.1 1 b)) (nI (p_cn G.1 2 b)) (nI (p_cn G.1 3 b)) (nI (p_cn G.1 5 b)) 0 0 (mv_it (mv_la G.1 C D) b 0 (nI 0, 0)).1 (nI (mv_it (mv_la G.1 C D) b 0 (nI 0, 0)).2) (nI b) (mv_dn (nI l)) (mv_dn (nI w)) (mv_dn (nI a)) (mv_oN (nI nn)) (G.1 (64 + 8 * b + 4))) 1 j G := by
      intro z
      unfold J_L_holds_226
      exact h_227 hj hV hD hb F0 (Or.inl ⟨rfl, z⟩) h
    by_cases q1 : nn = 1000000
    · refine p_t (by unfold mv_oN; rw [if_pos (by rw [q1])]; rfl) (no ?_)
      unfold mv_hD
      split
      · rfl
      · rw [n1, q1, if_pos rfl]
    · have e : mv_oN (nI nn) = nI nn := by unfold mv_oN; rw [if_neg (fun z => q1 ((mv_eq (by omega) (by omega)).mp z))]
      refine p_f (by rw [e]; exact mv_n4_ne (by omega)) ?_
      by_cases q2 : G.1 (64 + 8 * b + 4) = mv_n4
      · refine p_t q2 (no ?_)
        unfold mv_hD
        rw [if_pos q2]
      · refine p_f q2 (h_227 hj hV hD hb F0 (Or.inr ⟨by decide, rfl, ?_, q1⟩) h)
        unfold mv_hD
        rw [if_neg q2, n1, if_neg (fun z => q1 ((mv_eq (by omega) (by omega)).mp z))]
        decide
  · rw [Lp_L_holds_152]
    refine p_t (nI_le (Nat.le_refl _) (by omega)) ?_
    unfold J_L_holds_639
    refine p_lp (σ := Int32 × Int32) (fun n c s => Lp_L_holds_642 0 (nI B) (nI C) (nI D) (nI (p_cn G.1 1 B)) (nI (p_cn G.1 2 B)) (nI (p_cn G.1 3 B)) (nI (p_cn G.1 5 B)) (mv_it (mv_la G.1 C D) B 0 (nI 0, 0)).1 (nI (mv_it (mv_la G.1 C D) B 0 (nI 0, 0)).2) n s.1 s.2 1 (nI c)) (p_if2 G.1 D) (fun _ _ => True) C (nI 0, nI 0) (by omega) (fun n c s hc _ => ⟨fun h => ?_, trivial⟩) trivial (fun _ n => ?_)
    · rw [Lp_L_holds_642]
      refine p_f (nI_ge hc (by omega)) (p_f (by decide) (p_cl (cl_wh hj5 hV hD hc (by omega)) (p_cl (cl_ca5 hj5 hV hD hc) (p_let ?_))))
      rw [← p_i1] at h
      have k : ∀ y, s.1 + y = (p_if2 G.1 D c s).1 → p_ac j G (J_L_holds_691 (Lp_L_holds_642 0 (nI B) (nI C) (nI D) (nI (p_cn G.1 1 B)) (nI (p_cn G.1 2 B)) (nI (p_cn G.1 3 B)) (nI (p_cn G.1 5 B)) (mv_it (mv_la G.1 C D) B 0 (nI 0, 0)).1 (nI (mv_it (mv_la G.1 C D) B 0 (nI 0, 0)).2) n) 0 (nI B) (nI C) (nI D) (nI (p_cn G.1 1 B)) (nI (p_cn G.1 2 B)) (nI (p_cn G.1 3 B)) (nI (p_cn G.1 5 B)) (s.2 + G.1 (16 + 12 * c + 10)) (mv_it (mv_la G.1 C D) B 0 (nI 0, 0)).1 (nI (mv_it (mv_la G.1 C D) B 0 (nI 0, 0)).2) (nI c) 0 (mv_tw G.1 c D) s.1 y) 1 j G := by
        intro y hy
        unfold J_L_holds_691
        rw [hy]
        exact p_let (h_697 hj hV H hD hc h)
      by_cases q : mv_tw G.1 c D = mv_n4
      · refine p_t q (k 1 ?_)
        unfold p_if2
        rw [if_pos q]; rfl
      · refine p_f q (k 0 ?_)
        unfold p_if2
        rw [if_neg q]; rfl
    · rw [Lp_L_holds_642, p_if2_1, p_if2_2 C H.2.2.1]
      exact p_t (nI_le (Nat.le_refl _) (by omega)) (h_883 hj hV H hD)
end PH2
