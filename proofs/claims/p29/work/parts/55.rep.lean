/-! p29: what the class's cells hold, said by vectors: the state, those before it (the newest first), the snapshot, the pad -/
abbrev p_G : Type := (Nat → Int32) × List (Nat → Int32) × Option (Nat → Int32) × List Nat
def p_ch (G : p_G) (v' : Nat → Int32) : p_G := (v', (G.1 :: G.2.1).take 4, G.2.2.1, G.2.2.2)
def p_pr (G : p_G) (p : Nat → Int32) (z : Int32) (ks : Nat → Int32) (pd : Nat → Int32) : Prop :=
  (∀ k u, G.2.1[k]? = some u → ∀ i, i < 128 → mv_at p (G.2.1.length - 1 - k) i = u i) ∧ ((G.2.2.1 = none ∧ z = 0) ∨ ∃ u, G.2.2.1 = some u ∧ z = 1 ∧ ∀ i, i < 128 → ks i = u i) ∧ (∀ k s, G.2.2.2[k]? = some s → 33 ≤ s ∧ s ≤ 126 ∧ pd k = nI s)
def p_rp (j : Nat) (G : p_G) (h : mv_Hp) : Prop := h.2.1 = mv_S0 ∧ ∃ p z ks pd, mv_CI j h h.2.2.1 G.1 G.2.1.length p z ks G.2.2.2.length pd ∧ p_pr G p z ks pd
/-- f answers r, and goes from G to G' -/
def p_ac {β : Type} (j : Nat) (G : p_G) (f : mv_M β) (r : β) (j' : Nat) (G' : p_G) : Prop := ∀ h, p_rp j G h → ∃ h', f h = some (r, h') ∧ p_rp j' G' h'
theorem p_of {β : Type} {j j' : Nat} {G G' : p_G} {f : mv_M β} {r : β} (H : ∀ h0 I, p_rp j G (mv_hp h0 I) → ∃ h0' I', f (mv_hp h0 I) = some (r, mv_hp h0' I') ∧ p_rp j' G' (mv_hp h0' I')) : p_ac j G f r j' G' := by
  intro h hr
  obtain ⟨h0', I', e1, e2⟩ := H h h.2.2.1 hr
  exact ⟨_, e1, e2⟩
theorem p_pu {β : Type} {j : Nat} {G : p_G} {a : β} : p_ac j G (mv_pu a) a j G := fun h hr => ⟨h, rfl, hr⟩
theorem p_bd {α β : Type} {j j1 j2 : Nat} {G G1 G2 : p_G} {f : mv_M α} {g : α → mv_M β} {a : α} {b : β} (h1 : p_ac j G f a j1 G1) (h2 : p_ac j1 G1 (g a) b j2 G2) : p_ac j G (mv_bd f g) b j2 G2 := by
  intro h hr
  obtain ⟨h', e1, r1⟩ := h1 h hr
  obtain ⟨h2', e2, r2⟩ := h2 h' r1
  exact ⟨h2', (ev_bd e1).trans e2, r2⟩
theorem p_t {β : Type} {c : Prop} [Decidable c] {j j' : Nat} {G G' : p_G} {f g : mv_M β} {r : β} (q : c) (h : p_ac j G f r j' G') : p_ac j G (if c then f else g) r j' G' := by rw [if_pos q]; exact h
theorem p_f {β : Type} {c : Prop} [Decidable c] {j j' : Nat} {G G' : p_G} {f g : mv_M β} {r : β} (q : ¬ c) (h : p_ac j G g r j' G') : p_ac j G (if c then f else g) r j' G' := by rw [if_neg q]; exact h
theorem p_eq {β : Type} {j j' : Nat} {G G' : p_G} {f g : mv_M β} {r : β} (e : f = g) (h : p_ac j G g r j' G') : p_ac j G f r j' G' := by rw [e]; exact h
theorem p_rz {j : Nat} {G : p_G} {x : Int32} (hx : x = 0 ∨ x = 1) : p_ac j G (mv_rz x) x j G := by rw [ev_rz hx]; exact p_pu
theorem p_CI {j : Nat} {G : p_G} {h0 : mv_Hp} {I : Nat → Nat → Int32} (hr : p_rp j G (mv_hp h0 I)) : ∃ p z ks pd, mv_CI j h0 I G.1 G.2.1.length p z ks G.2.2.2.length pd ∧ p_pr G p z ks pd := by
  obtain ⟨-, p, z, ks, pd, hc, hp⟩ := hr
  exact ⟨p, z, ks, pd, mv_CI_of hc, hp⟩
theorem p_un {j : Nat} {G : p_G} {h0 : mv_Hp} {I : Nat → Nat → Int32} {C B D : Nat} (hj : j < 500) (hV : mv_VV G.1 C B D) (hD : D ≤ 30 * j) (hr : p_rp j G (mv_hp h0 I)) : D < 16000 ∧ mv_CS h0 ∧ mv_PV G.1 B ∧ mv_RV h0 I 1 G.1 C B := by
  obtain ⟨p, z, ks, pd, ⟨hC, ⟨D1, C1, B1, d1, ⟨d2, d3⟩, d4⟩, -⟩, -⟩ := p_CI hr
  have e3 : C1 = C := (mv_eq (by have := d2.2.2.2.1; omega) (by have := hV.2.2.2.1; omega)).mp (d2.2.1.symm.trans hV.2.1)
  have e4 : B1 = B := (mv_eq (by have := d2.2.2.2.2.1; omega) (by have := hV.2.2.2.2.1; omega)).mp (d2.2.2.1.symm.trans hV.2.2.1)
  subst e3; subst e4
  exact ⟨by omega, hC, d3, d4⟩
/-- rows on which nothing rests may change -/
theorem p_rows {j j' : Nat} {G : p_G} {h0 : mv_Hp} {I J : Nat → Nat → Int32} (hj : j ≤ j') (hr : p_rp j G (mv_hp h0 I)) (hF : ∀ i, i < 147 → ¬ (21 ≤ i ∧ i < 41) → i ≠ 145 → i ≠ 146 → J i = I i) : p_rp j' G (mv_hp h0 J) := by
  obtain ⟨hs, p, z, ks, pd, hc, hp⟩ := hr
  exact ⟨hs, p, z, ks, pd, mv_CI_hp (mv_CI_rows hj hF (mv_CI_of hc)), hp⟩
theorem p_le {j j' : Nat} {G : p_G} {h : mv_Hp} (hj : j ≤ j') (hr : p_rp j G h) : p_rp j' G h := p_rows (h0 := h) (I := h.2.2.1) hj hr (fun _ _ _ _ _ => rfl)
theorem p_acle {β : Type} {j j' j2 : Nat} {G G' : p_G} {f : mv_M β} {r : β} (h : p_ac j G f r j' G') (hj : j' ≤ j2) : p_ac j G f r j2 G' := fun x hr => by
  obtain ⟨h', e, r1⟩ := h x hr
  exact ⟨h', e, p_le hj r1⟩
theorem p_fo {j : Nat} {G : p_G} {h0 : mv_Hp} {I : Nat → Nat → Int32} {f g : Nat → Int32} (hr : p_rp j G (mv_hp h0 I)) : p_rp j G (mv_hp h0 (mv_fo I f g)) := p_rows (Nat.le_refl _) hr (fun _ _ _ h1 h2 => mv_fo_ne h1 h2)
theorem p_fr21 {j : Nat} {G : p_G} {h0 : mv_Hp} {I J : Nat → Nat → Int32} (hr : p_rp j G (mv_hp h0 I)) (hF : mv_fr 21 I J) : p_rp j G (mv_hp h0 J) := p_rows (Nat.le_refl _) hr (fun i _ h1 h2 h3 => hF i (by omega) h2 h3)
theorem p_take4 {α : Type} {v : α} {l : List α} (h : l.length ≤ 4) : ((v :: l).take 4).length = mv_rk l.length := by
  unfold mv_rk
  rw [List.length_take, List.length_cons]
  split <;> omega
/-- what a call of a change begins with -/
theorem p_ck {j : Nat} {G : p_G} {h0 : mv_Hp} {I : Nat → Nat → Int32} {C B : Nat} (hr : p_rp j G (mv_hp h0 I)) (hC4 : C ≤ 4) (hB8 : B ≤ 8) (hW : mv_RV h0 I 1 G.1 C B) : ∃ h0' I1, F_X3_keep 61 (some 1) (mv_hp h0 I) = some ((), mv_hp h0' I1) ∧ mv_CS h0' ∧ mv_RV h0' I1 1 G.1 C B ∧ (∀ i, 143 ≤ i ∨ i < 61 → i ≠ 145 → i ≠ 146 → I1 i = I i) ∧ h0'.2.1 = h0.2.1 ∧ (∀ x, x ≠ 62 → h0'.2.2.2 x = h0.2.2.2 x) ∧ (∃ p z ks pd, mv_CI j h0' I1 G.1 (p_ch G G.1).2.1.length p z ks G.2.2.2.length pd ∧ ∀ v', p_pr (p_ch G v') p z ks pd) ∧ ∀ j' I2 v', j ≤ j' → mv_fr 1 I1 I2 → mv_OK j' h0' I2 1 v' → p_rp j' (p_ch G v') (mv_hp h0' I2) := by
  have hr0 := hr
  obtain ⟨hs, p, z, ks, pd, hc, hp1, hp2, hp3⟩ := hr
  have hc' := mv_CI_of hc
  obtain ⟨h0', I1, e, a1, a2, a3, a4, a5⟩ := hi_keep hc'
  have hL : G.2.1.length ≤ 4 := hc'.2.2.1.2.1
  have hpr : ∀ v', p_pr (p_ch G v') (mv_rp G.1 p G.2.1.length) z ks pd := by
    intro v'
    refine ⟨fun k u hk i hi => ?_, hp2, hp3⟩
    have hk' : ((G.1 :: G.2.1).take 4)[k]? = some u := hk
    show mv_at (mv_rp G.1 p G.2.1.length) (((G.1 :: G.2.1).take 4).length - 1 - k) i = u i
    rw [p_take4 hL]
    have hk4 : k < 4 := by
      have := (List.getElem?_eq_some_iff.mp hk').1
      rw [List.length_take] at this
      omega
    rw [List.getElem?_take_of_lt hk4] at hk'
    by_cases h4 : G.2.1.length = 4
    · rw [h4, mv_rp_4]
      unfold mv_rk
      rw [if_pos rfl]
      cases k with
      | zero =>
        have : G.1 = u := by simpa using hk'
        rw [mv_rp_new (by omega) i hi, this]
      | succ k =>
        have hk2 : G.2.1[k]? = some u := by simpa using hk'
        rw [mv_rp_old (by omega) (by omega) i hi]
        have e5 := hp1 k u hk2 i hi
        rw [h4] at e5
        rw [← e5]
        unfold mv_at mv_cp
        rw [if_pos (by omega)]
        congr 1
        omega
    · unfold mv_rk
      rw [if_neg h4]
      cases k with
      | zero =>
        have : G.1 = u := by simpa using hk'
        rw [show G.2.1.length + 1 - 1 - 0 = G.2.1.length by omega, mv_rp_new (by omega) i hi, this]
      | succ k =>
        have hk2 : G.2.1[k]? = some u := by simpa using hk'
        have hkl := (List.getElem?_eq_some_iff.mp hk2).1
        rw [mv_rp_old (by omega) (by omega) i hi, ← hp1 k u hk2 i hi]
        congr 1
        omega
  have hlen : (p_ch G G.1).2.1.length = mv_rk G.2.1.length := p_take4 hL
  refine ⟨h0', I1, e, a5.1, mv_RV_congr (hc'.1.2.2.2.2.2.2 1 (by unfold mv_blk; omega)) hC4 hB8 (fun b _ => mv_bi_congr (by rw [a3 _ (by omega)])) (fun i w1 w2 => a4 i (by omega) (by omega) (by omega)) hW, a4, a2, a3, ⟨_, _, _, _, by rw [hlen]; exact a5, hpr⟩, fun j' I2 v' hj hF hO => ?_⟩
  refine ⟨a2.trans hs, mv_rp G.1 p G.2.1.length, z, ks, pd, ?_, hpr v'⟩
  have e6 : (p_ch G v').2.1.length = mv_rk G.2.1.length := p_take4 hL
  rw [e6]
  exact mv_CI_hp (mv_CI_now hj hF hO a5)
