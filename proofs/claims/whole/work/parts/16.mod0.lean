theorem li0 : (0 : Int32) = nI 0 := by decide +kernel
theorem li1 : (1 : Int32) = nI 1 := by decide +kernel
theorem li2 : (2 : Int32) = nI 2 := by decide +kernel
theorem li3 : (3 : Int32) = nI 3 := by decide +kernel
theorem li4 : (4 : Int32) = nI 4 := by decide +kernel
theorem li5 : (5 : Int32) = nI 5 := by decide +kernel
theorem li6 : (6 : Int32) = nI 6 := by decide +kernel
theorem li7 : (7 : Int32) = nI 7 := by decide +kernel
theorem li8 : (8 : Int32) = nI 8 := by decide +kernel
theorem li9 : (9 : Int32) = nI 9 := by decide +kernel
theorem li10 : (10 : Int32) = nI 10 := by decide +kernel
theorem li11 : (11 : Int32) = nI 11 := by decide +kernel
theorem li12 : (12 : Int32) = nI 12 := by decide +kernel
theorem li13 : (13 : Int32) = nI 13 := by decide +kernel
theorem li14 : (14 : Int32) = nI 14 := by decide +kernel
theorem li15 : (15 : Int32) = nI 15 := by decide +kernel
theorem li16 : (16 : Int32) = nI 16 := by decide +kernel
theorem li17 : (17 : Int32) = nI 17 := by decide +kernel
theorem li18 : (18 : Int32) = nI 18 := by decide +kernel
theorem li19 : (19 : Int32) = nI 19 := by decide +kernel
theorem li30 : (30 : Int32) = nI 30 := by decide +kernel
theorem li31 : (31 : Int32) = nI 31 := by decide +kernel
theorem li33 : (33 : Int32) = nI 33 := by decide +kernel
theorem li39 : (39 : Int32) = nI 39 := by decide +kernel
theorem li40 : (40 : Int32) = nI 40 := by decide +kernel
theorem li41 : (41 : Int32) = nI 41 := by decide +kernel
theorem li42 : (42 : Int32) = nI 42 := by decide +kernel
theorem li43 : (43 : Int32) = nI 43 := by decide +kernel
theorem li44 : (44 : Int32) = nI 44 := by decide +kernel
theorem li45 : (45 : Int32) = nI 45 := by decide +kernel
theorem li46 : (46 : Int32) = nI 46 := by decide +kernel
theorem li47 : (47 : Int32) = nI 47 := by decide +kernel
theorem li48 : (48 : Int32) = nI 48 := by decide +kernel
theorem li49 : (49 : Int32) = nI 49 := by decide +kernel
theorem li50 : (50 : Int32) = nI 50 := by decide +kernel
theorem li51 : (51 : Int32) = nI 51 := by decide +kernel
theorem li52 : (52 : Int32) = nI 52 := by decide +kernel
theorem li53 : (53 : Int32) = nI 53 := by decide +kernel
theorem li54 : (54 : Int32) = nI 54 := by decide +kernel
theorem li55 : (55 : Int32) = nI 55 := by decide +kernel
theorem li56 : (56 : Int32) = nI 56 := by decide +kernel
theorem li57 : (57 : Int32) = nI 57 := by decide +kernel
theorem li58 : (58 : Int32) = nI 58 := by decide +kernel
theorem li59 : (59 : Int32) = nI 59 := by decide +kernel
theorem li60 : (60 : Int32) = nI 60 := by decide +kernel
theorem li61 : (61 : Int32) = nI 61 := by decide +kernel
theorem li62 : (62 : Int32) = nI 62 := by decide +kernel
theorem li64 : (64 : Int32) = nI 64 := by decide +kernel
theorem li126 : (126 : Int32) = nI 126 := by decide +kernel
theorem li128 : (128 : Int32) = nI 128 := by decide +kernel
theorem li300 : (300 : Int32) = nI 300 := by decide +kernel
theorem li384 : (384 : Int32) = nI 384 := by decide +kernel
theorem li421 : (421 : Int32) = nI 421 := by decide +kernel
theorem li512 : (512 : Int32) = nI 512 := by decide +kernel
theorem li1000 : (1000 : Int32) = nI 1000 := by decide +kernel
theorem li1663 : (1663 : Int32) = nI 1663 := by decide +kernel
theorem li9999 : (9999 : Int32) = nI 9999 := by decide +kernel
theorem li10000 : (10000 : Int32) = nI 10000 := by decide +kernel
theorem li1000000 : (1000000 : Int32) = nI 1000000 := by decide +kernel
theorem li2147483647 : (2147483647 : Int32) = nI 2147483647 := by decide +kernel
def mv_n1 : Int32 := -1
theorem lin1 : -(nI 1) = mv_n1 := by decide +kernel
def mv_n2 : Int32 := -2
theorem lin2 : -(nI 2) = mv_n2 := by decide +kernel
def mv_n3 : Int32 := -3
theorem lin3 : -(nI 3) = mv_n3 := by decide +kernel
def mv_n4 : Int32 := -4
theorem lin4 : -(nI 4) = mv_n4 := by decide +kernel
def mv_MS (h0 : mv_Hp) : Prop := h0.1 = mv_K0 ∧ h0.2.2.2 147 0 = some 148 ∧ h0.2.2.2 147 1 = some 149 ∧ h0.2.2.2 147 2 = some 150 ∧ h0.2.2.2 147 4 = some 151 ∧ h0.2.2.2 147 6 = some 152 ∧ h0.2.2.2 147 11 = some 153
section MO
variable {β : Type} {h0 : mv_Hp} {I : Nat → Nat → Int32} {j : Nat} {x : Int32}
theorem mo_rc {g : Nat → mv_M β} (hM : mv_MS h0) : mv_bd (mv_rc 7 12 (some 147)) g (mv_hp h0 I) = g 147 (mv_hp h0 I) := ev_rc (by rw [hM.1]; rfl)
theorem mo_gI {k : Nat} {g : Int32 → mv_M β} (hM : mv_MS h0) : mv_bd (mv_gI 7 12 k (some 147)) g (mv_hp h0 I) = g (I 147 k) (mv_hp h0 I) := ev_gI (by rw [hM.1]; rfl)
theorem mo_sI {k : Nat} {g : Unit → mv_M β} (hM : mv_MS h0) : mv_bd (mv_sI 7 12 k (some 147) x) g (mv_hp h0 I) = g () (mv_hp h0 (mv_si I 147 (mv_vu (I 147) k x))) := ev_sI (by rw [hM.1]; rfl)
theorem mo_sZ {k : Nat} {g : Unit → mv_M β} (hM : mv_MS h0) (hx : x = 0 ∨ x = 1) : mv_bd (mv_sZ 7 12 k (some 147) x) g (mv_hp h0 I) = g () (mv_hp h0 (mv_si I 147 (mv_vu (I 147) k x))) := ev_sZ (by rw [hM.1]; rfl) hx

theorem mo_g0 {g : Option Nat → mv_M β} (hM : mv_MS h0) : mv_bd (mv_gR 7 12 0 (some 147)) g (mv_hp h0 I) = g (some 148) (mv_hp h0 I) := (ev_gR (by rw [hM.1]; rfl)).trans (by rw [hM.2.1])
theorem mo_r148 {g : Int32 → mv_M β} (hM : mv_MS h0) (hj : j < 128) : mv_bd (mv_aI (some 148) (nI j)) g (mv_hp h0 I) = g (I 148 j) (mv_hp h0 I) := ev_aI (n := 128) (by rw [hM.1]; rfl) hj (by omega)
theorem mo_w148 {g : Unit → mv_M β} (hM : mv_MS h0) (hj : j < 128) : mv_bd (mv_aS (some 148) (nI j) x) g (mv_hp h0 I) = g () (mv_hp h0 (mv_si I 148 (mv_vu (I 148) j x))) := ev_aS (n := 128) (by rw [hM.1]; rfl) hj (by omega)
theorem mo_g1 {g : Option Nat → mv_M β} (hM : mv_MS h0) : mv_bd (mv_gR 7 12 1 (some 147)) g (mv_hp h0 I) = g (some 149) (mv_hp h0 I) := (ev_gR (by rw [hM.1]; rfl)).trans (by rw [hM.2.2.1])
theorem mo_r149 {g : Int32 → mv_M β} (hM : mv_MS h0) (hj : j < 128) : mv_bd (mv_aI (some 149) (nI j)) g (mv_hp h0 I) = g (I 149 j) (mv_hp h0 I) := ev_aI (n := 128) (by rw [hM.1]; rfl) hj (by omega)
theorem mo_w149 {g : Unit → mv_M β} (hM : mv_MS h0) (hj : j < 128) : mv_bd (mv_aS (some 149) (nI j) x) g (mv_hp h0 I) = g () (mv_hp h0 (mv_si I 149 (mv_vu (I 149) j x))) := ev_aS (n := 128) (by rw [hM.1]; rfl) hj (by omega)
theorem mo_g2 {g : Option Nat → mv_M β} (hM : mv_MS h0) : mv_bd (mv_gR 7 12 2 (some 147)) g (mv_hp h0 I) = g (some 150) (mv_hp h0 I) := (ev_gR (by rw [hM.1]; rfl)).trans (by rw [hM.2.2.2.1])
theorem mo_r150 {g : Int32 → mv_M β} (hM : mv_MS h0) (hj : j < 512) : mv_bd (mv_aI (some 150) (nI j)) g (mv_hp h0 I) = g (I 150 j) (mv_hp h0 I) := ev_aI (n := 512) (by rw [hM.1]; rfl) hj (by omega)
theorem mo_w150 {g : Unit → mv_M β} (hM : mv_MS h0) (hj : j < 512) : mv_bd (mv_aS (some 150) (nI j) x) g (mv_hp h0 I) = g () (mv_hp h0 (mv_si I 150 (mv_vu (I 150) j x))) := ev_aS (n := 512) (by rw [hM.1]; rfl) hj (by omega)
theorem mo_g4 {g : Option Nat → mv_M β} (hM : mv_MS h0) : mv_bd (mv_gR 7 12 4 (some 147)) g (mv_hp h0 I) = g (some 151) (mv_hp h0 I) := (ev_gR (by rw [hM.1]; rfl)).trans (by rw [hM.2.2.2.2.1])
theorem mo_r151 {g : Int32 → mv_M β} (hM : mv_MS h0) (hj : j < 128) : mv_bd (mv_aI (some 151) (nI j)) g (mv_hp h0 I) = g (I 151 j) (mv_hp h0 I) := ev_aI (n := 128) (by rw [hM.1]; rfl) hj (by omega)
theorem mo_w151 {g : Unit → mv_M β} (hM : mv_MS h0) (hj : j < 128) : mv_bd (mv_aS (some 151) (nI j) x) g (mv_hp h0 I) = g () (mv_hp h0 (mv_si I 151 (mv_vu (I 151) j x))) := ev_aS (n := 128) (by rw [hM.1]; rfl) hj (by omega)
theorem mo_g6 {g : Option Nat → mv_M β} (hM : mv_MS h0) : mv_bd (mv_gR 7 12 6 (some 147)) g (mv_hp h0 I) = g (some 152) (mv_hp h0 I) := (ev_gR (by rw [hM.1]; rfl)).trans (by rw [hM.2.2.2.2.2.1])
theorem mo_r152 {g : Int32 → mv_M β} (hM : mv_MS h0) (hj : j < 60) : mv_bd (mv_aI (some 152) (nI j)) g (mv_hp h0 I) = g (I 152 j) (mv_hp h0 I) := ev_aI (n := 60) (by rw [hM.1]; rfl) hj (by omega)
theorem mo_w152 {g : Unit → mv_M β} (hM : mv_MS h0) (hj : j < 60) : mv_bd (mv_aS (some 152) (nI j) x) g (mv_hp h0 I) = g () (mv_hp h0 (mv_si I 152 (mv_vu (I 152) j x))) := ev_aS (n := 60) (by rw [hM.1]; rfl) hj (by omega)
theorem mo_g11 {g : Option Nat → mv_M β} (hM : mv_MS h0) : mv_bd (mv_gR 7 12 11 (some 147)) g (mv_hp h0 I) = g (some 153) (mv_hp h0 I) := (ev_gR (by rw [hM.1]; rfl)).trans (by rw [hM.2.2.2.2.2.2])
theorem mo_r153 {g : Int32 → mv_M β} (hM : mv_MS h0) (hj : j < 300) : mv_bd (mv_aI (some 153) (nI j)) g (mv_hp h0 I) = g (I 153 j) (mv_hp h0 I) := ev_aI (n := 300) (by rw [hM.1]; rfl) hj (by omega)
theorem mo_w153 {g : Unit → mv_M β} (hM : mv_MS h0) (hj : j < 300) : mv_bd (mv_aS (some 153) (nI j) x) g (mv_hp h0 I) = g () (mv_hp h0 (mv_si I 153 (mv_vu (I 153) j x))) := ev_aS (n := 300) (by rw [hM.1]; rfl) hj (by omega)
end MO
