/-! running the functions: heaps of one shape h0, their ints I -/
def mv_hp (h0 : mv_Hp) (I : Nat → Nat → Int32) : mv_Hp := (h0.1, h0.2.1, I, h0.2.2.2)
def mv_vu (v : Nat → Int32) (k : Nat) (x : Int32) : Nat → Int32 := fun j => if j = k then x else v j
def mv_si (I : Nat → Nat → Int32) (a : Nat) (f : Nat → Int32) : Nat → Nat → Int32 := fun x => if x = a then f else I x
theorem mv_vu_eq {v : Nat → Int32} {k : Nat} {x : Int32} : mv_vu v k x k = x := by simp [mv_vu]
theorem mv_vu_ne {v : Nat → Int32} {k j : Nat} {x : Int32} (h : j ≠ k) : mv_vu v k x j = v j := by simp [mv_vu, h]
theorem mv_si_eq {I : Nat → Nat → Int32} {a : Nat} {f : Nat → Int32} : mv_si I a f a = f := by simp [mv_si]
theorem mv_si_ne {I : Nat → Nat → Int32} {a b : Nat} {f : Nat → Int32} (h : b ≠ a) : mv_si I a f b = I b := by simp [mv_si, h]
theorem mv_si_si {I : Nat → Nat → Int32} {a : Nat} {f g : Nat → Int32} : mv_si (mv_si I a f) a g = mv_si I a g := by funext x; by_cases h : x = a <;> simp [mv_si, h]
theorem mv_si_self {I : Nat → Nat → Int32} {a : Nat} : mv_si I a (I a) = I := by funext x; by_cases h : x = a <;> simp [mv_si, h]
theorem mv_u2_si {I : Nat → Nat → Int32} {a k : Nat} {x : Int32} : mv_u2 I a k x = mv_si I a (mv_vu (I a) k x) := by
  funext b j
  by_cases h : b = a
  · subst h; simp [mv_u2, mv_si, mv_vu]
  · simp [mv_u2, mv_si, h]
theorem mv_hp_self {h : mv_Hp} : mv_hp h h.2.2.1 = h := rfl
section EV
variable {α β : Type} {h0 h : mv_Hp} {I : Nat → Nat → Int32} {c n k i j : Nat}
theorem ev_pu {a : α} : mv_pu a h = some (a, h) := rfl
theorem ev_bpu {a : α} {g : α → mv_M β} : mv_bd (mv_pu a) g h = g a h := rfl
theorem ev_bd {f : mv_M α} {g : α → mv_M β} {a : α} {h1 : mv_Hp} (e : f h = some (a, h1)) : mv_bd f g h = g a h1 := by unfold mv_bd; rw [e]
theorem ev_ite {p : Prop} [Decidable p] {f g : mv_M α} : (if p then f else g) h = if p then f h else g h := by by_cases q : p <;> simp [q]
theorem ev_gI {g : Int32 → mv_M β} (hk : h0.1[i]? = some (c, n)) : mv_bd (mv_gI c n k (some i)) g (mv_hp h0 I) = g (I i k) (mv_hp h0 I) := by
  unfold mv_bd mv_gI; simp [mv_hp, hk]
theorem ev_gR {g : Option Nat → mv_M β} (hk : h0.1[i]? = some (c, n)) : mv_bd (mv_gR c n k (some i)) g (mv_hp h0 I) = g (h0.2.2.2 i k) (mv_hp h0 I) := by
  unfold mv_bd mv_gR; simp [mv_hp, hk]
theorem ev_sI {g : Unit → mv_M β} {x : Int32} (hk : h0.1[i]? = some (c, n)) : mv_bd (mv_sI c n k (some i) x) g (mv_hp h0 I) = g () (mv_hp h0 (mv_si I i (mv_vu (I i) k x))) := by
  unfold mv_bd mv_sI; simp [mv_hp, hk, mv_u2_si]
theorem ev_sZ {g : Unit → mv_M β} {x : Int32} (hk : h0.1[i]? = some (c, n)) (hx : x = 0 ∨ x = 1) : mv_bd (mv_sZ c n k (some i) x) g (mv_hp h0 I) = g () (mv_hp h0 (mv_si I i (mv_vu (I i) k x))) := by
  unfold mv_bd mv_sZ; simp only [mv_hp, hk, mv_u2_si]; simp [hx]
theorem ev_rc {g : Nat → mv_M β} (hk : h0.1[i]? = some (c, n)) : mv_bd (mv_rc c n (some i)) g (mv_hp h0 I) = g i (mv_hp h0 I) := by
  unfold mv_bd mv_rc; simp [mv_hp, hk]
theorem ev_aL {g : Int32 → mv_M β} (hk : h0.1[i]? = some (c, n)) (h8 : 8 ≤ c ∧ c < 12) : mv_bd (mv_aL (some i)) g (mv_hp h0 I) = g (nI n) (mv_hp h0 I) := by
  unfold mv_bd mv_aL; simp [mv_hp, hk, h8, nI]
theorem ev_in (hj : j < n) (hn : n < 2 ^ 31) : ¬ (nI j < 0 ∨ n ≤ (nI j).toNatClampNeg) := vp_in_nI hj hn
theorem ev_aI {g : Int32 → mv_M β} (hk : h0.1[i]? = some (8, n)) (hj : j < n) (hn : n < 2 ^ 31) : mv_bd (mv_aI (some i) (nI j)) g (mv_hp h0 I) = g (I i j) (mv_hp h0 I) := by
  unfold mv_bd mv_aI; simp only [mv_hp, hk]; rw [if_pos ⟨trivial, ev_in hj hn⟩, nI_clamp (by omega)]
theorem ev_aS {g : Unit → mv_M β} {x : Int32} (hk : h0.1[i]? = some (8, n)) (hj : j < n) (hn : n < 2 ^ 31) : mv_bd (mv_aS (some i) (nI j) x) g (mv_hp h0 I) = g () (mv_hp h0 (mv_si I i (mv_vu (I i) j x))) := by
  unfold mv_bd mv_aS; simp only [mv_hp, hk]; rw [if_pos ⟨trivial, ev_in hj hn⟩, nI_clamp (by omega), mv_u2_si]
theorem ev_aR {t : Nat} {g : Option Nat → mv_M β} (hk : h0.1[i]? = some (8 + t, n)) (hj : j < n) (hn : n < 2 ^ 31) : mv_bd (mv_aR t (some i) (nI j)) g (mv_hp h0 I) = g (h0.2.2.2 i j) (mv_hp h0 I) := by
  unfold mv_bd mv_aR; simp only [mv_hp, hk]; rw [if_pos ⟨trivial, ev_in hj hn⟩, nI_clamp (by omega)]
theorem ev_rm {x y : Nat} {g : Int32 → mv_M β} (hx : x < 2 ^ 31) (h0 : 0 < y) (hy : y < 2 ^ 31) : mv_bd (mv_rm (nI x) (nI y)) g h = g (nI (x % y)) h := by
  unfold mv_rm
  rw [if_neg (nI_ne0 h0 hy), ev_bpu, pk_rem hx h0 hy]
theorem ev_rz {x : Int32} (hx : x = 0 ∨ x = 1) : mv_rz x = mv_pu x := by unfold mv_rz; rw [if_pos hx]
end EV
theorem mv_fu : mv_FU = 999 + 1 := rfl
/-- a loop of one index: what it says behind the last step -/
def mv_it {σ : Type} (f : Nat → σ → σ) : Nat → Nat → σ → σ
  | 0, _, s => s
  | k + 1, c, s => mv_it f k (c + 1) (f c s)
theorem mv_it_run {σ R : Type} (L : Nat → Nat → σ → R) (f : Nat → σ → σ) (fin : σ → R) (N : Nat) (P : Nat → σ → Prop) (h1 : ∀ n c s, c < N → P c s → L (n + 1) c s = L n (c + 1) (f c s) ∧ P (c + 1) (f c s)) (h2 : ∀ n s, P N s → L (n + 1) N s = fin s) : ∀ k n c s, c + k = N → k < n → P c s → L n c s = fin (mv_it f k c s) ∧ P N (mv_it f k c s) := by
  intro k
  induction k with
  | zero => intro n c s hc hn hp; subst hc; obtain ⟨n, rfl⟩ := Nat.exists_eq_succ_of_ne_zero (show n ≠ 0 by omega); exact ⟨h2 n s hp, hp⟩
  | succ k ih =>
    intro n c s hc hn hp
    obtain ⟨n, rfl⟩ := Nat.exists_eq_succ_of_ne_zero (show n ≠ 0 by omega)
    obtain ⟨e1, e2⟩ := h1 n c s (by omega) hp
    obtain ⟨e3, e4⟩ := ih n (c + 1) (f c s) (by omega) (by omega) e2
    exact ⟨e1.trans e3, e4⟩
/-- the same, of FU steps from the start -/
theorem mv_it_go {σ R : Type} (L : Nat → Nat → σ → R) (f : Nat → σ → σ) (fin : σ → R) (N : Nat) (s : σ) (hN : N < 1000) (h1 : ∀ n c s, c < N → L (n + 1) c s = L n (c + 1) (f c s)) (h2 : ∀ n s, L (n + 1) N s = fin s) : L mv_FU 0 s = fin (mv_it f N 0 s) :=
  (mv_it_run L f fin N (fun _ _ => True) (fun n c s hc _ => ⟨h1 n c s hc, trivial⟩) (fun n s _ => h2 n s) N mv_FU 0 s (by omega) (by show N < 1000; omega) trivial).1
theorem mv_it_go' {σ R : Type} (L : Nat → Nat → σ → R) (f : Nat → σ → σ) (fin : σ → R) (N : Nat) (P : Nat → σ → Prop) (s : σ) (hN : N < 1000) (h1 : ∀ n c s, c < N → P c s → L (n + 1) c s = L n (c + 1) (f c s) ∧ P (c + 1) (f c s)) (h2 : ∀ n s, P N s → L (n + 1) N s = fin s) (hp : P 0 s) : L mv_FU 0 s = fin (mv_it f N 0 s) ∧ P N (mv_it f N 0 s) :=
  mv_it_run L f fin N P h1 h2 N mv_FU 0 s (by omega) (by show N < 1000; omega) hp
theorem mv_it_last {σ : Type} (f : Nat → σ → σ) : ∀ (k c : Nat) (s : σ), mv_it f (k + 1) c s = f (c + k) (mv_it f k c s)
  | 0, c, s => rfl
  | k + 1, c, s => by
    show mv_it f (k + 1) (c + 1) (f c s) = _
    rw [mv_it_last f k (c + 1) (f c s)]
    show f (c + 1 + k) _ = f (c + (k + 1)) _
    rw [show c + 1 + k = c + (k + 1) by omega]
    rfl
theorem mv_it_ext {σ : Type} {f g : Nat → σ → σ} : ∀ (k c : Nat) (s : σ), (∀ i s, c ≤ i → i < c + k → f i s = g i s) → mv_it f k c s = mv_it g k c s
  | 0, _, _, _ => rfl
  | k + 1, c, s, h => by
    show mv_it f k (c + 1) (f c s) = mv_it g k (c + 1) (g c s)
    rw [h c s (Nat.le_refl _) (by omega)]
    exact mv_it_ext k (c + 1) _ (fun i s h1 h2 => h i s (by omega) (by omega))
