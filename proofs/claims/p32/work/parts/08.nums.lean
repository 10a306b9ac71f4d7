/-! ===== numbers ===== -/
noncomputable def pif {α : Type} (p : Prop) (x y : α) : α := @ite α p (Classical.propDecidable p) x y
theorem pif_t {α : Type} {p : Prop} {x y : α} (h : p) : pif p x y = x := by unfold pif; rw [if_pos h]
theorem pif_f {α : Type} {p : Prop} {x y : α} (h : ¬ p) : pif p x y = y := by unfold pif; rw [if_neg h]
noncomputable def bz (p : Prop) : Int := pif p 1 0
theorem bz_t {p : Prop} (h : p) : bz p = 1 := pif_t h
theorem bz_f {p : Prop} (h : ¬ p) : bz p = 0 := pif_f h
theorem bz01 (p : Prop) : bz p = 0 ∨ bz p = 1 := by
  by_cases h : p
  · exact Or.inr (bz_t h)
  · exact Or.inl (bz_f h)
theorem bz_0 {p : Prop} : bz p = 0 ↔ ¬ p := ⟨fun h q => by rw [bz_t q] at h; exact absurd h (by decide), bz_f⟩
theorem bz_1 {p : Prop} : bz p = 1 ↔ p := by
  by_cases h : p
  · exact ⟨fun _ => h, fun _ => bz_t h⟩
  · exact ⟨fun q => (by rw [bz_f h] at q; exact absurd q (by decide)), fun q => absurd q h⟩
theorem wr_bz (p : Prop) : wr (bz p) = bz p := by
  rcases bz01 p with h | h <;> rw [h] <;> rfl
theorem wr_lit (n : Nat) (h : n < 2147483648) : wr (OfNat.ofNat n) = OfNat.ofNat n := wr_of (by have : (0 : Int) ≤ (OfNat.ofNat n : Int) := Int.natCast_nonneg n; omega) (by show (n : Int) < 2147483648; omega)
theorem wr_0 : wr 0 = 0 := rfl
theorem wr_1 : wr 1 = 1 := rfl
theorem wr_m1 : wr (-1) = -1 := rfl
theorem jdiv_of {a b : Int} (h0 : 0 ≤ a) (h1 : a < 2147483648) (b0 : 0 < b) (b1 : b < 2147483648) : jdiv a b = a / b := by
  unfold jdiv
  rw [wr_of (by omega) h1, wr_of (by omega) b1, Int.tdiv_eq_ediv_of_nonneg h0]
theorem jrem_of {a b : Int} (h0 : 0 ≤ a) (h1 : a < 2147483648) (b0 : 0 < b) (b1 : b < 2147483648) : jrem a b = a % b := by
  unfold jrem
  rw [wr_of (by omega) h1, wr_of (by omega) b1, Int.tmod_eq_emod_of_nonneg h0]
theorem rd_lo (mm : Mm) (k : Nat) (i j : Int) : -2147483648 ≤ rd mm k i j := wr_lo _
theorem rd_hi (mm : Mm) (k : Nat) (i j : Int) : rd mm k i j < 2147483648 := wr_hi _
/-- the highest number below n of which P holds; -1: none -/
noncomputable def fdown (P : Int → Prop) : Nat → Int
  | 0 => -1
  | n + 1 => pif (P (n : Int)) (n : Int) (fdown P n)
/-- from c on, at most n times, as long as P holds -/
noncomputable def runT (P : Int → Prop) : Nat → Int → Int
  | 0, c => c
  | n + 1, c => pif (P c) (runT P n (c + 1)) c
/-- the lowest number from c on, of n, of which P holds; -1: none -/
noncomputable def fup (P : Int → Prop) : Nat → Int → Int
  | 0, _ => -1
  | n + 1, c => pif (P c) c (fup P n (c + 1))
/-- how many of the n numbers from c on have P, and s -/
noncomputable def cntT (P : Int → Prop) : Nat → Int → Int → Int
  | 0, _, s => s
  | n + 1, c, s => cntT P n (c + 1) (pif (P c) (s + 1) s)
theorem fdown_s {P : Int → Prop} {n : Nat} : fdown P (n + 1) = pif (P (n : Int)) (n : Int) (fdown P n) := rfl
theorem fdown_range (P : Int → Prop) : ∀ n : Nat, -1 ≤ fdown P n ∧ fdown P n < n
  | 0 => by unfold fdown; omega
  | n + 1 => by
    have h := fdown_range P n
    rw [fdown_s]
    by_cases hp : P n
    · rw [pif_t hp]; omega
    · rw [pif_f hp]; omega
theorem runT_range (P : Int → Prop) : ∀ (n : Nat) (c : Int), c ≤ runT P n c ∧ runT P n c ≤ c + n
  | 0, c => by unfold runT; omega
  | n + 1, c => by
    have h := runT_range P n (c + 1)
    unfold runT
    by_cases hp : P c
    · rw [pif_t hp]; omega
    · rw [pif_f hp]; omega
theorem fup_range (P : Int → Prop) : ∀ (n : Nat) (c : Int), fup P n c = -1 ∨ (c ≤ fup P n c ∧ fup P n c < c + n)
  | 0, c => Or.inl rfl
  | n + 1, c => by
    have h := fup_range P n (c + 1)
    unfold fup
    by_cases hp : P c
    · rw [pif_t hp]; omega
    · rw [pif_f hp]; omega
theorem toNat_succ {z : Int} (h : 0 ≤ z) : (z + 1).toNat = z.toNat + 1 := by omega
def nolong : List AV → Bool
  | [] => true
  | .inl _ :: t => nolong t
  | .inr (.inl _) :: _ => false
  | .inr (.inr _) :: t => nolong t
theorem nol {V : Nat → Int → Prop} : ∀ {L : List AV}, nolong L = true → ∀ v ∈ L, okv V v → okl V v
  | [], _, v, hv, _ => by cases hv
  | .inl z :: t, h, v, hv, hk => by
    rcases List.mem_cons.mp hv with rfl | hv
    · trivial
    · exact nol (L := t) h v hv hk
  | .inr (.inl z) :: t, h, v, hv, hk => by cases h
  | .inr (.inr q) :: t, h, v, hv, hk => by
    rcases List.mem_cons.mp hv with rfl | hv
    · exact hk
    · exact nol (L := t) h v hv hk
