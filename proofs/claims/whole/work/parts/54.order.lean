/-! ===== the model, XXIV: the free ones of five, counted ===== -/
def frB (u j : Int) : Int := if jand (jshr u j) 1 = 0 then 1 else 0
/-- the walk that looks for the r-th free one -/
def pkX (u : Int) : Nat → Int → Int → Int → Int
  | 0, _, _, x => x
  | n + 1, j, r, x => pkX u n (j + 1) (r - frB u j) (if frB u j = 1 ∧ r = 0 ∧ x < 0 then j else x)
def cntF (u : Int) : Nat → Int → Int
  | 0, _ => 0
  | n + 1, j => frB u j + cntF u n (j + 1)
def pkP (k : Nat) (u r : Int) : Prop := r < cntF u k 0 → (0 ≤ pkX u k 0 r (-1) ∧ pkX u k 0 r (-1) < (k : Int)) ∧ cntF (jor u (jshl 1 (pkX u k 0 r (-1)))) k 0 = cntF u k 0 - 1 ∧ 0 ≤ jor u (jshl 1 (pkX u k 0 r (-1))) ∧ jor u (jshl 1 (pkX u k 0 r (-1))) < 32
theorem pk_n : ∀ k : Fin 6, ∀ u : Fin 32, ∀ r : Fin 5, ((r.val : Int) < cntF (u.val : Int) k.val 0 → (0 ≤ pkX (u.val : Int) k.val 0 (r.val : Int) (-1) ∧ pkX (u.val : Int) k.val 0 (r.val : Int) (-1) < (k.val : Int)) ∧ cntF (jor (u.val : Int) (jshl 1 (pkX (u.val : Int) k.val 0 (r.val : Int) (-1)))) k.val 0 = cntF (u.val : Int) k.val 0 - 1 ∧ 0 ≤ jor (u.val : Int) (jshl 1 (pkX (u.val : Int) k.val 0 (r.val : Int) (-1))) ∧ jor (u.val : Int) (jshl 1 (pkX (u.val : Int) k.val 0 (r.val : Int) (-1))) < 32) := by decide +kernel
theorem pk_ok {k : Nat} {u r : Int} (hk : k ≤ 5) (u0 : 0 ≤ u) (u1 : u < 32) (r0 : 0 ≤ r) (r1 : r < 5) : pkP k u r := by
  have h := pk_n ⟨k, by omega⟩ ⟨u.toNat, by omega⟩ ⟨r.toNat, by omega⟩
  have e1 : ((u.toNat : Nat) : Int) = u := by omega
  have e2 : ((r.toNat : Nat) : Int) = r := by omega
  simp only [e1, e2] at h
  exact h
