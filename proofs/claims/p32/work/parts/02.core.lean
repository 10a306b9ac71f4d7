/-! ===== the words of all methods; numbers; values; memory ===== -/
def UW : List Cond := lw_tbl.filter goodWord
theorem uw {w : Cond} (q : Nat) (h : lw_tbl[q]? = some w) (g : goodWord w = true) : w ∈ UW := List.mem_filter.mpr ⟨List.mem_of_getElem? h, g⟩
theorem uw_good {ws : List Cond} (h : ∀ w ∈ ws, w ∈ UW) : GoodIn UW ws := fun w hw => ⟨h w hw, good_of_word (List.mem_filter.mp (h w hw)).2⟩
def wr (z : Int) : Int := Int.bmod z 4294967296
abbrev I (z : Int) : Int32 := Int32.ofInt z
theorem toInt_I (z : Int) : (I z).toInt = wr z := Int32.toInt_ofInt
theorem wr_wr (z : Int) : wr (wr z) = wr z := Int.bmod_bmod ..
theorem I_wr (z : Int) : I (wr z) = I z := by
  apply Int32.toInt_inj.mp
  rw [toInt_I, toInt_I, wr_wr]
theorem I_toInt (x : Int32) : I x.toInt = x := Int32.ofInt_toInt x
theorem wr_of {z : Int} (h1 : -2147483648 ≤ z) (h2 : z < 2147483648) : wr z = z := by
  unfold wr; rw [Int.bmod_def]; omega
theorem wr_lo (z : Int) : -2147483648 ≤ wr z := by unfold wr; rw [Int.bmod_def]; omega
theorem wr_hi (z : Int) : wr z < 2147483648 := by unfold wr; rw [Int.bmod_def]; omega
theorem wr_toInt (x : Int32) : wr x.toInt = x.toInt := by rw [← toInt_I, I_toInt]
theorem I_lt (a b : Int) : I a < I b ↔ wr a < wr b := by rw [Int32.lt_iff_toInt_lt, toInt_I, toInt_I]
theorem I_le (a b : Int) : I a ≤ I b ↔ wr a ≤ wr b := by rw [Int32.le_iff_toInt_le, toInt_I, toInt_I]
theorem I_eq (a b : Int) : I a = I b ↔ wr a = wr b := by rw [← Int32.toInt_inj, toInt_I, toInt_I]
theorem I_add (a b : Int) : I (a + b) = I a + I b := Int32.ofInt_add ..
theorem I_mul (a b : Int) : I (a * b) = I a * I b := Int32.ofInt_mul ..
theorem I_sub (a b : Int) : I (a - b) = I a - I b := by rw [Int.sub_eq_add_neg, I_add, Int32.sub_eq_add_neg]; congr 1; exact Int32.ofInt_neg b
theorem I_neg (a : Int) : I (-a) = - I a := Int32.ofInt_neg a
theorem I_0 : I 0 = 0 := rfl
def jdiv (a b : Int) : Int := Int.tdiv (wr a) (wr b)
def jrem (a b : Int) : Int := Int.tmod (wr a) (wr b)
def jabs (a : Int) : Int := if 0 ≤ wr a then a else 0 - a
def jmax (a b : Int) : Int := if wr a < wr b then b else a
def jmin (a b : Int) : Int := if wr b < wr a then b else a
def jand (a b : Int) : Int := (I a &&& I b).toInt
def jor (a b : Int) : Int := (I a ||| I b).toInt
def jxor (a b : Int) : Int := (I a ^^^ I b).toInt
def jshl (a b : Int) : Int := (I a <<< (I b &&& 31)).toInt
def jshr (a b : Int) : Int := (I a >>> (I b &&& 31)).toInt
theorem I_div (a b : Int) : I (jdiv a b) = I a / I b := by
  apply Int32.toInt_inj.mp
  rw [Int32.toInt_div, toInt_I, toInt_I, toInt_I]; rfl
theorem I_rem (a b : Int) : I (jrem a b) = I a - I a / I b * I b := by
  rw [← I_div, ← I_wr a, ← I_wr b, ← I_mul, ← I_sub]
  congr 1
  unfold jrem jdiv
  rw [Int.tmod_def, Int.mul_comm]
theorem I_abs (a : Int) : I (jabs a) = if 0 ≤ I a then I a else 0 - I a := by
  unfold jabs
  have h : (0 ≤ I a) ↔ 0 ≤ wr a := by rw [← I_0, I_le]; rw [show wr 0 = 0 from rfl]
  by_cases c : 0 ≤ wr a
  · rw [if_pos c, if_pos (h.mpr c)]
  · rw [if_neg c, if_neg (fun q => c (h.mp q)), I_sub, I_0]
theorem I_max (a b : Int) : I (jmax a b) = if I a < I b then I b else I a := by
  unfold jmax
  by_cases c : wr a < wr b
  · rw [if_pos c, if_pos ((I_lt a b).mpr c)]
  · rw [if_neg c, if_neg (fun q => c ((I_lt a b).mp q))]
theorem I_min (a b : Int) : I (jmin a b) = if I b < I a then I b else I a := by
  unfold jmin
  by_cases c : wr b < wr a
  · rw [if_pos c, if_pos ((I_lt b a).mpr c)]
  · rw [if_neg c, if_neg (fun q => c ((I_lt b a).mp q))]
theorem I_in {z : Int} {n : Nat} (h0 : 0 ≤ z) (h1 : z < n) (hn : n < 2147483648) : vp_in (I z) n := by
  rw [vp_in_iff, toInt_I, wr_of (by omega) (by omega)]
  exact ⟨h0, h1⟩
theorem I_cl {z : Int} {n : Nat} (h0 : 0 ≤ z) (h1 : z < n) (hn : n < 2147483648) : (((I z).toNatClampNeg : Nat) : Int) = z := by
  have h := toInt_I z
  rw [wr_of (by omega) (by omega)] at h
  show (((I z).toInt.toNat : Nat) : Int) = z
  rw [h]; omega
/-- values: an int, a long, a reference (sort, number) -/
abbrev AV : Type := Int ⊕ (Int64 ⊕ (Nat × Int))
abbrev xi (z : Int) : AV := .inl z
abbrev xl (z : Int64) : AV := .inr (.inl z)
abbrev xr (k : Nat) (i : Int) : AV := .inr (.inr (k, i))
def cv (ad : Nat → Int → Nat) (v : AV) : Value := match v with
  | .inl z => .int (I z)
  | .inr (.inl z) => .long z
  | .inr (.inr q) => .ref (ad q.1 q.2)
abbrev Mm : Type := Nat → Int → Int → Int
def rd (m : Mm) (k : Nat) (i j : Int) : Int := wr (m k i j)
def st (m : Mm) (k : Nat) (i j : Int) (v : Int) : Mm := fun k' i' j' => if k' = k ∧ i' = i ∧ j' = j then v else m k' i' j'
theorem wr_rd (m : Mm) (k : Nat) (i j : Int) : wr (rd m k i j) = rd m k i j := wr_wr _
theorem rd_st (m : Mm) (k k' : Nat) (i j i' j' v : Int) : rd (st m k i j v) k' i' j' = if k' = k ∧ i' = i ∧ j' = j then wr v else rd m k' i' j' := by
  unfold rd st; split <;> rfl
theorem I_rd (m : Mm) (k : Nat) (i j : Int) : I (rd m k i j) = I (m k i j) := I_wr _
