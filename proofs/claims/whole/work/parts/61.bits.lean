/-! ===== bits (the first rows are the kit's starting texts) ===== -/
def bt (x : Int32) (i : Nat) : Bool := x.toBitVec.getLsbD i
theorem b_ext {x y : Int32} (h : ∀ i, i < 32 → bt x i = bt y i) : x = y := Int32.toBitVec_inj.mp (BitVec.eq_of_getLsbD_eq (fun i hi => h i hi))
theorem b_or (x y : Int32) (i : Nat) : bt (x ||| y) i = (bt x i || bt y i) := by unfold bt; rw [Int32.toBitVec_or, BitVec.getLsbD_or]
theorem b_and (x y : Int32) (i : Nat) : bt (x &&& y) i = (bt x i && bt y i) := by unfold bt; rw [Int32.toBitVec_and, BitVec.getLsbD_and]
theorem b_0 (i : Nat) : bt 0 i = false := BitVec.getLsbD_zero
theorem s_l : ∀ n, n < 32 → ((nI n &&& 31).toBitVec.smod 32).toNat = n := by decide +kernel
theorem b_shl (n : Nat) (hn : n < 32) (x : Int32) {i : Nat} (hi : i < 32) : bt (x <<< (nI n &&& 31)) i = (decide (n ≤ i) && bt x (i - n)) := by
  unfold bt
  rw [Int32.toBitVec_shiftLeft]
  show (x.toBitVec <<< ((nI n &&& 31).toBitVec.smod 32).toNat).getLsbD i = _
  rw [s_l n hn, BitVec.getLsbD_shiftLeft]
  rcases Nat.lt_or_ge i n with h | h
  · simp [h, Nat.not_le.mpr h]
  · simp [hi, h, Nat.not_lt.mpr h]
theorem b_sshr (n : Nat) (hn : n < 32) (x : Int32) {i : Nat} (hi : i < 32) : bt (x >>> (nI n &&& 31)) i = if n + i < 32 then bt x (n + i) else bt x 31 := by
  unfold bt
  rw [Int32.toBitVec_shiftRight]
  show (x.toBitVec.sshiftRight ((nI n &&& 31).toBitVec.smod 32).toNat).getLsbD i = _
  rw [s_l n hn, BitVec.getLsbD_sshiftRight, BitVec.msb_eq_getLsbD_last]
  simp [hi]
/-- bit j of x -/
def tb (x j : Int) : Bool := bt (I x) j.toNat
theorem I_nI {j : Int} (h : 0 ≤ j) : I j = nI j.toNat := by
  show Int32.ofInt j = Int32.ofNat j.toNat
  rw [← Int32.ofInt_eq_ofNat]
  congr 1
  omega
theorem I_toI (x : Int32) : I x.toInt = x := I_toInt x
theorem b_1 : ∀ i, i < 32 → bt 1 i = decide (i = 0) := by decide +kernel
theorem b_one : ∀ n, n < 32 → ∀ i, i < 32 → bt ((1 : Int32) <<< (nI n &&& 31)) i = decide (i = n) := fun n hn i hi => by
  rw [b_shl n hn _ hi]
  rcases Nat.lt_trichotomy i n with h | h | h
  · rw [decide_eq_false (by omega), decide_eq_false (by omega)]; rfl
  · rw [decide_eq_true (by omega), decide_eq_true h, h, Nat.sub_self, b_1 0 (by decide)]; rfl
  · rw [b_1 _ (by omega), decide_eq_false (show ¬ i - n = 0 by omega), decide_eq_false (show ¬ i = n by omega), Bool.and_false]
theorem tb_shl {i j : Int} (i0 : 0 ≤ i) (i1 : i < 32) (j0 : 0 ≤ j) (j1 : j < 32) : tb (jshl 1 j) i = decide (i = j) := by
  unfold tb jshl
  rw [I_toI, I_nI j0]
  show bt ((1 : Int32) <<< (nI j.toNat &&& 31)) i.toNat = _
  rw [b_one _ (by omega) _ (by omega)]
  by_cases h : i = j
  · rw [decide_eq_true h, decide_eq_true (by omega)]
  · rw [decide_eq_false h, decide_eq_false (by omega)]
theorem tb_or (x y i : Int) : tb (jor x y) i = (tb x i || tb y i) := by unfold tb jor; rw [I_toI, b_or]
theorem tb_and (x y i : Int) : tb (jand x y) i = (tb x i && tb y i) := by unfold tb jand; rw [I_toI, b_and]
theorem tb_wr (x i : Int) : tb (wr x) i = tb x i := by unfold tb; rw [I_wr]
theorem tb_ext {x y : Int} (h : ∀ i, 0 ≤ i → i < 32 → tb x i = tb y i) : wr x = wr y := wr_I (b_ext (fun i hi => by
  have := h (i : Int) (by omega) (by omega)
  unfold tb at this
  rwa [Int.toNat_natCast] at this))
theorem tb_0 (i : Int) : tb 0 i = false := b_0 _
theorem and_z {x y : Int} : jand x y = 0 ↔ ∀ i, 0 ≤ i → i < 32 → (tb x i && tb y i) = false := by
  constructor
  · intro h i i0 i1
    rw [← tb_and, h, tb_0]
  · intro h
    have e : wr (jand x y) = wr 0 := tb_ext (fun i i0 i1 => by rw [tb_and, tb_0]; exact h i i0 i1)
    unfold jand at e ⊢
    rwa [wr_toInt, wr_0] at e
theorem and_shl {x j : Int} (j0 : 0 ≤ j) (j1 : j < 32) : jand x (jshl 1 j) = 0 ↔ tb x j = false := by
  rw [and_z]
  constructor
  · intro h
    have := h j j0 j1
    rwa [tb_shl j0 j1 j0 j1, decide_eq_true rfl, Bool.and_true] at this
  · intro h i i0 i1
    rw [tb_shl i0 i1 j0 j1]
    by_cases q : i = j
    · rw [q, h]; rfl
    · rw [decide_eq_false q, Bool.and_false]
theorem tb_1 {i : Int} (i0 : 0 ≤ i) (i1 : i < 32) : tb 1 i = decide (i = 0) := by
  unfold tb
  show bt 1 i.toNat = _
  rw [b_1 _ (by omega)]
  by_cases h : i = 0
  · rw [decide_eq_true h, decide_eq_true (by omega)]
  · rw [decide_eq_false h, decide_eq_false (by omega)]
theorem shr_and {x j : Int} (j0 : 0 ≤ j) (j1 : j < 32) : jand (jshr x j) 1 = 0 ↔ tb x j = false := by
  have e : tb (jshr x j) 0 = tb x j := by
    unfold tb jshr
    rw [I_toI, I_nI j0, show (0 : Int).toNat = 0 from rfl, b_sshr _ (by omega) _ (by decide), if_pos (by omega), Nat.add_zero]
  rw [and_z]
  constructor
  · intro h
    have := h 0 (by decide) (by decide)
    rwa [tb_1 (by decide) (by decide), decide_eq_true rfl, Bool.and_true, e] at this
  · intro h i i0 i1
    rw [tb_1 i0 i1]
    by_cases q : i = 0
    · rw [q, e, h]; rfl
    · rw [decide_eq_false q, Bool.and_false]
theorem bit_eq {x j : Int} (j0 : 0 ≤ j) (j1 : j < 32) : jand x (jshl 1 j) = 0 ↔ jand (jshr x j) 1 = 0 := (and_shl j0 j1).trans (shr_and j0 j1).symm
theorem msk_n : ∀ n : Fin 30, ∀ i : Fin 32, bt (I (jshl 1 (n.val : Int) - 1)) i.val = decide (i.val < n.val) := by decide +kernel
theorem tb_msk {n i : Int} (n0 : 0 ≤ n) (n1 : n < 30) (i0 : 0 ≤ i) (i1 : i < 32) : tb (jshl 1 n - 1) i = decide (i < n) := by
  have h := msk_n ⟨n.toNat, by omega⟩ ⟨i.toNat, by omega⟩
  have e1 : ((n.toNat : Nat) : Int) = n := by omega
  simp only [e1] at h
  unfold tb
  rw [h]
  by_cases q : i < n
  · rw [decide_eq_true q, decide_eq_true (by omega)]
  · rw [decide_eq_false q, decide_eq_false (by omega)]
