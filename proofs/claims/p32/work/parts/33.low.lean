/-! ===== numbers of the law: low, constants, switches ===== -/
theorem and_le (x m : Int) (h0 : 0 ≤ m) (h1 : m < 2147483648) : 0 ≤ jand x m ∧ jand x m ≤ m := by
  have e : (I x &&& I m).toBitVec.toNat ≤ m.toNat := by
    rw [Int32.toBitVec_and, BitVec.toNat_and]
    refine Nat.le_trans Nat.and_le_right ?_
    show (BitVec.ofInt 32 m).toNat ≤ _
    rw [BitVec.toNat_ofInt]
    omega
  have e2 : jand x m = ((I x &&& I m).toBitVec.toNat : Int) := by
    show (I x &&& I m).toBitVec.toInt = _
    rw [BitVec.toInt_eq_toNat_of_lt (by omega)]
  omega
theorem and_le2 (x m : Int) (h0 : 0 ≤ m) (h1 : m < 2147483648) (x0 : 0 ≤ x) (x1 : x < 2147483648) : jand x m ≤ x := by
  have e : (I x &&& I m).toBitVec.toNat ≤ x.toNat := by
    rw [Int32.toBitVec_and, BitVec.toNat_and]
    refine Nat.le_trans Nat.and_le_left ?_
    show (BitVec.ofInt 32 x).toNat ≤ _
    rw [BitVec.toNat_ofInt]
    omega
  have e2 : jand x m = ((I x &&& I m).toBitVec.toNat : Int) := by
    show (I x &&& I m).toBitVec.toInt = _
    rw [BitVec.toInt_eq_toNat_of_lt (by omega)]
  omega
def lowC (v n : Int) : Int := jrem (jand v 2147483647) n
theorem low_r (v : Int) {n : Int} (n0 : 0 < n) (n1 : n < 2147483648) : 0 ≤ lowC v n ∧ lowC v n < n := by
  have h := and_le v 2147483647 (by decide) (by decide)
  unfold lowC
  rw [jrem_of h.1 (by omega) n0 n1]
  exact ⟨Int.emod_nonneg _ (by omega), Int.emod_lt_of_pos _ n0⟩
theorem low_le {v n : Int} (n0 : 0 < n) (n1 : n < 2147483648) (v0 : 0 ≤ v) (v1 : v < 2147483648) : lowC v n ≤ v := by
  have h := and_le v 2147483647 (by decide) (by decide)
  have h2 := and_le2 v 2147483647 (by decide) (by decide) v0 v1
  unfold lowC
  rw [jrem_of h.1 (by omega) n0 n1]
  have := Int.emod_nonneg (jand v 2147483647) (show n ≠ 0 by omega)
  have h3 := Int.emod_add_mul_ediv (jand v 2147483647) n
  have h4 : 0 ≤ n * (jand v 2147483647 / n) := Int.mul_nonneg (by omega) (Int.ediv_nonneg h.1 (by omega))
  omega
theorem wr_low (v : Int) {n : Int} (n0 : 0 < n) (n1 : n < 2147483648) : wr (lowC v n) = lowC v n := by
  have h := low_r v n0 n1
  exact wr_of (by omega) (by omega)
section CTX
variable {p : Program} {l : Launch} {e : Env} {R : Room} {s : State} {m : MethodId} {args : Array Value} {below : List Frame} {meth : Method} {c : Code} {cells slots : Nat} {Q : State → Prop} {V : Nat → Int → Prop} {D : DD} {ad : Nat → Int → Nat} {A : Nat → Prop} {nL : Nat} {own : String} {cc : ByteArray}
theorem Wx.ldc {v : Int} {pc idx : Nat} {L : List (Nat × AV)} {S : List AV} {mm : Mm} {o : Int64} (hC : Cx V own cc nL p R s m args meth c D ad A) (hk : Cond.constant own idx (I v) ∈ UW) (hd : decode cc pc = .ok (.ldc idx, 2)) (kk : Wx p l e R s m args below meth c cells slots Q V D ad A nL (pc + 2) L (xi v :: S) mm o) : Wx p l e R s m args below meth c cells slots Q V D ad A nL pc L S mm o := by
  intro H locs ls hW hS hl hL hv
  exact lv_ldc hC.1 hC.2.1 hC.2.2.2.1 (hC.2.2.2.2.1 _ hk) hd (kk H locs ls hW hS hl hL (fun v hv' => by
    rcases List.mem_cons.mp hv' with rfl | h
    · trivial
    · exact hv v h))
theorem Wx.tabOut {pc len tgt : Nat} {dflt lo hi z : Int} {offs : Array Int} {L : List (Nat × AV)} {S : List AV} {mm : Mm} {o : Int64} (hC : Cx V own cc nL p R s m args meth c D ad A) (hd : decode cc pc = .ok (.tableswitch dflt lo hi offs, len)) (h : wr z < lo ∨ hi < wr z) (ht : (pc : Int) + dflt = (tgt : Int)) (kk : Wx p l e R s m args below meth c cells slots Q V D ad A nL tgt L S mm o) : Wx p l e R s m args below meth c cells slots Q V D ad A nL pc L (xi z :: S) mm o := by
  intro H locs ls hW hS hl hL hv
  exact lv_tableOut hC.1 hC.2.1 hd (by rw [toInt_I]; exact h) ht (kk H locs ls hW hS hl hL (ok_tail hv))
theorem Wx.tabIn {pc len tgt : Nat} {dflt lo hi z off : Int} {offs : Array Int} {L : List (Nat × AV)} {S : List AV} {mm : Mm} {o : Int64} (hC : Cx V own cc nL p R s m args meth c D ad A) (hd : decode cc pc = .ok (.tableswitch dflt lo hi offs, len)) (h1 : ¬ wr z < lo) (h2 : ¬ hi < wr z) (ho : offs[(wr z - lo).toNat]? = some off) (ht : (pc : Int) + off = (tgt : Int)) (kk : Wx p l e R s m args below meth c cells slots Q V D ad A nL tgt L S mm o) : Wx p l e R s m args below meth c cells slots Q V D ad A nL pc L (xi z :: S) mm o := by
  intro H locs ls hW hS hl hL hv
  exact lv_tableIn hC.1 hC.2.1 hd (by rw [toInt_I]; exact h1) (by rw [toInt_I]; exact h2) (by rw [toInt_I]; exact ho) ht (kk H locs ls hW hS hl hL (ok_tail hv))
end CTX
theorem ct8 : Cond.constant RL 8 (I 2147483647) ∈ UW := uw 651 (by decide +kernel) (by decide +kernel)
theorem ct7 : Cond.constant RL 7 (I 2752763) ∈ UW := uw 647 (by decide +kernel) (by decide +kernel)
def noX : XT := fun _ _ _ => False
set_option maxRecDepth 100000 in
set_option maxHeartbeats 400000 in
theorem M_low (mm : Mm) (o : Int64) (v n : Int) (hn : ¬ wr n = 0) : MetT iL_low 0 [xi v, xi n] mm o (rto (xi (lowC v n)) mm o) noX := by
  refine MetT.of 1 (by decide +kernel) rfl (Nat.le_of_ble_eq_true rfl) ⟨by decide, by decide⟩ ?_
  intro p l e s m args below meth c V D ad hC hN hT hst hex hok hF
  refine wpt0 hC tkL_low hF [] 200 ?_
  refine Wx.ldc (v := 2147483647) hC ct8 (by decide +kernel) ?_
  refine wpt0 hC tkL_low hF [] 200 ?_
  exact ⟨hn, rfl, rfl, rfl⟩
