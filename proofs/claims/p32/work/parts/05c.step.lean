section CTX
variable {p : Program} {l : Launch} {e : Env} {R : Room} {s : State} {m : MethodId} {args : Array Value} {below : List Frame} {meth : Method} {c : Code} {cells slots : Nat} {Q : State → Prop} {V : Nat → Int → Prop} {D : DD} {ad : Nat → Int → Nat} {A : Nat → Prop} {nL : Nat} {own : String} {cc : ByteArray}
theorem cOK_spec {b : ByteArray} {pc : Nat} {i : Instr} {nx sl : Nat} {sj : Int} {dc ty rc p1 p2 : Nat} (h : cOK own b (pc, i, nx, sl, sj, dc, ty, rc, p1, p2) = true) (n : Nat) (hn : ilen i = n) (h0 : n ≠ 0) : decode b pc = .ok (i, n) ∧ nx = pc + n := by
  unfold cOK at h
  simp only [Bool.and_eq_true, decide_eq_true_eq] at h
  obtain ⟨⟨⟨h1, h2⟩, h3⟩, -⟩ := h
  rw [hn] at h3
  have e : nx = pc + n := by
    rcases Bool.or_eq_true _ _ ▸ h3 with q | q
    · exact absurd (Nat.eq_of_beq_eq_true q) h0
    · exact Nat.eq_of_beq_eq_true q
  refine ⟨?_, e⟩
  rw [h1, e]
  congr 2
  omega
theorem blt_lt {a b : Nat} (h : Nat.blt a b = true) : a < b := Nat.blt_eq.mp h
theorem nar_z (v : Int) : narrow .boolean (.int (I v)) = .int (I (wr v % 2)) := by
  show Value.int (I v &&& 1) = _
  congr 1
  rw [pk_and (I v) (m := 1) 1 (by decide)]
  apply Int32.toInt_inj.mp
  have h1 : (I v).toBitVec.toNat % 2 ^ 1 < 2 := Nat.mod_lt _ (by decide)
  have h2 : wr v = (I v).toBitVec.toInt := (toInt_I v).symm
  rw [nI_toInt (by omega), toInt_I, h2, BitVec.toInt_eq_toNat_cond]
  have h3 := (I v).toBitVec.isLt
  split
  · rw [wr_of (by omega) (by omega)]; omega
  · rw [wr_of (by omega) (by omega)]; omega
theorem ref_ty {k : Nat} (ht : kt k = 4) : ∃ (ty : FieldType) (t0 : Nat), (tysOf D)[t0]? = some (D.2.2 (10 + kc k), ty) ∧ ty.isReference = true := by
  have h : ∀ k, k < 102 → kt k = 4 → kc k = 2 ∨ kc k = 6 ∨ kc k = 5 ∨ kc k = 7 ∨ kc k = 0 ∨ kc k = 8 := by decide +kernel
  rcases h k (kt_lt ht (by decide)) ht with h | h | h | h | h | h <;> rw [h]
  · exact ⟨_, 3, rfl, rfl⟩
  · exact ⟨_, 4, rfl, rfl⟩
  · exact ⟨_, 5, rfl, rfl⟩
  · exact ⟨_, 6, rfl, rfl⟩
  · exact ⟨_, 7, rfl, rfl⟩
  · exact ⟨_, 8, rfl, rfl⟩
theorem math_w0 : (Cond.initialized "java/lang/Math") ∈ lw_tbl ∧ goodWord (Cond.initialized "java/lang/Math") = true := by decide +kernel
theorem math_w1 : (Cond.static Lib.Math.abs.name) ∈ lw_tbl ∧ goodWord (Cond.static Lib.Math.abs.name) = true := by decide +kernel
theorem math_w2 : (Cond.code Lib.Math.abs.name Lib.Math.abs.code 1 (some .int)) ∈ lw_tbl ∧ goodWord (Cond.code Lib.Math.abs.name Lib.Math.abs.code 1 (some .int)) = true := by decide +kernel
theorem math_w3 : (Cond.static Lib.Math.max.name) ∈ lw_tbl ∧ goodWord (Cond.static Lib.Math.max.name) = true := by decide +kernel
theorem math_w4 : (Cond.code Lib.Math.max.name Lib.Math.max.code 2 (some .int)) ∈ lw_tbl ∧ goodWord (Cond.code Lib.Math.max.name Lib.Math.max.code 2 (some .int)) = true := by decide +kernel
theorem math_w5 : (Cond.static Lib.Math.min.name) ∈ lw_tbl ∧ goodWord (Cond.static Lib.Math.min.name) = true := by decide +kernel
theorem math_w6 : (Cond.code Lib.Math.min.name Lib.Math.min.code 2 (some .int)) ∈ lw_tbl ∧ goodWord (Cond.code Lib.Math.min.name Lib.Math.min.code 2 (some .int)) = true := by decide +kernel
/-- what a return needs -/
def rOK (p : Program) (l : Launch) (e : Env) (R : Room) (s : State) (m : MethodId) (args : Array Value) (below : List Frame) (meth : Method) (c : Code) (cells slots : Nat) (Q : State → Prop) (V : Nat → Int → Prop) (D : DD) (ad : Nat → Int → Nat) (A : Nat → Prop) (cc : ByteArray) (rt : Nat) (r : Option AV) (mm : Mm) (o : Int64) : Prop :=
  ∀ (H : Heap) (locs : List Loc) (pc : Nat) (ls : Array Slot), wOK V D ad mm o H → va_S A s.heap H locs → (∀ v, r = some v → okv V v) →
    (rt = 0 → r = none → decode cc pc = .ok (.return_, 1) → W p l e R s m args below meth c H locs cells slots Q (F0 m pc ls [])) ∧
    (∀ z, (rt = 1 ∨ rt = 2 ∧ (z = 0 ∨ z = 1)) → r = some (xi z) → decode cc pc = .ok (.ireturn, 1) → W p l e R s m args below meth c H locs cells slots Q (F0 m pc ls [.int (I z)])) ∧
    (∀ q : Nat × Int, rt = 3 → r = some (.inr (.inr q)) → decode cc pc = .ok (.areturn, 1) → W p l e R s m args below meth c H locs cells slots Q (F0 m pc ls [.ref (ad q.1 q.2)]))
/-- a value is pushed on a rest of the stack -/
theorem Wx.at_ {pc : Nat} {L : List (Nat × AV)} {S : List AV} {mm : Mm} {o : Int64} {H : Heap} {locs : List Loc} {ls : Array Slot} (h : Wx p l e R s m args below meth c cells slots Q V D ad A nL pc L S mm o) (hW : wOK V D ad mm o H) (hS : va_S A s.heap H locs) (hl : lv_has ls nL (L.map fun q => (q.1, cv ad q.2))) (hL : ∀ q ∈ L, okl V q.2) (hv : ∀ v ∈ S, okv V v) : W p l e R s m args below meth c H locs cells slots Q (F0 m pc ls (S.map (cv ad))) := h H locs ls hW hS hl hL hv
theorem ok_cons {v : AV} {S : List AV} (h : okv V v) (hS : ∀ v ∈ S, okv V v) : ∀ w ∈ v :: S, okv V w := fun w hw => (List.mem_cons.mp hw).elim (fun q => by rw [q]; exact h) (hS w)
theorem ok_tail {v : AV} {S : List AV} (h : ∀ w ∈ v :: S, okv V w) : ∀ w ∈ S, okv V w := fun w hw => h w (List.mem_cons_of_mem _ hw)
theorem ok_head {v : AV} {S : List AV} (h : ∀ w ∈ v :: S, okv V w) : okv V v := h v List.mem_cons_self
set_option maxHeartbeats 4000000 in
theorem stp_ok (hC : Cx V own cc nL p R s m args meth c D ad A) (hRc : cells ≤ R.cells ∧ slots ≤ R.slots) {pc : Nat} {i : Instr} {nx sl : Nat} {sj : Int} {dc ty rc p1 p2 rt : Nat} (he : cOK own cc (pc, i, nx, sl, sj, dc, ty, rc, p1, p2) = true) {k K : KT} {F : FT}
    (hk : ∀ pc L S mm o, k pc L S mm o → Wx p l e R s m args below meth c cells slots Q V D ad A nL pc L S mm o)
    (hK : ∀ pc L S mm o, K pc L S mm o → Wx p l e R s m args below meth c cells slots Q V D ad A nL pc L S mm o)
    (hF : ∀ r mm o, F r mm o → rOK p l e R s m args below meth c cells slots Q V D ad A cc rt r mm o)
    {L : List (Nat × AV)} {S : List AV} {mm : Mm} {o : Int64} (h : stp nx sl pc dc ty rt nL sj L S mm o k K F i) : Wx p l e R s m args below meth c cells slots Q V D ad A nL pc L S mm o := by
  have hx := hC.1
  have hb := hC.2.1
  have hcl := hC.2.2.2.2.2.2.2.2.2.1
  cases i with
  | iconst n =>
    obtain ⟨hd, rfl⟩ := cOK_spec he 1 rfl (by decide)
    intro H locs ls hW hS hl hL hv
    exact lv_iconst hx hb hd rfl ((hk _ _ _ _ _ h).at_ hW hS hl hL (ok_cons trivial hv))
  | bipush n =>
    obtain ⟨hd, rfl⟩ := cOK_spec he 2 rfl (by decide)
    have hn : -128 ≤ n ∧ n ≤ 127 := by
      unfold cOK at he
      simp only [Bool.and_eq_true, decide_eq_true_eq] at he
      exact he.2
    intro H locs ls hW hS hl hL hv
    refine lv_bipush hx hb hd (v := I n) ?_ ((hk _ _ _ _ _ h).at_ hW hS hl hL (ok_cons trivial hv))
    apply Int32.toInt_inj.mp
    rw [Int8.toInt_toInt32, Int8.toInt_ofInt, toInt_I, wr_of (by omega) (by omega), Int.bmod_def]
    show (if n % 256 < (256 + 1) / 2 then n % 256 else n % 256 - 256) = n
    omega
  | sipush n =>
    obtain ⟨hd, rfl⟩ := cOK_spec he 3 rfl (by decide)
    have hn : -32768 ≤ n ∧ n ≤ 32767 := by
      unfold cOK at he
      simp only [Bool.and_eq_true, decide_eq_true_eq] at he
      exact he.2
    intro H locs ls hW hS hl hL hv
    refine lv_sipush hx hb hd (v := I n) ?_ ((hk _ _ _ _ _ h).at_ hW hS hl hL (ok_cons trivial hv))
    apply Int32.toInt_inj.mp
    rw [Int16.toInt_toInt32, Int16.toInt_ofInt, toInt_I, wr_of (by omega) (by omega), Int.bmod_def]
    show (if n % 65536 < (65536 + 1) / 2 then n % 65536 else n % 65536 - 65536) = n
    omega
  | lconst n =>
    obtain ⟨hd, rfl⟩ := cOK_spec he 1 rfl (by decide)
    intro H locs ls hW hS hl hL hv
    exact lv_lconst hx hb hd rfl ((hk _ _ _ _ _ h).at_ hW hS hl hL (ok_cons trivial hv))
  | iload j =>
    obtain ⟨hd, rfl⟩ := cOK_spec he 2 rfl (by decide)
    intro H locs ls hW hS hl hL hv
    change h_iload _ _ _ _ _ _ _ at h
    unfold h_iload at h
    split at h
    · next z hg => exact lv_iload hx hb hd (has_get hl hg) ((hk _ _ _ _ _ h).at_ hW hS hl hL (ok_cons trivial hv))
    · exact h.elim
  | iload_n j =>
    obtain ⟨hd, rfl⟩ := cOK_spec he 1 rfl (by decide)
    intro H locs ls hW hS hl hL hv
    change h_iload _ _ _ _ _ _ _ at h
    unfold h_iload at h
    split at h
    · next z hg => exact lv_iload_n hx hb hd rfl (has_get hl hg) ((hk _ _ _ _ _ h).at_ hW hS hl hL (ok_cons trivial hv))
    · exact h.elim
  | aload j =>
    obtain ⟨hd, rfl⟩ := cOK_spec he 2 rfl (by decide)
    intro H locs ls hW hS hl hL hv
    change h_aload _ _ _ _ _ _ _ at h
    unfold h_aload at h
    split at h
    · next q hg => exact lv_aload hx hb hd (has_get hl hg) ((hk _ _ _ _ _ h).at_ hW hS hl hL (ok_cons (okl_okv (hL _ (lget_mem hg))) hv))
    · exact h.elim
  | aload_n j =>
    obtain ⟨hd, rfl⟩ := cOK_spec he 1 rfl (by decide)
    intro H locs ls hW hS hl hL hv
    change h_aload _ _ _ _ _ _ _ at h
    unfold h_aload at h
    split at h
    · next q hg => exact lv_aload_n hx hb hd rfl (has_get hl hg) ((hk _ _ _ _ _ h).at_ hW hS hl hL (ok_cons (okl_okv (hL _ (lget_mem hg))) hv))
    · exact h.elim
  | istore j =>
    obtain ⟨hd, rfl⟩ := cOK_spec he 2 rfl (by decide)
    intro H locs ls hW hS hl hL hv
    change h_istore _ _ _ _ _ _ _ _ at h
    unfold h_istore at h
    cases hj : Nat.blt j nL with
    | false => rw [hj] at h; exact h.elim
    | true =>
      rw [hj] at h
      simp only [cond_true] at h
      split at h
      · exact lv_istore hx hb hd hl (blt_lt hj) rfl (fun ls' hl' => (hk _ _ _ _ _ h).at_ hW hS (has_set (v := xi _) hL hl') (okl_set hL trivial) (ok_tail hv))
      · exact h.elim
  | istore_n j =>
    obtain ⟨hd, rfl⟩ := cOK_spec he 1 rfl (by decide)
    intro H locs ls hW hS hl hL hv
    change h_istore _ _ _ _ _ _ _ _ at h
    unfold h_istore at h
    cases hj : Nat.blt j nL with
    | false => rw [hj] at h; exact h.elim
    | true =>
      rw [hj] at h
      simp only [cond_true] at h
      split at h
      · exact lv_istore_n hx hb hd rfl hl (blt_lt hj) rfl (fun ls' hl' => (hk _ _ _ _ _ h).at_ hW hS (has_set (v := xi _) hL hl') (okl_set hL trivial) (ok_tail hv))
      · exact h.elim
  | astore j =>
    obtain ⟨hd, rfl⟩ := cOK_spec he 2 rfl (by decide)
    intro H locs ls hW hS hl hL hv
    change h_astore _ _ _ _ _ _ _ _ at h
    unfold h_astore at h
    cases hj : Nat.blt j nL with
    | false => rw [hj] at h; exact h.elim
    | true =>
      rw [hj] at h
      simp only [cond_true] at h
      split at h
      · next q S' => exact lv_astore hx hb hd hl (blt_lt hj) rfl (fun ls' hl' => (hk _ _ _ _ _ h).at_ hW hS (has_set (v := .inr (.inr q)) hL hl') (okl_set hL (ok_head hv)) (ok_tail hv))
      · exact h.elim
  | astore_n j =>
    obtain ⟨hd, rfl⟩ := cOK_spec he 1 rfl (by decide)
    intro H locs ls hW hS hl hL hv
    change h_astore _ _ _ _ _ _ _ _ at h
    unfold h_astore at h
    cases hj : Nat.blt j nL with
    | false => rw [hj] at h; exact h.elim
    | true =>
      rw [hj] at h
      simp only [cond_true] at h
      split at h
      · next q S' => exact lv_astore_n hx hb hd rfl hl (blt_lt hj) rfl (fun ls' hl' => (hk _ _ _ _ _ h).at_ hW hS (has_set (v := .inr (.inr q)) hL hl') (okl_set hL (ok_head hv)) (ok_tail hv))
      · exact h.elim
  | iinc j n =>
    obtain ⟨hd, rfl⟩ := cOK_spec he 3 rfl (by decide)
    intro H locs ls hW hS hl hL hv
    change h_iinc _ _ _ _ _ _ _ _ _ at h
    unfold h_iinc at h
    cases hj : Nat.blt j nL with
    | false => rw [hj] at h; exact h.elim
    | true =>
      rw [hj] at h
      simp only [cond_true] at h
      split at h
      · next z hg =>
        have hm : (j, cv ad (xi z)) ∈ (L.map fun q => (q.1, cv ad q.2)) := List.mem_map.mpr ⟨(j, xi z), lget_mem hg, rfl⟩
        obtain ⟨kx, hkx⟩ := List.getElem?_of_mem hm
        exact lv_iinc hx hb hd hl hkx (v := I (z + n)) (I_add z n).symm (blt_lt hj) rfl (fun ls' hl' => (hk _ _ _ _ _ h).at_ hW hS (has_set (v := xi (z + n)) hL hl') (okl_set hL trivial) hv)
      · exact h.elim
  | iadd =>
    obtain ⟨hd, rfl⟩ := cOK_spec he 1 rfl (by decide)
    intro H locs ls hW hS hl hL hv
    change h_bin _ _ _ _ _ _ _ at h
    unfold h_bin at h
    split at h
    · refine lv_iadd hx hb hd ?_
      rw [← I_add]
      exact (hk _ _ _ _ _ h).at_ hW hS hl hL (ok_cons trivial (ok_tail (ok_tail hv)))
    · exact h.elim
  | isub =>
    obtain ⟨hd, rfl⟩ := cOK_spec he 1 rfl (by decide)
    intro H locs ls hW hS hl hL hv
    change h_bin _ _ _ _ _ _ _ at h
    unfold h_bin at h
    split at h
    · refine lv_isub hx hb hd ?_
      rw [← I_sub]
      exact (hk _ _ _ _ _ h).at_ hW hS hl hL (ok_cons trivial (ok_tail (ok_tail hv)))
    · exact h.elim
  | imul =>
    obtain ⟨hd, rfl⟩ := cOK_spec he 1 rfl (by decide)
    intro H locs ls hW hS hl hL hv
    change h_bin _ _ _ _ _ _ _ at h
    unfold h_bin at h
    split at h
    · refine lv_imul hx hb hd ?_
      rw [← I_mul]
      exact (hk _ _ _ _ _ h).at_ hW hS hl hL (ok_cons trivial (ok_tail (ok_tail hv)))
    · exact h.elim
  | iand =>
    obtain ⟨hd, rfl⟩ := cOK_spec he 1 rfl (by decide)
    intro H locs ls hW hS hl hL hv
    change h_bin _ _ _ _ _ _ _ at h
    unfold h_bin at h
    split at h
    · refine lv_iand hx hb hd ?_
      have h9 := (hk _ _ _ _ _ h).at_ hW hS hl hL (ok_cons trivial (ok_tail (ok_tail hv)))
      simp only [List.map_cons, cv, jand, I_toInt] at h9
      exact h9
    · exact h.elim
  | ior =>
    obtain ⟨hd, rfl⟩ := cOK_spec he 1 rfl (by decide)
    intro H locs ls hW hS hl hL hv
    change h_bin _ _ _ _ _ _ _ at h
    unfold h_bin at h
    split at h
    · refine lv_ior hx hb hd ?_
      have h9 := (hk _ _ _ _ _ h).at_ hW hS hl hL (ok_cons trivial (ok_tail (ok_tail hv)))
      simp only [List.map_cons, cv, jor, I_toInt] at h9
      exact h9
    · exact h.elim
  | ixor =>
    obtain ⟨hd, rfl⟩ := cOK_spec he 1 rfl (by decide)
    intro H locs ls hW hS hl hL hv
    change h_bin _ _ _ _ _ _ _ at h
    unfold h_bin at h
    split at h
    · refine lv_ixor hx hb hd ?_
      have h9 := (hk _ _ _ _ _ h).at_ hW hS hl hL (ok_cons trivial (ok_tail (ok_tail hv)))
      simp only [List.map_cons, cv, jxor, I_toInt] at h9
      exact h9
    · exact h.elim
  | ishl =>
    obtain ⟨hd, rfl⟩ := cOK_spec he 1 rfl (by decide)
    intro H locs ls hW hS hl hL hv
    change h_bin _ _ _ _ _ _ _ at h
    unfold h_bin at h
    split at h
    · refine lv_ishl hx hb hd ?_
      have h9 := (hk _ _ _ _ _ h).at_ hW hS hl hL (ok_cons trivial (ok_tail (ok_tail hv)))
      simp only [List.map_cons, cv, jshl, I_toInt] at h9
      exact h9
    · exact h.elim
  | ishr =>
    obtain ⟨hd, rfl⟩ := cOK_spec he 1 rfl (by decide)
    intro H locs ls hW hS hl hL hv
    change h_bin _ _ _ _ _ _ _ at h
    unfold h_bin at h
    split at h
    · refine lv_ishr hx hb hd ?_
      have h9 := (hk _ _ _ _ _ h).at_ hW hS hl hL (ok_cons trivial (ok_tail (ok_tail hv)))
      simp only [List.map_cons, cv, jshr, I_toInt] at h9
      exact h9
    · exact h.elim
  | idiv =>
    obtain ⟨hd, rfl⟩ := cOK_spec he 1 rfl (by decide)
    intro H locs ls hW hS hl hL hv
    change h_div _ _ _ _ _ _ _ at h
    unfold h_div at h
    split at h
    · refine lv_idiv hx hb hd (fun q => h.1 ?_) ?_
      · have q2 := (I_eq _ 0).mp q
        exact q2
      · rw [← I_div]
        exact (hk _ _ _ _ _ h.2).at_ hW hS hl hL (ok_cons trivial (ok_tail (ok_tail hv)))
    · exact h.elim
  | irem =>
    obtain ⟨hd, rfl⟩ := cOK_spec he 1 rfl (by decide)
    intro H locs ls hW hS hl hL hv
    change h_div _ _ _ _ _ _ _ at h
    unfold h_div at h
    split at h
    · refine lv_irem hx hb hd (fun q => h.1 ?_) ?_
      · have q2 := (I_eq _ 0).mp q
        exact q2
      · rw [← I_rem]
        exact (hk _ _ _ _ _ h.2).at_ hW hS hl hL (ok_cons trivial (ok_tail (ok_tail hv)))
    · exact h.elim
  | ineg =>
    obtain ⟨hd, rfl⟩ := cOK_spec he 1 rfl (by decide)
    intro H locs ls hW hS hl hL hv
    change h_un _ _ _ _ _ _ _ at h
    unfold h_un at h
    split at h
    · refine lv_ineg hx hb hd ?_
      rw [← I_neg]
      exact (hk _ _ _ _ _ h).at_ hW hS hl hL (ok_cons trivial (ok_tail hv))
    · exact h.elim
  | ifCond cd off =>
    have ht : (pc : Int) + off = (sl : Int) := by
      unfold cOK at he
      simp only [Bool.and_eq_true, decide_eq_true_eq] at he
      exact he.2
    cases cd with
    | eq =>
      obtain ⟨hd, rfl⟩ := cOK_spec he 3 rfl (by decide)
      intro H locs ls hW hS hl hL hv
      replace h : h_if (pc + 3) sl L S mm o k (@Eq Int) := h
      unfold h_if at h
      split at h
      · next x S' =>
        have e0 := I_eq x 0
        rw [show wr 0 = 0 from rfl] at e0
        refine lv_if_eq hx hb hd ht (fun q => ?_) (fun q => ?_)
        · exact (hk _ _ _ _ _ (h.1 (e0.mp q))).at_ hW hS hl hL (ok_tail hv)
        · exact (hk _ _ _ _ _ (h.2 (fun z => q (e0.mpr z)))).at_ hW hS hl hL (ok_tail hv)
      · exact h.elim
    | ne =>
      obtain ⟨hd, rfl⟩ := cOK_spec he 3 rfl (by decide)
      intro H locs ls hW hS hl hL hv
      replace h : h_ifn (pc + 3) sl L S mm o k := h
      unfold h_ifn at h
      split at h
      · next x S' =>
        have e0 := I_eq x 0
        rw [show wr 0 = 0 from rfl] at e0
        refine lv_if_ne hx hb hd ht (fun q => ?_) (fun q => ?_)
        · exact (hk _ _ _ _ _ (h.1 (fun z => q (e0.mpr z)))).at_ hW hS hl hL (ok_tail hv)
        · exact (hk _ _ _ _ _ (h.2 (e0.mp q))).at_ hW hS hl hL (ok_tail hv)
      · exact h.elim
    | lt =>
      obtain ⟨hd, rfl⟩ := cOK_spec he 3 rfl (by decide)
      intro H locs ls hW hS hl hL hv
      replace h : h_if (pc + 3) sl L S mm o k (@LT.lt Int _) := h
      unfold h_if at h
      split at h
      · next x S' =>
        have e0 := I_lt x 0
        rw [show wr 0 = 0 from rfl] at e0
        refine lv_if_lt hx hb hd ht (fun q => ?_) (fun q => ?_)
        · exact (hk _ _ _ _ _ (h.1 (e0.mp q))).at_ hW hS hl hL (ok_tail hv)
        · exact (hk _ _ _ _ _ (h.2 (fun z => q (e0.mpr z)))).at_ hW hS hl hL (ok_tail hv)
      · exact h.elim
    | ge =>
      obtain ⟨hd, rfl⟩ := cOK_spec he 3 rfl (by decide)
      intro H locs ls hW hS hl hL hv
      replace h : h_ifr (pc + 3) sl L S mm o k (@LE.le Int _) := h
      unfold h_ifr at h
      split at h
      · next x S' =>
        have e0 := I_le 0 x
        rw [show wr 0 = 0 from rfl] at e0
        refine lv_if_ge hx hb hd ht (fun q => ?_) (fun q => ?_)
        · exact (hk _ _ _ _ _ (h.1 (e0.mp q))).at_ hW hS hl hL (ok_tail hv)
        · exact (hk _ _ _ _ _ (h.2 (fun z => q (e0.mpr z)))).at_ hW hS hl hL (ok_tail hv)
      · exact h.elim
    | gt =>
      obtain ⟨hd, rfl⟩ := cOK_spec he 3 rfl (by decide)
      intro H locs ls hW hS hl hL hv
      replace h : h_ifr (pc + 3) sl L S mm o k (@LT.lt Int _) := h
      unfold h_ifr at h
      split at h
      · next x S' =>
        have e0 := I_lt 0 x
        rw [show wr 0 = 0 from rfl] at e0
        refine lv_if_gt hx hb hd ht (fun q => ?_) (fun q => ?_)
        · exact (hk _ _ _ _ _ (h.1 (e0.mp q))).at_ hW hS hl hL (ok_tail hv)
        · exact (hk _ _ _ _ _ (h.2 (fun z => q (e0.mpr z)))).at_ hW hS hl hL (ok_tail hv)
      · exact h.elim
    | le =>
      obtain ⟨hd, rfl⟩ := cOK_spec he 3 rfl (by decide)
      intro H locs ls hW hS hl hL hv
      replace h : h_if (pc + 3) sl L S mm o k (@LE.le Int _) := h
      unfold h_if at h
      split at h
      · next x S' =>
        have e0 := I_le x 0
        rw [show wr 0 = 0 from rfl] at e0
        refine lv_if_le hx hb hd ht (fun q => ?_) (fun q => ?_)
        · exact (hk _ _ _ _ _ (h.1 (e0.mp q))).at_ hW hS hl hL (ok_tail hv)
        · exact (hk _ _ _ _ _ (h.2 (fun z => q (e0.mpr z)))).at_ hW hS hl hL (ok_tail hv)
      · exact h.elim
  | if_icmp cd off =>
    have ht : (pc : Int) + off = (sl : Int) := by
      unfold cOK at he
      simp only [Bool.and_eq_true, decide_eq_true_eq] at he
      exact he.2
    cases cd with
    | eq =>
      obtain ⟨hd, rfl⟩ := cOK_spec he 3 rfl (by decide)
      intro H locs ls hW hS hl hL hv
      replace h : h_icmp (pc + 3) sl L S mm o k (@Eq Int) := h
      unfold h_icmp at h
      split at h
      · next y x S' =>
        have e0 := I_eq x y
        refine lv_icmp_eq hx hb hd ht (fun q => ?_) (fun q => ?_)
        · exact (hk _ _ _ _ _ (h.1 (e0.mp q))).at_ hW hS hl hL (ok_tail (ok_tail hv))
        · exact (hk _ _ _ _ _ (h.2 (fun z => q (e0.mpr z)))).at_ hW hS hl hL (ok_tail (ok_tail hv))
      · exact h.elim
    | ne =>
      obtain ⟨hd, rfl⟩ := cOK_spec he 3 rfl (by decide)
      intro H locs ls hW hS hl hL hv
      replace h : h_icmpn (pc + 3) sl L S mm o k := h
      unfold h_icmpn at h
      split at h
      · next y x S' =>
        have e0 := I_eq x y
        refine lv_icmp_ne hx hb hd ht (fun q => ?_) (fun q => ?_)
        · exact (hk _ _ _ _ _ (h.1 (fun z => q (e0.mpr z)))).at_ hW hS hl hL (ok_tail (ok_tail hv))
        · exact (hk _ _ _ _ _ (h.2 (e0.mp q))).at_ hW hS hl hL (ok_tail (ok_tail hv))
      · exact h.elim
    | lt =>
      obtain ⟨hd, rfl⟩ := cOK_spec he 3 rfl (by decide)
      intro H locs ls hW hS hl hL hv
      replace h : h_icmp (pc + 3) sl L S mm o k (@LT.lt Int _) := h
      unfold h_icmp at h
      split at h
      · next y x S' =>
        have e0 := I_lt x y
        refine lv_icmp_lt hx hb hd ht (fun q => ?_) (fun q => ?_)
        · exact (hk _ _ _ _ _ (h.1 (e0.mp q))).at_ hW hS hl hL (ok_tail (ok_tail hv))
        · exact (hk _ _ _ _ _ (h.2 (fun z => q (e0.mpr z)))).at_ hW hS hl hL (ok_tail (ok_tail hv))
      · exact h.elim
    | ge =>
      obtain ⟨hd, rfl⟩ := cOK_spec he 3 rfl (by decide)
      intro H locs ls hW hS hl hL hv
      replace h : h_icmpr (pc + 3) sl L S mm o k (@LE.le Int _) := h
      unfold h_icmpr at h
      split at h
      · next y x S' =>
        have e0 := I_le y x
        refine lv_icmp_ge hx hb hd ht (fun q => ?_) (fun q => ?_)
        · exact (hk _ _ _ _ _ (h.1 (e0.mp q))).at_ hW hS hl hL (ok_tail (ok_tail hv))
        · exact (hk _ _ _ _ _ (h.2 (fun z => q (e0.mpr z)))).at_ hW hS hl hL (ok_tail (ok_tail hv))
      · exact h.elim
    | gt =>
      obtain ⟨hd, rfl⟩ := cOK_spec he 3 rfl (by decide)
      intro H locs ls hW hS hl hL hv
      replace h : h_icmpr (pc + 3) sl L S mm o k (@LT.lt Int _) := h
      unfold h_icmpr at h
      split at h
      · next y x S' =>
        have e0 := I_lt y x
        refine lv_icmp_gt hx hb hd ht (fun q => ?_) (fun q => ?_)
        · exact (hk _ _ _ _ _ (h.1 (e0.mp q))).at_ hW hS hl hL (ok_tail (ok_tail hv))
        · exact (hk _ _ _ _ _ (h.2 (fun z => q (e0.mpr z)))).at_ hW hS hl hL (ok_tail (ok_tail hv))
      · exact h.elim
    | le =>
      obtain ⟨hd, rfl⟩ := cOK_spec he 3 rfl (by decide)
      intro H locs ls hW hS hl hL hv
      replace h : h_icmp (pc + 3) sl L S mm o k (@LE.le Int _) := h
      unfold h_icmp at h
      split at h
      · next y x S' =>
        have e0 := I_le x y
        refine lv_icmp_le hx hb hd ht (fun q => ?_) (fun q => ?_)
        · exact (hk _ _ _ _ _ (h.1 (e0.mp q))).at_ hW hS hl hL (ok_tail (ok_tail hv))
        · exact (hk _ _ _ _ _ (h.2 (fun z => q (e0.mpr z)))).at_ hW hS hl hL (ok_tail (ok_tail hv))
      · exact h.elim
  | goto off =>
    have ht : (pc : Int) + off = (sl : Int) := by
      unfold cOK at he
      simp only [Bool.and_eq_true, decide_eq_true_eq] at he
      exact he.2
    obtain ⟨hd, rfl⟩ := cOK_spec he 3 rfl (by decide)
    intro H locs ls hW hS hl hL hv
    exact lv_goto hx hb hd ht ((hk _ _ _ _ _ h).at_ hW hS hl hL hv)
  | dup =>
    obtain ⟨hd, rfl⟩ := cOK_spec he 1 rfl (by decide)
    intro H locs ls hW hS hl hL hv
    change h_dup _ _ _ _ _ _ at h
    unfold h_dup at h
    split at h
    · exact lv_dup hx hb hd rfl ((hk _ _ _ _ _ h).at_ hW hS hl hL (ok_cons (ok_head hv) hv))
    · exact lv_dup hx hb hd rfl ((hk _ _ _ _ _ h).at_ hW hS hl hL (ok_cons (ok_head hv) hv))
    · exact h.elim
  | dup2 =>
    obtain ⟨hd, rfl⟩ := cOK_spec he 1 rfl (by decide)
    intro H locs ls hW hS hl hL hv
    change h_dup2 _ _ _ _ _ _ at h
    unfold h_dup2 at h
    split at h
    · exact lv_dup2_11 hx hb hd rfl rfl ((hk _ _ _ _ _ h).at_ hW hS hl hL (ok_cons (ok_head hv) (ok_cons (ok_head (ok_tail hv)) hv)))
    · exact h.elim
  | dup_x1 =>
    obtain ⟨hd, rfl⟩ := cOK_spec he 1 rfl (by decide)
    intro H locs ls hW hS hl hL hv
    change h_dupx1 _ _ _ _ _ _ at h
    unfold h_dupx1 at h
    split at h
    · exact lv_dup_x1 hx hb hd rfl rfl ((hk _ _ _ _ _ h).at_ hW hS hl hL (ok_cons (ok_head hv) (ok_cons (ok_head (ok_tail hv)) (ok_cons (ok_head hv) (ok_tail (ok_tail hv))))))
    · exact h.elim
  | pop =>
    obtain ⟨hd, rfl⟩ := cOK_spec he 1 rfl (by decide)
    intro H locs ls hW hS hl hL hv
    change h_pop _ _ _ _ _ _ at h
    unfold h_pop at h
    split at h
    · exact lv_pop hx hb hd rfl ((hk _ _ _ _ _ h).at_ hW hS hl hL (ok_tail hv))
    · exact lv_pop hx hb hd rfl ((hk _ _ _ _ _ h).at_ hW hS hl hL (ok_tail hv))
    · exact h.elim
  | i2l =>
    obtain ⟨hd, rfl⟩ := cOK_spec he 1 rfl (by decide)
    intro H locs ls hW hS hl hL hv
    change h_i2l _ _ _ _ _ _ at h
    unfold h_i2l at h
    split at h
    · exact lv_i2l hx hb hd rfl ((hk _ _ _ _ _ h).at_ hW hS hl hL (ok_cons trivial (ok_tail hv)))
    · exact h.elim
  | lcmp =>
    obtain ⟨hd, rfl⟩ := cOK_spec he 1 rfl (by decide)
    intro H locs ls hW hS hl hL hv
    change h_lcmp _ _ _ _ _ _ at h
    unfold h_lcmp at h
    split at h
    · refine W.lcmp hx hb hd ?_
      have h9 := (hk _ _ _ _ _ h).at_ hW hS hl hL (ok_cons trivial (ok_tail (ok_tail hv)))
      simp only [List.map_cons, cv, I_toInt] at h9
      exact h9
    · exact h.elim
  | ireturn =>
    obtain ⟨hd, rfl⟩ := cOK_spec he 1 rfl (by decide)
    intro H locs ls hW hS hl hL hv
    change h_ireturn _ _ _ _ _ at h
    unfold h_ireturn at h
    split at h
    · next z =>
      cases h1 : Nat.beq rt 1 with
      | true =>
        rw [h1] at h
        exact ((hF _ _ _ h) H locs pc ls hW hS (fun v q => by cases q; trivial)).2.1 z (Or.inl (Nat.eq_of_beq_eq_true h1)) rfl hd
      | false =>
        rw [h1] at h
        simp only [cond_false] at h
        cases h2 : Nat.beq rt 2 with
        | true =>
          rw [h2] at h
          exact ((hF _ _ _ h.2) H locs pc ls hW hS (fun v q => by cases q; trivial)).2.1 z (Or.inr ⟨Nat.eq_of_beq_eq_true h2, h.1⟩) rfl hd
        | false => rw [h2] at h; exact h.elim
    · exact h.elim
  | areturn =>
    obtain ⟨hd, rfl⟩ := cOK_spec he 1 rfl (by decide)
    intro H locs ls hW hS hl hL hv
    change h_areturn _ _ _ _ _ at h
    unfold h_areturn at h
    split at h
    · next q =>
      cases h1 : Nat.beq rt 3 with
      | true =>
        rw [h1] at h
        exact ((hF _ _ _ h) H locs pc ls hW hS (fun v y => by cases y; exact ok_head hv)).2.2 q (Nat.eq_of_beq_eq_true h1) rfl hd
      | false => rw [h1] at h; exact h.elim
    · exact h.elim
  | getfield idx =>
    have hf : fldOK own idx sl sj dc rc p1 p2 = true := by
      unfold cOK at he
      simp only [Bool.and_eq_true, decide_eq_true_eq] at he
      exact he.2
    obtain ⟨hd, rfl⟩ := cOK_spec he 3 rfl (by decide)
    intro H locs ls hW hS hl hL hv
    change h_get _ _ _ _ _ _ _ _ _ at h
    unfold h_get at h
    split at h
    · next a i S' =>
      cases hb2 : (Nat.beq (kt a) 1 && subc (kc a) dc) with
      | false => rw [hb2] at h; exact h.elim
      | true =>
        rw [hb2] at h
        simp only [cond_true] at h
        rw [Bool.and_eq_true] at hb2
        have ht := Nat.eq_of_beq_eq_true hb2.1
        have hV : V a i := ok_head hv
        refine x_get hC hV hW ht hb2.2 hf hd ?_
        obtain ⟨C, T, hc, -, -⟩ := cx_xc hC ht
        obtain ⟨ref, -, -, hsj, hsl⟩ := fld_words hC.2.2.2.2.1 hf
        split at h
        · next q hq =>
          have h9 := (hk _ _ _ _ _ h).at_ hW hS hl hL (ok_cons (v := .inr (.inr q)) (hcl.1 a i sl q hV ht (fd_eq hc hb2.2 hsl).1 hq) (ok_tail hv))
          unfold vo
          rw [hq]
          exact h9
        · next hq =>
          have h9 := (hk _ _ _ _ _ h).at_ hW hS hl hL (ok_cons trivial (ok_tail hv))
          unfold vo
          rw [hq, ← hsj, ← I_rd]
          exact h9
    · exact h.elim
  | putfield idx =>
    have hf0 : fldOK own idx sl sj dc rc p1 p2 = true ∧ (bif Nat.beq ty 1 then decide ((fdT dc sl).2.2.1 = "I" ∧ (fdT dc sl).2.2.2 = false) else bif Nat.beq ty 2 then decide ((fdT dc sl).2.2.1 = "Z" ∧ (fdT dc sl).2.2.2 = false) else true) = true := by
      unfold cOK at he
      simp only [Bool.and_eq_true] at he
      exact he.2
    obtain ⟨hf, hty⟩ := hf0
    obtain ⟨hd, rfl⟩ := cOK_spec he 3 rfl (by decide)
    intro H locs ls hW hS hl hL hv
    change h_put _ _ _ _ _ _ _ _ _ _ at h
    unfold h_put at h
    split at h
    · next v a i S' =>
      cases hb2 : (Nat.beq (kt a) 1 && subc (kc a) dc) with
      | false => rw [hb2] at h; exact h.elim
      | true =>
        rw [hb2] at h
        simp only [cond_true] at h
        rw [Bool.and_eq_true] at hb2
        have ht := Nat.eq_of_beq_eq_true hb2.1
        have hV : V a i := ok_head (ok_tail hv)
        split at h
        · exact h.elim
        · next hq =>
          cases h1 : Nat.beq ty 1 with
          | true =>
            rw [h1] at h hty
            simp only [cond_true, decide_eq_true_eq] at h hty
            have h2 := x_put (v := wr v) (ty := .int) (Q := Q) (cells := cells) (slots := slots) (ls := ls) (rest := S'.map (cv ad)) hC hV hW hS ht hb2.2 hq hf hty.2 (by rw [hty.1]; decide +kernel) rfl rfl hd (fun H1 locs1 hW1 hS1 => (hk _ _ _ _ _ h).at_ hW1 hS1 hl hL (ok_tail (ok_tail hv)))
            rw [I_wr] at h2
            exact h2
          | false =>
            rw [h1] at h hty
            simp only [cond_false] at h hty
            cases h2 : Nat.beq ty 2 with
            | true =>
              rw [h2] at h hty
              simp only [cond_true, decide_eq_true_eq] at h hty
              obtain ⟨hv01, h⟩ := h
              refine x_put (ty := .boolean) hC hV hW hS ht hb2.2 hq hf hty.2 (by rw [hty.1]; decide +kernel) ?_ ?_ hd (fun H1 locs1 hW1 hS1 => (hk _ _ _ _ _ h).at_ hW1 hS1 hl hL (ok_tail (ok_tail hv)))
              · rcases hv01 with rfl | rfl <;> decide +kernel
              · rcases hv01 with rfl | rfl <;> decide +kernel
            | false => rw [h2] at h; exact h.elim
    · exact h.elim
  | iaload =>
    obtain ⟨hd, rfl⟩ := cOK_spec he 1 rfl (by decide)
    intro H locs ls hW hS hl hL hv
    replace h : h_ald (pc + 1) L S mm o k 2 := h
    unfold h_ald at h
    split at h
    · next z a i S' =>
      cases h1 : Nat.beq (kt a) 2 with
      | false => rw [h1] at h; exact h.elim
      | true =>
        rw [h1] at h
        simp only [cond_true] at h
        have ht := Nat.eq_of_beq_eq_true h1
        obtain ⟨⟨hz0, hz1⟩, h⟩ := h
        have hc := cell23 (hW a i (ok_head (ok_tail hv))) (Or.inl ht)
        rw [ht] at hc
        refine W.iald (v := .int (I (rd mm a i z))) hx hb hc (cx_arr hC 0 rfl _ _) (fun q => by cases q) (in_arr hz0 hz1 (kn_lt a)) ?_ rfl rfl hd ((hk _ _ _ _ _ h).at_ hW hS hl hL (ok_cons trivial (ok_tail (ok_tail hv))))
        rw [rd_arr hz0 hz1 (kn_lt a), I_rd, I_cl hz0 hz1 (kn_lt a)]
    · exact h.elim
  | baload =>
    obtain ⟨hd, rfl⟩ := cOK_spec he 1 rfl (by decide)
    intro H locs ls hW hS hl hL hv
    replace h : h_ald (pc + 1) L S mm o k 3 := h
    unfold h_ald at h
    split at h
    · next z a i S' =>
      cases h1 : Nat.beq (kt a) 3 with
      | false => rw [h1] at h; exact h.elim
      | true =>
        rw [h1] at h
        simp only [cond_true] at h
        have ht := Nat.eq_of_beq_eq_true h1
        obtain ⟨⟨hz0, hz1⟩, h⟩ := h
        have hc := cell23 (hW a i (ok_head (ok_tail hv))) (Or.inr ht)
        rw [ht] at hc
        refine W.zald (v := .int (I (rd mm a i z))) hx hb hc (cx_arr hC 1 rfl _ _) (fun q => by cases q) (in_arr hz0 hz1 (kn_lt a)) ?_ rfl rfl hd ((hk _ _ _ _ _ h).at_ hW hS hl hL (ok_cons trivial (ok_tail (ok_tail hv))))
        rw [rd_arr hz0 hz1 (kn_lt a), I_rd, I_cl hz0 hz1 (kn_lt a)]
    · exact h.elim
  | laload =>
    obtain ⟨hd, rfl⟩ := cOK_spec he 1 rfl (by decide)
    intro H locs ls hW hS hl hL hv
    replace h : h_lald (pc + 1) L S mm o k := h
    unfold h_lald at h
    split at h
    · next z a i S' =>
      cases h1 : Nat.beq (kt a) 5 with
      | false => rw [h1] at h; exact h.elim
      | true =>
        rw [h1] at h
        simp only [cond_true] at h
        have ht := Nat.eq_of_beq_eq_true h1
        exact (kt5 ht).elim
    · exact h.elim
  | aaload =>
    obtain ⟨hd, rfl⟩ := cOK_spec he 1 rfl (by decide)
    intro H locs ls hW hS hl hL hv
    replace h : h_aald (pc + 1) L S mm o k := h
    unfold h_aald at h
    split at h
    · next z a i S' =>
      cases h1 : Nat.beq (kt a) 4 with
      | false => rw [h1] at h; exact h.elim
      | true =>
        rw [h1] at h
        simp only [cond_true] at h
        have ht := Nat.eq_of_beq_eq_true h1
        obtain ⟨⟨hz0, hz1⟩, h⟩ := h
        split at h
        · next q hq =>
          have hV : V a i := ok_head (ok_tail hv)
          have hc := cell4 (hW a i hV) ht
          obtain ⟨ty, t0, hty, hrf⟩ := ref_ty (D := D) ht
          refine W.aald (v := .ref (ad q.1 q.2)) (ty := ty) hx hb hc (cx_arr hC t0 hty _ _) hrf (fun q => by cases q) (in_arr hz0 hz1 (kn_lt a)) ?_ rfl rfl hd ((hk _ _ _ _ _ h).at_ hW hS hl hL (ok_cons (v := .inr (.inr q)) (hcl.2.1 a i z q hV ht hz0 hz1 hq) (ok_tail (ok_tail hv))))
          rw [rd_arr hz0 hz1 (kn_lt a), I_cl hz0 hz1 (kn_lt a), hq]
          rfl
        · exact h.elim
    · exact h.elim
  | iastore =>
    obtain ⟨hd, rfl⟩ := cOK_spec he 1 rfl (by decide)
    intro H locs ls hW hS hl hL hv
    replace h : h_iast (pc + 1) L S mm o k := h
    unfold h_iast at h
    split at h
    · next v z a i S' =>
      cases h1 : Nat.beq (kt a) 2 with
      | false => rw [h1] at h; exact h.elim
      | true =>
        rw [h1] at h
        simp only [cond_true] at h
        have ht := Nat.eq_of_beq_eq_true h1
        obtain ⟨⟨hz0, hz1⟩, h⟩ := h
        have hV : V a i := ok_head (ok_tail (ok_tail hv))
        have hc := cell23 (hW a i hV) (Or.inl ht)
        rw [ht] at hc
        refine W.iast hx hb hc (cx_arr hC 0 rfl _ _) (fun q => by cases q) (in_arr hz0 hz1 (kn_lt a)) rfl rfl hd fun H1 e1 z1 oq => ?_
        refine (hk _ _ _ _ _ h).at_ (wOK_st hC.2.2.2.2.2.2.2.2.1 hV hW oq ?_) (hS.put z1 oq (hC.2.2.2.2.2.2.1 a i hV (by rw [ht]; decide))) hl hL (ok_tail (ok_tail (ok_tail hv)))
        unfold cellOK
        rw [if_neg (by omega), if_neg (by omega), if_neg (by omega), if_pos (Or.inl ht), ht, e1, ← I_wr v, arr_upd hz0 hz1 (kn_lt a)]
    · exact h.elim
  | bastore =>
    obtain ⟨hd, rfl⟩ := cOK_spec he 1 rfl (by decide)
    intro H locs ls hW hS hl hL hv
    replace h : h_zast (pc + 1) L S mm o k := h
    unfold h_zast at h
    split at h
    · next v z a i S' =>
      cases h1 : Nat.beq (kt a) 3 with
      | false => rw [h1] at h; exact h.elim
      | true =>
        rw [h1] at h
        simp only [cond_true] at h
        have ht := Nat.eq_of_beq_eq_true h1
        obtain ⟨⟨hz0, hz1⟩, h⟩ := h
        have hV : V a i := ok_head (ok_tail (ok_tail hv))
        have hc := cell23 (hW a i hV) (Or.inr ht)
        rw [ht] at hc
        refine W.zast hx hb hc (cx_arr hC 1 rfl _ _) (fun q => by cases q) (in_arr hz0 hz1 (kn_lt a)) rfl rfl hd fun H1 e1 z1 oq => ?_
        refine (hk _ _ _ _ _ h).at_ (wOK_st hC.2.2.2.2.2.2.2.2.1 hV hW oq ?_) (hS.put z1 oq (hC.2.2.2.2.2.2.1 a i hV (by rw [ht]; decide))) hl hL (ok_tail (ok_tail (ok_tail hv)))
        unfold cellOK
        rw [if_neg (by omega), if_neg (by omega), if_neg (by omega), if_pos (Or.inr ht), ht, e1, nar_z, arr_upd hz0 hz1 (kn_lt a)]
    · exact h.elim
  | lastore =>
    obtain ⟨hd, rfl⟩ := cOK_spec he 1 rfl (by decide)
    intro H locs ls hW hS hl hL hv
    replace h : h_last (pc + 1) L S mm k := h
    unfold h_last at h
    split at h
    · next v z a i S' =>
      cases h1 : Nat.beq (kt a) 5 with
      | false => rw [h1] at h; exact h.elim
      | true =>
        rw [h1] at h
        simp only [cond_true] at h
        have ht := Nat.eq_of_beq_eq_true h1
        exact (kt5 ht).elim
    · exact h.elim
  | return_ =>
    obtain ⟨hd, rfl⟩ := cOK_spec he 1 rfl (by decide)
    intro H locs ls hW hS hl hL hv
    replace h : h_return rt S mm o F := h
    unfold h_return at h
    split at h
    · cases h1 : Nat.beq rt 0 with
      | true =>
        rw [h1] at h
        exact ((hF _ _ _ h) H locs pc ls hW hS (fun v y => by cases y)).1 (Nat.eq_of_beq_eq_true h1) rfl hd
      | false => rw [h1] at h; exact h.elim
    · exact h.elim
  | invokestatic idx =>
    replace h : h_math (pc := pc) nx dc L S mm o k K := h
    unfold h_math at h
    cases h0 : Nat.beq dc 0 with
    | true => rw [h0] at h; exact hK _ _ _ _ _ h
    | false =>
      rw [h0] at h
      simp only [cond_false] at h
      cases hl5 : Nat.ble S.length 5 with
      | false => rw [hl5] at h; exact h.elim
      | true =>
        rw [hl5] at h
        simp only [cond_true] at h
        have hw : lw_tbl[p1]? = some (.methodLink own idx (mthN dc)) ∧ goodWord (.methodLink own idx (mthN dc)) = true := by
          unfold cOK at he
          simp only [h0, cond_false, Bool.and_eq_true, decide_eq_true_eq] at he
          exact he.2
        obtain ⟨hd, rfl⟩ := cOK_spec he 3 rfl (by decide)
        have hts := hC.2.2.2.2.1
        have hlink := hts _ (uw p1 hw.1 hw.2)
        intro H locs ls hW hS hl hL hv
        have hsum : ∀ S' : List AV, S'.length ≤ 4 → ((S'.map (cv ad)).map fun v => v.category).sum + 13 ≤ R.locals := by
          intro S' hS'
          have h1 : ∀ S' : List AV, ((S'.map (cv ad)).map fun v => v.category).sum ≤ 2 * S'.length := by
            intro S'
            induction S' with
            | nil => exact Nat.le_refl _
            | cons v t ih =>
              simp only [List.map_cons, List.sum_cons, List.length_cons]
              have : (cv ad v).category ≤ 2 := by
                rcases lv_cat (cv ad v) with q | q <;> omega
              omega
          have h2 := h1 S'
          have h3 := hC.2.2.2.2.2.2.2.2.2.2.2.2
          omega
        have hfr := hC.2.2.2.2.2.2.2.2.2.2.2.1
        have hml : c.maxLocals = ls.size := hC.2.2.1.trans hl.1.symm
        have hlen := Nat.le_of_ble_eq_true hl5
        have hin : ∀ w : Cond, (w ∈ lw_tbl ∧ goodWord w = true) → w.before args s = true := fun w q => hts w (List.mem_filter.mpr q)
        cases h1 : Nat.beq dc 1 with
        | true =>
          rw [h1] at h
          have e1 := Nat.eq_of_beq_eq_true h1
          subst e1
          simp only [cond_true] at h
          unfold h_un at h
          split at h
          · next x S' =>
            refine va_mabs hx hb hml hC.2.2.2.1 hlink (hin _ math_w1) (hin _ math_w0) (hin _ math_w2) hfr (hsum _ (by simpa using hlen)) hRc.1 hRc.2 hd ?_
            rw [← I_abs]
            exact (hk _ _ _ _ _ h).at_ hW hS hl hL (ok_cons trivial (ok_tail hv))
          · exact h.elim
        | false =>
          rw [h1] at h
          simp only [cond_false] at h
          cases h2 : Nat.beq dc 2 with
          | true =>
            rw [h2] at h
            have e1 := Nat.eq_of_beq_eq_true h2
            subst e1
            simp only [cond_true] at h
            unfold h_bin at h
            split at h
            · next y x S' =>
              refine va_mmax hx hb hml hC.2.2.2.1 hlink (hin _ math_w3) (hin _ math_w0) (hin _ math_w4) hfr (hsum _ (by simp at hlen; omega)) hRc.1 hRc.2 hd ?_
              rw [← I_max]
              exact (hk _ _ _ _ _ h).at_ hW hS hl hL (ok_cons trivial (ok_tail (ok_tail hv)))
            · exact h.elim
          | false =>
            rw [h2] at h
            simp only [cond_false] at h
            unfold h_bin at h
            have hmin : mthN dc = Lib.Math.min.name := by unfold mthN; rw [h1, h2]; rfl
            rw [hmin] at hlink
            split at h
            · next y x S' =>
              refine va_mmin hx hb hml hC.2.2.2.1 hlink (hin _ math_w5) (hin _ math_w0) (hin _ math_w6) hfr (hsum _ (by simp at hlen; omega)) hRc.1 hRc.2 hd ?_
              rw [← I_min]
              exact (hk _ _ _ _ _ h).at_ hW hS hl hL (ok_cons trivial (ok_tail (ok_tail hv)))
            · exact h.elim
  | _ => exact hK _ _ _ _ _ h
/-- a run of steps -/
theorem wp_ok (hC : Cx V own cc nL p R s m args meth c D ad A) (hRc : cells ≤ R.cells ∧ slots ≤ R.slots) {C : CT} (hcode : C.all (cOK own cc) = true) {rt : Nat} {stops : List Nat} {K : KT} {F : FT}
    (hK : ∀ pc L S mm o, K pc L S mm o → Wx p l e R s m args below meth c cells slots Q V D ad A nL pc L S mm o)
    (hF : ∀ r mm o, F r mm o → rOK p l e R s m args below meth c cells slots Q V D ad A cc rt r mm o) :
    ∀ (n pc : Nat) (L : List (Nat × AV)) (S : List AV) (mm : Mm) (o : Int64), wp C rt nL stops K F n pc L S mm o → Wx p l e R s m args below meth c cells slots Q V D ad A nL pc L S mm o := by
  intro n
  induction n with
  | zero => exact hK
  | succ n ih =>
    intro pc L S mm o h
    unfold wp at h
    split at h
    · exact hK _ _ _ _ _ h
    · next i nx sl sj dc ty z hg =>
      obtain ⟨rc, p1, p2⟩ := z
      have he := List.all_eq_true.mp hcode _ (cget_mem hg)
      refine stp_ok hC hRc he (fun pc' L' S' mm' o' h' => ?_) hK hF h
      cases hm : memb stops pc' with
      | true => rw [hm] at h'; exact hK _ _ _ _ _ h'
      | false => rw [hm] at h'; exact ih _ _ _ _ _ h'
end CTX
