/-! ===== System.arraycopy of a whole row of ints ===== -/
def cpM (mm : Mm) (k : Nat) (i i' : Int) : Mm := fun a b z => if a = k ∧ b = i' then mm k i z else mm a b z
theorem rd_cpM (mm : Mm) (k : Nat) (i i' : Int) (a : Nat) (b z : Int) : rd (cpM mm k i i') a b z = if a = k ∧ b = i' then rd mm k i z else rd mm a b z := by
  unfold rd cpM; split <;> rfl
section CTX
variable {p : Program} {l : Launch} {e : Env} {R : Room} {s : State} {m : MethodId} {args : Array Value} {below : List Frame} {meth : Method} {c : Code} {Q : State → Prop} {V : Nat → Int → Prop} {D : DD} {ad : Nat → Int → Nat} {A : Nat → Prop} {nL : Nat} {own : String} {cc : ByteArray}
theorem Wx.copy {k : Nat} {i i' n : Int} {mm : Mm} {o : Int64} {pc idx : Nat} {L : List (Nat × AV)} (hC : Cx V own cc nL p R s m args meth c D ad A) (hlink : Cond.methodLink own idx arraycopyName ∈ UW) (hlo : nativeFrameWords "java/lang/System" "arraycopy" 5 + 11 ≤ R.locals) (hd : decode cc pc = .ok (.invokestatic idx, 3)) (hk : kt k = 2) (hn : n = (kn k : Int))
    (kk : Wx p l e R s m args below meth c 0 0 Q V D ad A nL (pc + 3) L [] (cpM mm k i i') o) : Wx p l e R s m args below meth c 0 0 Q V D ad A nL pc L [xi n, xi 0, xr k i', xi 0, xr k i] mm o := by
  intro H locs ls hW hS hl hL hv
  have hts := hC.2.2.2.2.1
  have hV : V k i := hv (xr k i) (by simp)
  have hV' : V k i' := hv (xr k i') (by simp)
  have hc0 := cell23 (hW k i hV) (Or.inl hk)
  have hc1 := cell23 (hW k i' hV') (Or.inl hk)
  rw [hk] at hc0 hc1
  have hml : c.maxLocals = ls.size := hC.2.2.1.trans hl.1.symm
  have hkn := kn_lt k
  have hncl : (I n).toNatClampNeg = kn k := by
    have h9 := I_cl (z := n) (n := kn k + 1) (by omega) (by omega)
    by_cases hlt : kn k + 1 < 2147483648
    · have := h9 hlt; omega
    · have q : ∀ k, k < 102 → kn k < 10000 := by decide +kernel
      have := q k (kt_lt hk (by decide))
      omega
  have hn0 : ¬ I n < 0 := by
    rw [← I_0, I_lt, show wr 0 = 0 from rfl, wr_of (by omega) (by omega)]
    omega
  intro T hT X
  obtain ⟨-, k0, hk0, cm0, hkk0⟩ := cx_arr hC 0 rfl (kn k) (fun z => .int (I (mm k i z)))
  obtain ⟨-, k1, hk1, cm1, hkk1⟩ := cx_arr hC 0 rfl (kn k) (fun z => .int (I (mm k i' z)))
  have hnI : (I n).toInt = (kn k : Int) := by rw [toInt_I, wr_of (by omega) (by omega), hn]
  have hlink9 : (Cond.methodLink own idx arraycopyName).before args s = true := hts _ hlink
  obtain ⟨vm', X', step⟩ := X.arraycopy hC.1 hC.2.2.2.1 hlink9 (hts _ (List.mem_filter.mpr (by decide +kernel))) (hts _ (List.mem_filter.mpr (by decide +kernel))) (hts _ (List.mem_filter.mpr (by decide +kernel))) (src := ad k i) (dst := ad k i') (cs := arrV (D.2.2 2) (kn k) (fun z => .int (I (mm k i z)))) (cd := arrV (D.2.2 2) (kn k) (fun z => .int (I (mm k i' z)))) (srcPos := I 0) (destPos := I 0) (n := I n) (by rw [hT]; exact hc0) (by rw [hT]; exact hc1)
    (fun _ h => by cases h) (fun _ h => by cases h) (fun h => by cases h) (fun h => by cases h) hk0 hk1 hkk0 hkk1 (by simp [refKind]) (by decide) (by decide) hn0
    (by rw [arrV_size, hnI]; show ¬ ((0 : Int) + _ > _); omega)
    (by rw [arrV_size, hnI]; show ¬ ((0 : Int) + _ > _); omega)
    (fun vm₁ _ j hj => by
      rw [hncl] at hj
      have e0 : (I 0).toNatClampNeg = 0 := rfl
      have e : (arrV (D.2.2 2) (kn k) (fun z => Value.int (I (mm k i z)))).slots.getD ((I 0).toNatClampNeg + j) .null = .int (I (mm k i (((I 0).toNatClampNeg + j : Nat) : Int))) := by
        rw [Array.getD_eq_getD_getElem?, arrV_read _ _ (by omega)]
        rfl
      refine ⟨?_, ?_⟩
      · rw [e]; rfl
      · rw [e]; exact trivial)
    (g := F0 m pc ls [.int (I n), .int (I 0), .ref (ad k i'), .int (I 0), .ref (ad k i)]) rfl (by rw [hml]) (rest := []) rfl (by rw [hC.2.1]; exact hd) hC.2.2.2.2.2.2.2.2.2.2.2.1 (by show 2 * 0 + 0 + _ ≤ _; omega)
  have e1 : copied (arrV (D.2.2 2) (kn k) (fun z => .int (I (mm k i z)))) (arrV (D.2.2 2) (kn k) (fun z => .int (I (mm k i' z)))) (I 0) (I 0) (I n) = arrV (D.2.2 2) (kn k) (fun z => .int (I (mm k i z))) := by
    have h9 := va_copied (fun z : Int32 => Value.int z) (D.2.2 2) (D.2.2 2) (n0 := kn k) (n1 := kn k) (sp := (I 0).toNatClampNeg) (dp := (I 0).toNatClampNeg) (n := (I n).toNatClampNeg) (fun z => I (mm k i z)) (fun z => I (mm k i' z)) (by rw [hncl]; show 0 + _ ≤ _; omega)
    refine h9.trans ?_
    rw [hncl]
    unfold arrV
    congr 2
    funext j
    have e0 : (I 0).toNatClampNeg = 0 := rfl
    have hj := j.isLt
    unfold va_cpy
    simp only [e0]
    rw [if_pos ⟨Nat.zero_le _, by omega⟩]
    simp
  rw [e1] at X' step
  have hl1 : ad k i' < H.size := (Array.getElem?_eq_some_iff.mp hc1).1
  have hheap : ((T.setVm vm').setCell (ad k i') (arrV (D.2.2 2) (kn k) (fun z => .int (I (mm k i z))))).heap = H.setIfInBounds (ad k i') (arrV (D.2.2 2) (kn k) (fun z => .int (I (mm k i z)))) := by rw [← hT]; rfl
  have oq : ∀ q : Nat, q ≠ ad k i' → (H.setIfInBounds (ad k i') (arrV (D.2.2 2) (kn k) (fun z => Value.int (I (mm k i z)))))[q]? = H[q]? := fun q hq => by simp [Array.getElem?_setIfInBounds, Ne.symm hq]
  have hA := hC.2.2.2.2.2.2.1 k i' hV' (by rw [hk]; decide)
  have hW1 : wOK V D ad (cpM mm k i i') o (H.setIfInBounds (ad k i') (arrV (D.2.2 2) (kn k) (fun z => Value.int (I (mm k i z))))) := by
    intro a b hab
    by_cases he : a = k ∧ b = i'
    · obtain ⟨rfl, rfl⟩ := he
      unfold cellOK
      rw [if_neg (by omega), if_neg (by omega), if_neg (by omega), if_pos (Or.inl hk), hk]
      rw [show (H.setIfInBounds (ad a b) (arrV (D.2.2 2) (kn a) (fun z => Value.int (I (mm a i z)))))[ad a b]? = some (arrV (D.2.2 2) (kn a) (fun z => Value.int (I (mm a i z)))) by simp [Array.getElem?_setIfInBounds, hl1]]
      congr 2
      funext z
      unfold cpM
      rw [if_pos ⟨rfl, rfl⟩]
    · refine cell_keep (hW a b hab) (oq _ (fun h => he (hC.2.2.2.2.2.2.2.2.1 _ _ _ _ hab hV' h))) (fun j => ?_) (fun _ => rfl)
      unfold cpM
      rw [if_neg he]
  obtain ⟨t, a1, b1⟩ := kk _ _ ls hW1 ⟨by simp; exact hS.1, fun q g1 g2 => by
      rw [oq q (fun e => g2 (by rw [e]; exact hA))]
      exact hS.2.1 q g1 g2, fun q hq => by
      rcases List.mem_append.mp hq with h | h
      · exact hS.2.2 q h
      · obtain ⟨z, -, hz⟩ := List.mem_map.mp h
        rw [← hz]
        exact hA⟩ hl hL (fun v h => by cases h) _ hheap X'
  exact ⟨t, step t a1, b1⟩
end CTX
theorem link_copy : Cond.methodLink RX3 28 arraycopyName ∈ UW := List.mem_filter.mpr (by decide +kernel)
