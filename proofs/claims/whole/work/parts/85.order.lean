/-! ===== the class's best order is the best of all orders ===== -/
def BEST (P : Int → Int → Prop) (L : Int → Int) (k R : Int) : Prop := (R = 0 ∨ ∃ l, okL k l ∧ ¬ runL P L l 0 = -1 ∧ sumL L l = R) ∧ 0 ≤ R ∧ ∀ l, okL k l → ¬ runL P L l 0 = -1 → sumL L l ≤ R
theorem BEST_one {P : Int → Int → Prop} {L : Int → Int} {k R V : Int} (h : BEST P L k R) (h2 : BEST P L k V) : R = V := by
  obtain ⟨a1, a2, a3⟩ := h
  obtain ⟨b1, b2, b3⟩ := h2
  have x : R ≤ V := by
    rcases a1 with e | ⟨l, l1, l2, l3⟩
    · omega
    · have := b3 l l1 l2; omega
  have y : V ≤ R := by
    rcases b1 with e | ⟨l, l1, l2, l3⟩
    · omega
    · have := a3 l l1 l2; omega
  omega
theorem msk_x : ∀ k : Fin 6, ∀ s : Fin 32, (∀ j : Fin 5, tb (s.val : Int) (j.val : Int) = true → j.val < k.val) → (s.val : Int) < jshl 1 (k.val : Int) := by decide +kernel
theorem or_r : ∀ s : Fin 32, ∀ i : Fin 5, 0 ≤ jor (s.val : Int) (jshl 1 (i.val : Int)) ∧ jor (s.val : Int) (jshl 1 (i.val : Int)) < 32 := by decide +kernel
theorem isM_ex {k : Int} (k1 : k ≤ 5) : ∀ (n : Nat) (l : List Int), l.length = n → okL k l → ∃ s, isM s l ∧ 0 ≤ s ∧ s < 32
  | 0, l, hl, _ => by
    rw [List.length_eq_zero_iff.mp hl]
    exact ⟨0, fun j j0 j1 => by rw [tb_0]; exact ⟨fun c => absurd c (by decide), fun c => absurd c List.not_mem_nil⟩, by decide, by decide⟩
  | n + 1, l, hl, hok => by
    rcases snoc_cases l with rfl | ⟨l', i, rfl⟩
    · cases hl
    · obtain ⟨o1, ⟨i0, i1⟩, o3⟩ := okL_init hok
      obtain ⟨s, s1, s2, s3⟩ := isM_ex k1 n l' (by rw [List.length_append] at hl; simpa using hl) o1
      refine ⟨jor s (jshl 1 i), fun j j0 j1 => ?_, ?_⟩
      · rw [tb_or, tb_shl j0 (by omega) i0 (by omega), List.mem_append, List.mem_singleton, ← s1 j j0 j1]
        cases tb s j <;> simp
      · have := or_r ⟨s.toNat, by omega⟩ ⟨i.toNat, by omega⟩
        rw [show (((⟨s.toNat, by omega⟩ : Fin 32).val : Nat) : Int) = s by show ((s.toNat : Nat) : Int) = s; omega, show (((⟨i.toNat, by omega⟩ : Fin 5).val : Nat) : Int) = i by show ((i.toNat : Nat) : Int) = i; omega] at this
        exact this
theorem isM_lt {k s : Int} {l : List Int} (k0 : 0 ≤ k) (k1 : k ≤ 5) (hok : okL k l) (hM : isM s l) (s0 : 0 ≤ s) (s1 : s < 32) : s < jshl 1 k := by
  have h := msk_x ⟨k.toNat, by omega⟩ ⟨s.toNat, by omega⟩
  have e1 : (((⟨k.toNat, by omega⟩ : Fin 6).val : Nat) : Int) = k := by show ((k.toNat : Nat) : Int) = k; omega
  have e2 : (((⟨s.toNat, by omega⟩ : Fin 32).val : Nat) : Int) = s := by show ((s.toNat : Nat) : Int) = s; omega
  rw [e1, e2] at h
  refine h (fun j hj => ?_)
  have := (hM (j.val : Int) (by omega) (by have := j.isLt; omega)).mp hj
  have := (hok.2 _ this).2
  show (j.val : Nat) < k.toNat
  omega
theorem mfL_eq (m : Mm) (L : Int → Int) (s : Int) : ∀ (q : Nat) (j z : Int), (∀ i, j ≤ i → i < j + q → mfV m i = L i) → mfL m s q j z = smF L s q j z
  | 0, _, _, _ => rfl
  | q + 1, j, z, h => by
    show mfL m s q (j + 1) (pif (jand s (jshl 1 j) = 0) z (z + mfV m j)) = smF L s q (j + 1) (if jand s (jshl 1 j) = 0 then z else z + L j)
    by_cases e : jand s (jshl 1 j) = 0
    · rw [pif_t e, if_pos e]; exact mfL_eq m L s q (j + 1) z (fun i i0 i1 => h i (by omega) (by omega))
    · rw [pif_f e, if_neg e, h j (by omega) (by omega)]; exact mfL_eq m L s q (j + 1) _ (fun i i0 i1 => h i (by omega) (by omega))
theorem mfE_eq {P : Int → Int → Prop} {L : Int → Int} {m : Mm} {a n s k : Int} (hG : ∀ j, 0 ≤ j → j < k → mfV m j = L j ∧ ∀ u, 0 ≤ u → u ≤ 24 → fbC m (rd m 3 0 j) a n u = fsF P j u) (hE : ∀ j, 0 ≤ j → j < k → ¬ jand s (jshl 1 j) = 0 → rd m 4 0 (jxor s (jshl 1 j)) = -1 ∨ (0 ≤ rd m 4 0 (jxor s (jshl 1 j)) ∧ rd m 4 0 (jxor s (jshl 1 j)) ≤ 24)) : ∀ (q : Nat) (j e : Int), 0 ≤ j → j + q ≤ k → mfE m a n s q j e = mnC (fun j => ¬ jand s (jshl 1 j) = 0 ∧ ¬ rd m 4 0 (jxor s (jshl 1 j)) = -1 ∧ ¬ fsF P j (rd m 4 0 (jxor s (jshl 1 j))) = -1) (fun j => fsF P j (rd m 4 0 (jxor s (jshl 1 j))) + L j) q j e
  | 0, _, _, _, _ => rfl
  | q + 1, j, e, j0, hq => by
    show mfE m a n s q (j + 1) (pif (jand s (jshl 1 j) = 0) e (pif (¬ mfB m a n s j = -1 ∧ (e = -1 ∨ mfB m a n s j + mfV m j < e)) (mfB m a n s j + mfV m j) e)) = mnC _ _ q (j + 1) _
    obtain ⟨g1, g2⟩ := hG j j0 (by omega)
    by_cases c : jand s (jshl 1 j) = 0
    · rw [pif_t c, pif_f (fun x => x.1.1 c)]
      exact mfE_eq hG hE q (j + 1) e (by omega) (by omega)
    · rw [pif_f c]
      have h9 := hE j j0 (by omega) c
      have eB : mfB m a n s j = pif (rd m 4 0 (jxor s (jshl 1 j)) = -1) (-1) (fsF P j (rd m 4 0 (jxor s (jshl 1 j)))) := by
        unfold mfB
        by_cases c2 : rd m 4 0 (jxor s (jshl 1 j)) = -1
        · rw [pif_t c2, pif_t c2]
        · rw [pif_f c2, pif_f c2, g2 _ (by omega) (by omega)]
      rw [eB, g1]
      by_cases c2 : rd m 4 0 (jxor s (jshl 1 j)) = -1
      · rw [pif_t c2, pif_f (fun x => x.1 rfl), pif_f (fun x => x.1.2.1 c2)]
        exact mfE_eq hG hE q (j + 1) e (by omega) (by omega)
      · rw [pif_f c2]
        by_cases c3 : ¬ fsF P j (rd m 4 0 (jxor s (jshl 1 j))) = -1 ∧ (e = -1 ∨ fsF P j (rd m 4 0 (jxor s (jshl 1 j))) + L j < e)
        · rw [pif_t c3, pif_t ⟨⟨c, c2, c3.1⟩, c3.2⟩]
          exact mfE_eq hG hE q (j + 1) _ (by omega) (by omega)
        · rw [pif_f c3, pif_f (fun x => c3 ⟨x.1.2.2, x.2⟩)]
          exact mfE_eq hG hE q (j + 1) e (by omega) (by omega)
theorem any_n : ∀ k : Fin 6, ∀ s : Fin 32, (1 ≤ s.val ∧ (s.val : Int) < jshl 1 (k.val : Int)) → ∃ i : Fin 5, i.val < k.val ∧ ¬ jand (s.val : Int) (jshl 1 (i.val : Int)) = 0 := by decide +kernel
theorem any_b {k s : Int} (k0 : 0 ≤ k) (k1 : k ≤ 5) (s0 : 1 ≤ s) (s1 : s < 32) (h : s < jshl 1 k) : ∃ i, 0 ≤ i ∧ i < k ∧ ¬ jand s (jshl 1 i) = 0 := by
  have h9 := any_n ⟨k.toNat, by omega⟩ ⟨s.toNat, by omega⟩
  have e1 : (((⟨k.toNat, by omega⟩ : Fin 6).val : Nat) : Int) = k := by show ((k.toNat : Nat) : Int) = k; omega
  have e2 : (((⟨s.toNat, by omega⟩ : Fin 32).val : Nat) : Int) = s := by show ((s.toNat : Nat) : Int) = s; omega
  rw [e1, e2] at h9
  obtain ⟨i, i1, i2⟩ := h9 ⟨by show 1 ≤ s.toNat; omega, h⟩
  exact ⟨(i.val : Int), by omega, by replace i1 : i.val < k.toNat := i1; omega, i2⟩
theorem shq_n : ∀ k : Fin 6, 1 ≤ jshl 1 (k.val : Int) ∧ jshl 1 (k.val : Int) ≤ 32 := by decide +kernel
theorem shq_r {k : Int} (k0 : 0 ≤ k) (k1 : k ≤ 5) : 1 ≤ jshl 1 k ∧ jshl 1 k ≤ 32 := by
  have h := shq_n ⟨k.toNat, by omega⟩
  rwa [show (((⟨k.toNat, by omega⟩ : Fin 6).val : Nat) : Int) = k by show ((k.toNat : Nat) : Int) = k; omega] at h
/-- the walk over all sets -/
theorem mfR_best {P : Int → Int → Prop} {L : Int → Int} {m0 : Mm} {a n k : Int} (k0 : 0 ≤ k) (k1 : k ≤ 5) (hL : ∀ j, 0 ≤ L j) (hP : ∀ j v, P j v → v + L j ≤ 24) (hG : ∀ m, (∀ (k : Nat) i j, k ≠ 4 → rd m k i j = rd m0 k i j) → ∀ j, 0 ≤ j → j < k → mfV m j = L j ∧ ∀ u, 0 ≤ u → u ≤ 24 → fbC m (rd m 3 0 j) a n u = fsF P j u) : ∀ (q : Nat) (s : Int) (m : Mm) (r : Int), 1 ≤ s → s + q = jshl 1 k → (∀ (k : Nat) i j, k ≠ 4 → rd m k i j = rd m0 k i j) → (∀ z, 0 ≤ z → z < s → endOK P L k z (rd m 4 0 z)) →
    ((r = 0 ∨ ∃ l, okL k l ∧ ¬ runL P L l 0 = -1 ∧ sumL L l = r) ∧ 0 ≤ r ∧ ∀ l z, okL k l → isM z l → 0 ≤ z → z < s → ¬ runL P L l 0 = -1 → sumL L l ≤ r) → BEST P L k (mfR a n k q s m r)
  | 0, s, m, r, s0, hs, hm, hE, hr => by
    refine ⟨hr.1, hr.2.1, fun l hok hl => ?_⟩
    obtain ⟨z, z1, z2, z3⟩ := isM_ex k1 l.length l rfl hok
    exact hr.2.2 l z hok z1 z2 (by have := isM_lt k0 k1 hok z1 z2 z3; omega) hl
  | q + 1, s, m, r, s0, hs, hm, hE, hr => by
    have h32 := shq_r k0 k1
    have hG9 := hG m hm
    have hE9 : ∀ j, 0 ≤ j → j < k → ¬ jand s (jshl 1 j) = 0 → rd m 4 0 (jxor s (jshl 1 j)) = -1 ∨ (0 ≤ rd m 4 0 (jxor s (jshl 1 j)) ∧ rd m 4 0 (jxor s (jshl 1 j)) ≤ 24) := fun j j0 j1 hj => by
      have := xor_r (by omega) (by omega) j0 (by omega) hj
      exact (hE _ this.1 this.2).1
    have eE := mfE_eq hG9 hE9 k.toNat 0 (-1) (by decide) (by omega)
    have hne := any_b k0 k1 s0 (by omega) (by omega)
    have hEnd := end_step (E := fun z => rd m 4 0 z) k0 k1 s0 (by omega) hL hP hE hne
    show BEST P L k (mfR a n k q (s + 1) (st m 4 0 s (wr (mfE m a n s k.toNat 0 (-1)))) (pif (¬ mfE m a n s k.toNat 0 (-1) = -1 ∧ r < mfL m s k.toNat 0 0) (mfL m s k.toNat 0 0) r))
    rw [← eE] at hEnd
    obtain ⟨e, he⟩ : ∃ e, mfE m a n s k.toNat 0 (-1) = e := ⟨_, rfl⟩
    rw [he] at hEnd ⊢
    have eL : mfL m s k.toNat 0 0 = smF L s k.toNat 0 0 := mfL_eq m L s _ _ _ (fun i i0 i1 => (hG9 i i0 (by omega)).1)
    rw [eL]
    have hwe : wr e = e := by
      have := hEnd.1
      exact wr_of (by omega) (by omega)
    refine mfR_best k0 k1 hL hP hG q (s + 1) _ _ (by omega) (by omega) (fun k9 i j hk => (rd_st_ne hk).trans (hm k9 i j hk)) (fun z z0 z1 => ?_) ?_
    · rw [rd_st]
      by_cases ez : z = s
      · rw [if_pos ⟨rfl, rfl, ez⟩, wr_wr, hwe, ez]; exact hEnd
      · rw [if_neg (fun c => ez c.2.2)]; exact hE z z0 (by omega)
    · obtain ⟨r1, r2, r3⟩ := hr
      have hset : ∀ l, okL k l → isM s l → sumL L l = smF L s k.toNat 0 0 := fun l hok hM => sum_set L k1 l.length l s rfl hok hM
      by_cases c : ¬ e = -1 ∧ r < smF L s k.toNat 0 0
      · rw [pif_t c]
        obtain ⟨l, l1, l2, l3⟩ := hEnd.2.1 c.1
        refine ⟨Or.inr ⟨l, l1, by rw [l3]; exact c.1, hset l l1 l2⟩, by omega, fun l' z hok hM z0 z1 hrun => ?_⟩
        by_cases ez : z = s
        · rw [ez] at hM; rw [hset l' hok hM]; exact Int.le_refl _
        · have := r3 l' z hok hM z0 (by omega) hrun; omega
      · rw [pif_f c]
        refine ⟨r1, r2, fun l' z hok hM z0 z1 hrun => ?_⟩
        by_cases ez : z = s
        · rw [ez] at hM
          rw [hset l' hok hM]
          have := (hEnd.2.2 l' hok hM hrun).1
          rcases Int.lt_or_le r (smF L s k.toNat 0 0) with x | x
          · exact absurd ⟨this, x⟩ c
          · exact x
        · exact r3 l' z hok hM z0 (by omega) hrun
