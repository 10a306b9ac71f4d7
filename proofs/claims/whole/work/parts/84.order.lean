/-! ===== the class's walk over sets finds the best of all orders ===== -/
def endOK (P : Int → Int → Prop) (L : Int → Int) (k s e : Int) : Prop := (e = -1 ∨ (0 ≤ e ∧ e ≤ 24)) ∧ (¬ e = -1 → ∃ l, okL k l ∧ isM s l ∧ runL P L l 0 = e) ∧ (∀ l, okL k l → isM s l → ¬ runL P L l 0 = -1 → ¬ e = -1 ∧ e ≤ runL P L l 0)
theorem endOK_0 (P : Int → Int → Prop) (L : Int → Int) (k : Int) (k1 : k ≤ 5) : endOK P L k 0 0 := by
  refine ⟨Or.inr ⟨by decide, by decide⟩, fun _ => ⟨[], ⟨List.nodup_nil, fun x hx => absurd hx List.not_mem_nil⟩, fun j j0 j1 => ?_, rfl⟩, fun l hok hM hr => ?_⟩
  · rw [tb_0]; exact ⟨fun c => absurd c (by decide), fun c => absurd c List.not_mem_nil⟩
  · cases l with
    | nil => exact ⟨by decide, Int.le_refl _⟩
    | cons x l =>
      have hx := hok.2 x List.mem_cons_self
      have := (hM x hx.1 (by omega)).mpr List.mem_cons_self
      rw [tb_0] at this
      exact absurd this (by decide)
/-- the smallest of the candidates -/
noncomputable def mnC (C : Int → Prop) (W : Int → Int) : Nat → Int → Int → Int
  | 0, _, e => e
  | q + 1, j, e => mnC C W q (j + 1) (pif (C j ∧ (e = -1 ∨ W j < e)) (W j) e)
theorem mnC_spec (C : Int → Prop) (W : Int → Int) (hW : ∀ j, C j → 0 ≤ W j) : ∀ (q : Nat) (j e : Int), (mnC C W q j e = -1 → e = -1 ∧ ∀ i, j ≤ i → i < j + q → ¬ C i) ∧ (¬ mnC C W q j e = -1 → mnC C W q j e = e ∨ ∃ i, j ≤ i ∧ i < j + q ∧ C i ∧ mnC C W q j e = W i) ∧ (¬ e = -1 → ¬ mnC C W q j e = -1 ∧ mnC C W q j e ≤ e) ∧ (∀ i, j ≤ i → i < j + q → C i → ¬ mnC C W q j e = -1 ∧ mnC C W q j e ≤ W i)
  | 0, j, e => ⟨fun h => ⟨h, fun i i0 i1 => by omega⟩, fun _ => Or.inl rfl, fun h => ⟨h, Int.le_refl _⟩, fun i i0 i1 => by omega⟩
  | q + 1, j, e => by
    show ((mnC C W q (j + 1) (pif (C j ∧ (e = -1 ∨ W j < e)) (W j) e)) = -1 → e = -1 ∧ ∀ i, j ≤ i → i < j + (q + 1 : Nat) → ¬ C i) ∧ (¬ mnC C W q (j + 1) (pif (C j ∧ (e = -1 ∨ W j < e)) (W j) e) = -1 → mnC C W q (j + 1) (pif (C j ∧ (e = -1 ∨ W j < e)) (W j) e) = e ∨ ∃ i, j ≤ i ∧ i < j + (q + 1 : Nat) ∧ C i ∧ mnC C W q (j + 1) (pif (C j ∧ (e = -1 ∨ W j < e)) (W j) e) = W i) ∧ (¬ e = -1 → ¬ mnC C W q (j + 1) (pif (C j ∧ (e = -1 ∨ W j < e)) (W j) e) = -1 ∧ mnC C W q (j + 1) (pif (C j ∧ (e = -1 ∨ W j < e)) (W j) e) ≤ e) ∧ (∀ i, j ≤ i → i < j + (q + 1 : Nat) → C i → ¬ mnC C W q (j + 1) (pif (C j ∧ (e = -1 ∨ W j < e)) (W j) e) = -1 ∧ mnC C W q (j + 1) (pif (C j ∧ (e = -1 ∨ W j < e)) (W j) e) ≤ W i)
    by_cases c : C j ∧ (e = -1 ∨ W j < e)
    · rw [pif_t c]
      obtain ⟨h1, h2, h3, h4⟩ := mnC_spec C W hW q (j + 1) (W j)
      have hj := hW j c.1
      obtain ⟨g1, g2⟩ := h3 (by omega)
      refine ⟨fun h => absurd h g1, fun _ => Or.inr ?_, fun he => ⟨g1, by rcases c.2 with x | x <;> omega⟩, fun i i0 i1 hi => ?_⟩
      · rcases h2 g1 with x | ⟨i, i0, i1, i2, i3⟩
        · exact ⟨j, Int.le_refl _, by omega, c.1, x⟩
        · exact ⟨i, by omega, by omega, i2, i3⟩
      · by_cases e' : i = j
        · rw [e']; exact ⟨g1, g2⟩
        · exact h4 i (by omega) (by omega) hi
    · rw [pif_f c]
      obtain ⟨h1, h2, h3, h4⟩ := mnC_spec C W hW q (j + 1) e
      refine ⟨fun h => ⟨(h1 h).1, fun i i0 i1 hi => ?_⟩, fun h => ?_, h3, fun i i0 i1 hi => ?_⟩
      · by_cases e' : i = j
        · rw [e'] at hi; exact c ⟨hi, Or.inl (h1 h).1⟩
        · exact (h1 h).2 i (by omega) (by omega) hi
      · rcases h2 h with x | ⟨i, i0, i1, i2, i3⟩
        · exact Or.inl x
        · exact Or.inr ⟨i, by omega, by omega, i2, i3⟩
      · by_cases e' : i = j
        · rw [e'] at hi ⊢
          have he : ¬ e = -1 ∧ e ≤ W j := by
            refine ⟨fun x => c ⟨hi, Or.inl x⟩, ?_⟩
            rcases Int.lt_or_le (W j) e with x | x
            · exact absurd ⟨hi, Or.inr x⟩ c
            · exact x
          have := h3 he.1
          exact ⟨this.1, by omega⟩
        · exact h4 i (by omega) (by omega) hi
/-- one set's earliest end -/
theorem end_step {P : Int → Int → Prop} {L : Int → Int} {k s : Int} {E : Int → Int} (k0 : 0 ≤ k) (k1 : k ≤ 5) (s0 : 1 ≤ s) (s1 : s < 32) (hL : ∀ j, 0 ≤ L j) (hP : ∀ j v, P j v → v + L j ≤ 24) (hE : ∀ z, 0 ≤ z → z < s → endOK P L k z (E z)) (hne : ∃ i, 0 ≤ i ∧ i < k ∧ ¬ jand s (jshl 1 i) = 0) :
    endOK P L k s (mnC (fun j => ¬ jand s (jshl 1 j) = 0 ∧ ¬ E (jxor s (jshl 1 j)) = -1 ∧ ¬ fsF P j (E (jxor s (jshl 1 j))) = -1) (fun j => fsF P j (E (jxor s (jshl 1 j))) + L j) k.toNat 0 (-1)) := by
  have hx : ∀ j, 0 ≤ j → j < k → ¬ jand s (jshl 1 j) = 0 → endOK P L k (jxor s (jshl 1 j)) (E (jxor s (jshl 1 j))) := fun j j0 j1 hj => by
    have := xor_r (by omega) s1 j0 (by omega) hj
    exact hE _ this.1 this.2
  have hW : ∀ j, (¬ jand s (jshl 1 j) = 0 ∧ ¬ E (jxor s (jshl 1 j)) = -1 ∧ ¬ fsF P j (E (jxor s (jshl 1 j))) = -1) → 0 ≤ fsF P j (E (jxor s (jshl 1 j))) + L j ∨ ¬ (0 ≤ j ∧ j < k) := fun j hc => by
    by_cases hj : 0 ≤ j ∧ j < k
    · left
      have h9 := (hx j hj.1 hj.2 hc.1).1
      have := hL j
      rcases fsF_spec P j (E (jxor s (jshl 1 j))) with ⟨x, -⟩ | ⟨x, -⟩
      · exact absurd x hc.2.2
      · omega
    · exact Or.inr hj
  -- candidates of the first k alone
  have cong : ∀ (q : Nat) (j e : Int), 0 ≤ j → j + q ≤ k → mnC (fun j => ¬ jand s (jshl 1 j) = 0 ∧ ¬ E (jxor s (jshl 1 j)) = -1 ∧ ¬ fsF P j (E (jxor s (jshl 1 j))) = -1) (fun j => fsF P j (E (jxor s (jshl 1 j))) + L j) q j e = mnC (fun j => (0 ≤ j ∧ j < k) ∧ ¬ jand s (jshl 1 j) = 0 ∧ ¬ E (jxor s (jshl 1 j)) = -1 ∧ ¬ fsF P j (E (jxor s (jshl 1 j))) = -1) (fun j => fsF P j (E (jxor s (jshl 1 j))) + L j) q j e := by
    intro q
    induction q with
    | zero => intro j e _ _; rfl
    | succ q ih =>
      intro j e j0 hq
      show mnC _ _ q (j + 1) _ = mnC _ _ q (j + 1) _
      by_cases c : (¬ jand s (jshl 1 j) = 0 ∧ ¬ E (jxor s (jshl 1 j)) = -1 ∧ ¬ fsF P j (E (jxor s (jshl 1 j))) = -1) ∧ (e = -1 ∨ fsF P j (E (jxor s (jshl 1 j))) + L j < e)
      · rw [pif_t c, pif_t ⟨⟨⟨j0, by omega⟩, c.1⟩, c.2⟩]; exact ih _ _ (by omega) (by omega)
      · rw [pif_f c, pif_f (fun x => c ⟨x.1.2, x.2⟩)]; exact ih _ _ (by omega) (by omega)
  rw [cong k.toNat 0 (-1) (by decide) (by omega)]
  obtain ⟨h1, h2, -, h4⟩ := mnC_spec (fun j => (0 ≤ j ∧ j < k) ∧ ¬ jand s (jshl 1 j) = 0 ∧ ¬ E (jxor s (jshl 1 j)) = -1 ∧ ¬ fsF P j (E (jxor s (jshl 1 j))) = -1) (fun j => fsF P j (E (jxor s (jshl 1 j))) + L j) (fun j hc => by
    rcases hW j hc.2 with x | x
    · exact x
    · exact absurd hc.1 x) k.toNat 0 (-1)
  generalize mnC (fun j => (0 ≤ j ∧ j < k) ∧ ¬ jand s (jshl 1 j) = 0 ∧ ¬ E (jxor s (jshl 1 j)) = -1 ∧ ¬ fsF P j (E (jxor s (jshl 1 j))) = -1) (fun j => fsF P j (E (jxor s (jshl 1 j))) + L j) k.toNat 0 (-1) = R at h1 h2 h4 ⊢
  have hget : ¬ R = -1 → ∃ i, (0 ≤ i ∧ i < k) ∧ (¬ jand s (jshl 1 i) = 0 ∧ ¬ E (jxor s (jshl 1 i)) = -1 ∧ ¬ fsF P i (E (jxor s (jshl 1 i))) = -1) ∧ R = fsF P i (E (jxor s (jshl 1 i))) + L i := fun hr => by
    rcases h2 hr with x | ⟨i, i0, i1, i2, i3⟩
    · exact absurd x hr
    · exact ⟨i, i2.1, i2.2, i3⟩
  refine ⟨?_, fun hr => ?_, fun l hok hM hr => ?_⟩
  · by_cases hr : R = -1
    · exact Or.inl hr
    · obtain ⟨i, ik, ⟨c1, c2, c3⟩, e⟩ := hget hr
      right
      have := hL i
      rcases fsF_spec P i (E (jxor s (jshl 1 i))) with ⟨x, -⟩ | ⟨x, x2, -⟩
      · exact absurd x c3
      · have := hP i _ x2
        have h9 := (hx i ik.1 ik.2 c1).1
        omega
  · obtain ⟨i, ik, ⟨c1, c2, c3⟩, e⟩ := hget hr
    obtain ⟨-, g2, -⟩ := hx i ik.1 ik.2 c1
    obtain ⟨l, l1, l2, l3⟩ := g2 c2
    obtain ⟨m1, m2⟩ := isM_app ik.1 (by omega) l2 c1
    refine ⟨l ++ [i], okL_app l1 ik.1 ik.2 m2, m1, ?_⟩
    rw [runL_app P L hL i l 0 (by decide), l3, pif_f c2, pif_f c3, e]
  · rcases snoc_cases l with rfl | ⟨l', j, rfl⟩
    · obtain ⟨i, i0, i1, i2⟩ := hne
      rw [and_shl i0 (by omega)] at i2
      exfalso
      cases c : tb s i with
      | false => exact i2 c
      | true => exact absurd ((hM i i0 (by omega)).mp c) List.not_mem_nil
    · obtain ⟨o1, ⟨j0, j1⟩, o3⟩ := okL_init hok
      obtain ⟨g1, g2⟩ := isM_init j0 (by omega) hM o3
      rw [runL_app P L hL j l' 0 (by decide)] at hr ⊢
      have hr1 : ¬ runL P L l' 0 = -1 := fun x => hr (pif_t x)
      rw [pif_f hr1] at hr ⊢
      have hr2 : ¬ fsF P j (runL P L l' 0) = -1 := fun x => hr (pif_t x)
      rw [pif_f hr2]
      obtain ⟨q1, -, q3⟩ := hx j j0 j1 g2
      obtain ⟨y1, y2⟩ := q3 l' o1 g1 hr1
      obtain ⟨z1, z2⟩ := fsF_mono P j y2 (by omega) hr2
      have := h4 j j0 (by omega) ⟨⟨j0, j1⟩, g2, y1, z1⟩
      exact ⟨this.1, by have := this.2; omega⟩
