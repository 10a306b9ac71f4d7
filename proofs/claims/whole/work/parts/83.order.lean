/-! ===== orders and sets: the arithmetic of bestOrder ===== -/
theorem fup_spc (P : Int → Prop) : ∀ (n : Nat) (c : Int), (fup P n c = -1 ∧ ∀ z, c ≤ z → z < c + n → ¬ P z) ∨ ((c ≤ fup P n c ∧ fup P n c < c + n) ∧ P (fup P n c) ∧ ∀ z, c ≤ z → z < fup P n c → ¬ P z)
  | 0, c => Or.inl ⟨rfl, fun z z0 z1 => by omega⟩
  | n + 1, c => by
    unfold fup
    by_cases q : P c
    · rw [pif_t q]; exact Or.inr ⟨by omega, q, fun z z0 z1 => by omega⟩
    · rw [pif_f q]
      rcases fup_spc P n (c + 1) with ⟨h1, h2⟩ | ⟨h1, h2, h3⟩
      · refine Or.inl ⟨h1, fun z z0 z1 hz => ?_⟩
        by_cases e : z = c
        · rw [e] at hz; exact q hz
        · exact h2 z (by omega) (by omega) hz
      · refine Or.inr ⟨by omega, h2, fun z z0 z1 hz => ?_⟩
        by_cases e : z = c
        · rw [e] at hz; exact q hz
        · exact h3 z (by omega) z1 hz
/-- the first slot of 24 from u on -/
noncomputable def fsF (P : Int → Int → Prop) (j u : Int) : Int := fup (P j) (24 - u).toNat u
theorem fsF_spec (P : Int → Int → Prop) (j u : Int) : (fsF P j u = -1 ∧ ∀ z, u ≤ z → z < 24 → ¬ P j z) ∨ ((u ≤ fsF P j u ∧ fsF P j u < 24) ∧ P j (fsF P j u) ∧ ∀ z, u ≤ z → z < fsF P j u → ¬ P j z) := by
  rcases fup_spc (P j) (24 - u).toNat u with ⟨h1, h2⟩ | ⟨h1, h2, h3⟩
  · exact Or.inl ⟨h1, fun z z0 z1 => h2 z z0 (by omega)⟩
  · right
    refine ⟨?_, h2, h3⟩
    unfold fsF
    omega
theorem fsF_mono (P : Int → Int → Prop) (j : Int) {u u' : Int} (h : u ≤ u') (u0 : 0 ≤ u) (hf : ¬ fsF P j u' = -1) : ¬ fsF P j u = -1 ∧ fsF P j u ≤ fsF P j u' := by
  rcases fsF_spec P j u' with ⟨h1, -⟩ | ⟨h1, h2, h3⟩
  · exact absurd h1 hf
  · rcases fsF_spec P j u with ⟨g1, g2⟩ | ⟨g1, g2, g3⟩
    · exact absurd h2 (g2 _ (by omega) (by omega))
    · refine ⟨by omega, ?_⟩
      rcases Int.lt_or_le (fsF P j u') (fsF P j u) with c | c
      · exact absurd h2 (g3 _ (by omega) c)
      · exact c
/-- a run through an order -/
noncomputable def runL (P : Int → Int → Prop) (L : Int → Int) : List Int → Int → Int
  | [], t => t
  | j :: l, t => pif (fsF P j t = -1) (-1) (runL P L l (fsF P j t + L j))
def sumL (L : Int → Int) : List Int → Int
  | [] => 0
  | j :: l => L j + sumL L l
theorem sumL_app (L : Int → Int) (l : List Int) (j : Int) : sumL L (l ++ [j]) = sumL L l + L j := by
  induction l with
  | nil => show L j + 0 = 0 + L j; omega
  | cons x l ih => show L x + sumL L (l ++ [j]) = L x + sumL L l + L j; rw [ih]; omega
theorem runL_app (P : Int → Int → Prop) (L : Int → Int) (hL : ∀ j, 0 ≤ L j) (j : Int) : ∀ (l : List Int) (t : Int), 0 ≤ t → runL P L (l ++ [j]) t = pif (runL P L l t = -1) (-1) (pif (fsF P j (runL P L l t) = -1) (-1) (fsF P j (runL P L l t) + L j))
  | [], t, t0 => by
    show pif (fsF P j t = -1) (-1) (fsF P j t + L j) = pif (t = -1) (-1) (pif (fsF P j t = -1) (-1) (fsF P j t + L j))
    rw [pif_f (p := t = -1) (by omega)]
  | x :: l, t, t0 => by
    show pif (fsF P x t = -1) (-1) (runL P L (l ++ [j]) (fsF P x t + L x)) = _
    by_cases q : fsF P x t = -1
    · rw [pif_t q]
      have : runL P L (x :: l) t = -1 := pif_t q
      rw [this, pif_t rfl]
    · have e : runL P L (x :: l) t = runL P L l (fsF P x t + L x) := pif_f q
      rw [pif_f q, e]
      have := hL x
      refine runL_app P L hL j l _ ?_
      rcases fsF_spec P x t with ⟨h1, -⟩ | ⟨h1, -⟩
      · exact absurd h1 q
      · omega
theorem runL_r (P : Int → Int → Prop) (L : Int → Int) (hL : ∀ j, 0 ≤ L j) : ∀ (l : List Int) (t : Int), 0 ≤ t → runL P L l t = -1 ∨ t ≤ runL P L l t
  | [], t, _ => Or.inr (Int.le_refl _)
  | x :: l, t, t0 => by
    show pif (fsF P x t = -1) (-1) (runL P L l (fsF P x t + L x)) = -1 ∨ t ≤ pif (fsF P x t = -1) (-1) (runL P L l (fsF P x t + L x))
    by_cases q : fsF P x t = -1
    · rw [pif_t q]; exact Or.inl rfl
    · rw [pif_f q]
      have := hL x
      rcases fsF_spec P x t with ⟨h1, -⟩ | ⟨h1, -⟩
      · exact absurd h1 q
      · rcases runL_r P L hL l (fsF P x t + L x) (by omega) with h | h
        · exact Or.inl h
        · right; omega
/-- an order of some of the first k -/
def okL (k : Int) (l : List Int) : Prop := l.Nodup ∧ ∀ x ∈ l, 0 ≤ x ∧ x < k
/-- the set s is that of the order l -/
def isM (s : Int) (l : List Int) : Prop := ∀ j, 0 ≤ j → j < 5 → (tb s j = true ↔ j ∈ l)
theorem okL_app {k : Int} {l : List Int} {j : Int} (h : okL k l) (j0 : 0 ≤ j) (j1 : j < k) (hj : j ∉ l) : okL k (l ++ [j]) := by
  refine ⟨List.nodup_append.mpr ⟨h.1, by simp, fun x hx y hy => ?_⟩, fun x hx => ?_⟩
  · rw [List.mem_singleton.mp hy]; exact fun e => hj (e ▸ hx)
  · rcases List.mem_append.mp hx with hx | hx
    · exact h.2 x hx
    · rw [List.mem_singleton.mp hx]; exact ⟨j0, j1⟩
theorem okL_init {k : Int} {l : List Int} {j : Int} (h : okL k (l ++ [j])) : okL k l ∧ (0 ≤ j ∧ j < k) ∧ j ∉ l := by
  obtain ⟨h1, h2⟩ := h
  have h3 := List.nodup_append.mp h1
  exact ⟨⟨h3.1, fun x hx => h2 x (List.mem_append_left _ hx)⟩, h2 j (List.mem_append_right _ (List.mem_singleton.mpr rfl)), fun hj => h3.2.2 j hj j (List.mem_singleton.mpr rfl) rfl⟩
theorem tb_xor (x y i : Int) : tb (jxor x y) i = (tb x i ^^ tb y i) := by
  unfold tb jxor
  rw [I_toI]
  unfold bt
  rw [Int32.toBitVec_xor, BitVec.getLsbD_xor]
theorem tb_flip {s i j : Int} (i0 : 0 ≤ i) (i1 : i < 5) (j0 : 0 ≤ j) (j1 : j < 5) : tb (jxor s (jshl 1 i)) j = (tb s j ^^ decide (j = i)) := by
  rw [tb_xor, tb_shl j0 (by omega) i0 (by omega)]
theorem xor_n : ∀ s : Fin 32, ∀ i : Fin 5, (¬ jand (s.val : Int) (jshl 1 (i.val : Int)) = 0 → 0 ≤ jxor (s.val : Int) (jshl 1 (i.val : Int)) ∧ jxor (s.val : Int) (jshl 1 (i.val : Int)) < (s.val : Int)) := by decide +kernel
theorem xor_r {s i : Int} (s0 : 0 ≤ s) (s1 : s < 32) (i0 : 0 ≤ i) (i1 : i < 5) (h : ¬ jand s (jshl 1 i) = 0) : 0 ≤ jxor s (jshl 1 i) ∧ jxor s (jshl 1 i) < s := by
  have := xor_n ⟨s.toNat, by omega⟩ ⟨i.toNat, by omega⟩
  rw [show (((⟨s.toNat, by omega⟩ : Fin 32).val : Nat) : Int) = s by show ((s.toNat : Nat) : Int) = s; omega, show (((⟨i.toNat, by omega⟩ : Fin 5).val : Nat) : Int) = i by show ((i.toNat : Nat) : Int) = i; omega] at this
  exact this h
theorem isM_init {s i : Int} {l : List Int} (i0 : 0 ≤ i) (i1 : i < 5) (h : isM s (l ++ [i])) (hi : i ∉ l) : isM (jxor s (jshl 1 i)) l ∧ ¬ jand s (jshl 1 i) = 0 := by
  have hin : tb s i = true := (h i i0 i1).mpr (List.mem_append_right _ (List.mem_singleton.mpr rfl))
  refine ⟨fun j j0 j1 => ?_, fun c => ?_⟩
  · rw [tb_flip i0 i1 j0 j1]
    have hj := h j j0 j1
    by_cases e : j = i
    · rw [decide_eq_true e, e, hin]
      exact ⟨fun c => absurd c (by decide), fun c => absurd c hi⟩
    · rw [decide_eq_false e, Bool.xor_false, hj, List.mem_append, List.mem_singleton]
      exact ⟨fun c => c.resolve_right e, fun c => Or.inl c⟩
  · rw [and_shl i0 (by omega), hin] at c
    exact absurd c (by decide)
theorem isM_app {s i : Int} {l : List Int} (i0 : 0 ≤ i) (i1 : i < 5) (h : isM (jxor s (jshl 1 i)) l) (hs : ¬ jand s (jshl 1 i) = 0) : isM s (l ++ [i]) ∧ i ∉ l := by
  have hin : tb s i = true := by
    rw [and_shl i0 (by omega)] at hs
    cases c : tb s i with
    | true => rfl
    | false => exact absurd c hs
  refine ⟨fun j j0 j1 => ?_, fun c => ?_⟩
  · have hj := h j j0 j1
    rw [tb_flip i0 i1 j0 j1] at hj
    by_cases e : j = i
    · rw [e, hin]; exact ⟨fun _ => List.mem_append_right _ (List.mem_singleton.mpr rfl), fun _ => rfl⟩
    · rw [decide_eq_false e, Bool.xor_false] at hj
      rw [hj, List.mem_append, List.mem_singleton]
      exact ⟨fun c => Or.inl c, fun c => c.resolve_right e⟩
  · have := (h i i0 i1).mpr c
    rw [tb_flip i0 i1 i0 i1, hin, decide_eq_true rfl] at this
    exact absurd this (by decide)
/-- lists by their last -/
theorem snoc_cases (l : List Int) : l = [] ∨ ∃ l' j, l = l' ++ [j] := by
  rcases List.eq_nil_or_concat l with h | ⟨l', j, h⟩
  · exact Or.inl h
  · exact Or.inr ⟨l', j, by rw [h, List.concat_eq_append]⟩
/-- the sum of a set's lengths -/
def smF (L : Int → Int) (s : Int) : Nat → Int → Int → Int
  | 0, _, z => z
  | q + 1, j, z => smF L s q (j + 1) (if jand s (jshl 1 j) = 0 then z else z + L j)
theorem smF_add (L : Int → Int) (s : Int) : ∀ (q : Nat) (j z y : Int), smF L s q j (z + y) = smF L s q j z + y
  | 0, _, _, _ => rfl
  | q + 1, j, z, y => by
    show smF L s q (j + 1) (if jand s (jshl 1 j) = 0 then z + y else z + y + L j) = smF L s q (j + 1) (if jand s (jshl 1 j) = 0 then z else z + L j) + y
    by_cases e : jand s (jshl 1 j) = 0
    · rw [if_pos e, if_pos e]; exact smF_add L s q (j + 1) z y
    · rw [if_neg e, if_neg e, show z + y + L j = z + L j + y by omega]; exact smF_add L s q (j + 1) (z + L j) y
theorem smF_same (L : Int → Int) (s s' : Int) : ∀ (q : Nat) (j z : Int), (∀ i, j ≤ i → i < j + q → (jand s (jshl 1 i) = 0 ↔ jand s' (jshl 1 i) = 0)) → smF L s q j z = smF L s' q j z
  | 0, _, _, _ => rfl
  | q + 1, j, z, h => by
    show smF L s q (j + 1) (if jand s (jshl 1 j) = 0 then z else z + L j) = smF L s' q (j + 1) (if jand s' (jshl 1 j) = 0 then z else z + L j)
    have h0 := h j (by omega) (by omega)
    have hr := fun z => smF_same L s s' q (j + 1) z (fun i i0 i1 => h i (by omega) (by omega))
    by_cases e : jand s (jshl 1 j) = 0
    · rw [if_pos e, if_pos (h0.mp e)]; exact hr z
    · rw [if_neg e, if_neg (fun c => e (h0.mpr c))]; exact hr _
theorem smF_flip (L : Int → Int) {s i : Int} (i0 : 0 ≤ i) (i1 : i < 5) (hs : ¬ jand s (jshl 1 i) = 0) : ∀ (q : Nat) (j z : Int), 0 ≤ j → j ≤ i → i < j + q → j + q ≤ 5 → smF L s q j z = smF L (jxor s (jshl 1 i)) q j z + L i
  | 0, j, z, _, h1, h2, _ => by omega
  | q + 1, j, z, j0, h1, h2, h3 => by
    show smF L s q (j + 1) (if jand s (jshl 1 j) = 0 then z else z + L j) = smF L (jxor s (jshl 1 i)) q (j + 1) (if jand (jxor s (jshl 1 i)) (jshl 1 j) = 0 then z else z + L j) + L i
    have hb : ∀ y, 0 ≤ y → y < 5 → y ≠ i → (jand s (jshl 1 y) = 0 ↔ jand (jxor s (jshl 1 i)) (jshl 1 y) = 0) := fun y y0 y1 hy => by
      rw [and_shl y0 (by omega), and_shl y0 (by omega), tb_flip i0 i1 y0 y1, decide_eq_false hy, Bool.xor_false]
    by_cases e : j = i
    · subst e
      have h4 : jand (jxor s (jshl 1 j)) (jshl 1 j) = 0 := by
        rw [and_shl i0 (by omega), tb_flip i0 i1 i0 i1, decide_eq_true rfl]
        rw [and_shl i0 (by omega)] at hs
        cases c : tb s j with
        | true => rfl
        | false => exact absurd c hs
      rw [if_neg hs, if_pos h4, smF_add, smF_same L s (jxor s (jshl 1 j)) q (j + 1) z (fun y y0 y1 => hb y (by omega) (by omega) (by omega))]
    · have hr := fun z => smF_flip L i0 i1 hs q (j + 1) z (by omega) (by omega) (by omega) (by omega)
      by_cases c : jand s (jshl 1 j) = 0
      · rw [if_pos c, if_pos ((hb j j0 (by omega) e).mp c)]; exact hr z
      · rw [if_neg c, if_neg (fun x => c ((hb j j0 (by omega) e).mpr x))]; exact hr _
theorem smF_0 (L : Int → Int) {s : Int} : ∀ (q : Nat) (j z : Int), (∀ i, j ≤ i → i < j + q → jand s (jshl 1 i) = 0) → smF L s q j z = z
  | 0, _, _, _ => rfl
  | q + 1, j, z, h => by
    show smF L s q (j + 1) (if jand s (jshl 1 j) = 0 then z else z + L j) = z
    rw [if_pos (h j (by omega) (by omega))]
    exact smF_0 L q (j + 1) z (fun i i0 i1 => h i (by omega) (by omega))
theorem sum_set (L : Int → Int) {k : Int} (k1 : k ≤ 5) : ∀ (n : Nat) (l : List Int) (s : Int), l.length = n → okL k l → isM s l → sumL L l = smF L s k.toNat 0 0
  | 0, l, s, hl, _, hM => by
    rw [List.length_eq_zero_iff.mp hl] at hM ⊢
    symm
    refine smF_0 L _ 0 0 (fun i i0 i1 => ?_)
    rw [and_shl i0 (by omega)]
    cases c : tb s i with
    | false => rfl
    | true => exact absurd ((hM i i0 (by omega)).mp c) List.not_mem_nil
  | n + 1, l, s, hl, hok, hM => by
    rcases snoc_cases l with rfl | ⟨l', j, rfl⟩
    · cases hl
    · obtain ⟨h1, ⟨j0, j1⟩, h3⟩ := okL_init hok
      obtain ⟨g1, g2⟩ := isM_init j0 (by omega) hM h3
      rw [sumL_app, sum_set L k1 n l' _ (by rw [List.length_append] at hl; simpa using hl) h1 g1]
      exact (smF_flip L j0 (by omega) g2 k.toNat 0 0 (by decide) j0 (by omega) (by omega)).symm
