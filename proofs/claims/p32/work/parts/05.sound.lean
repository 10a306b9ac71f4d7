/-! ===== a run of steps is a run of the machine ===== -/
theorem kt_lt {k t : Nat} (h : kt k = t) (h0 : t ≠ 0) : k < 102 := by
  rcases Nat.lt_or_ge k 102 with q | q
  · exact q
  · exfalso
    apply h0
    rw [← h]
    show ktL.getD k 0 = 0
    rw [List.getD_eq_getElem?_getD, List.getElem?_eq_none (by exact q)]; rfl
theorem xc_tab : ∀ k, k < 102 → kt k = 1 → (xCl[kc k]?.map fun q => q.2.2) = some (kn k) := by decide +kernel
theorem xc_ok {k : Nat} (h : kt k = 1) : ∃ (C : String) (T : u_T), xCl[kc k]? = some (C, T, kn k) := by
  have h1 := xc_tab k (kt_lt h (by decide)) h
  obtain ⟨q, h2, h3⟩ := Option.map_eq_some_iff.mp h1
  obtain ⟨C, T, N⟩ := q
  exact ⟨C, T, by rw [h2]; cases h3; rfl⟩
theorem kc_tab : ∀ k, k < 102 → kt k = 1 → kc k < 11 := by decide +kernel
theorem fd_eq {c dc s : Nat} {C : String} {T : u_T} {N : Nat} (hc : xCl[c]? = some (C, T, N)) (h : subc c dc = true) (hs : s < fdN dc) : s < N ∧ fdT dc s = T s := by
  have hgD : xCl.getD c ("", fun _ => ("", "", "", false), 0) = (C, T, N) := by rw [List.getD_eq_getElem?_getD, hc]; rfl
  unfold subc at h
  rcases Bool.or_eq_true _ _ ▸ h with h | h
  · have e := Nat.eq_of_beq_eq_true h
    subst e
    cases h11 : Nat.beq c 11 with
    | true =>
      have := Nat.eq_of_beq_eq_true h11
      subst this
      cases hc
    | false =>
      unfold fdN at hs; unfold fdT
      rw [h11] at hs ⊢
      simp only [cond_false] at hs ⊢
      rw [hgD] at hs ⊢
      exact ⟨hs, rfl⟩
  · rw [Bool.and_eq_true] at h
    have e := Nat.eq_of_beq_eq_true h.1
    subst e
    have hs9 : s < 9 := hs
    rcases Bool.or_eq_true _ _ ▸ h.2 with h2 | h2
    · have e := Nat.eq_of_beq_eq_true h2
      subst e
      cases hc
      refine ⟨by omega, rfl⟩
    · have e := Nat.eq_of_beq_eq_true h2
      subst e
      cases hc
      refine ⟨by omega, ?_⟩
      have hh : ∀ j, j < 9 → TX1 j = TX8 j := by decide +kernel
      exact hh s hs9
theorem u_in1 : ∀ w ∈ u_ws RX1 TX1 12, w ∈ UW := fun w h => by
  have h1 : ∀ w ∈ u_ws RX1 TX1 12, w ∈ lw_tbl ∧ goodWord w = true := by decide +kernel
  exact List.mem_filter.mpr (h1 w h)
theorem u_in2 : ∀ w ∈ u_ws RX2 TX2 2, w ∈ UW := fun w h => by
  have h1 : ∀ w ∈ u_ws RX2 TX2 2, w ∈ lw_tbl ∧ goodWord w = true := by decide +kernel
  exact List.mem_filter.mpr (h1 w h)
theorem u_in3 : ∀ w ∈ u_ws RX3 TX3 5, w ∈ UW := fun w h => by
  have h1 : ∀ w ∈ u_ws RX3 TX3 5, w ∈ lw_tbl ∧ goodWord w = true := by decide +kernel
  exact List.mem_filter.mpr (h1 w h)
theorem u_in4 : ∀ w ∈ u_ws RX4 TX4 10, w ∈ UW := fun w h => by
  have h1 : ∀ w ∈ u_ws RX4 TX4 10, w ∈ lw_tbl ∧ goodWord w = true := by decide +kernel
  exact List.mem_filter.mpr (h1 w h)
theorem u_in5 : ∀ w ∈ u_ws RX5 TX5 9, w ∈ UW := fun w h => by
  have h1 : ∀ w ∈ u_ws RX5 TX5 9, w ∈ lw_tbl ∧ goodWord w = true := by decide +kernel
  exact List.mem_filter.mpr (h1 w h)
theorem u_in6 : ∀ w ∈ u_ws RX6 TX6 4, w ∈ UW := fun w h => by
  have h1 : ∀ w ∈ u_ws RX6 TX6 4, w ∈ lw_tbl ∧ goodWord w = true := by decide +kernel
  exact List.mem_filter.mpr (h1 w h)
theorem u_in7 : ∀ w ∈ u_ws RX7 TX7 7, w ∈ UW := fun w h => by
  have h1 : ∀ w ∈ u_ws RX7 TX7 7, w ∈ lw_tbl ∧ goodWord w = true := by decide +kernel
  exact List.mem_filter.mpr (h1 w h)
theorem u_in8 : ∀ w ∈ u_ws RX8 TX8 16, w ∈ UW := fun w h => by
  have h1 : ∀ w ∈ u_ws RX8 TX8 16, w ∈ lw_tbl ∧ goodWord w = true := by decide +kernel
  exact List.mem_filter.mpr (h1 w h)
theorem u_in9 : ∀ w ∈ u_ws RX9 TX9 5, w ∈ UW := fun w h => by
  have h1 : ∀ w ∈ u_ws RX9 TX9 5, w ∈ lw_tbl ∧ goodWord w = true := by decide +kernel
  exact List.mem_filter.mpr (h1 w h)
theorem u_in10 : ∀ w ∈ u_ws RX10 TX10 6, w ∈ UW := fun w h => by
  have h1 : ∀ w ∈ u_ws RX10 TX10 6, w ∈ lw_tbl ∧ goodWord w = true := by decide +kernel
  exact List.mem_filter.mpr (h1 w h)
theorem kt5 {k : Nat} (h : kt k = 5) : False := by
  have q : ∀ k, k < 102 → kt k ≠ 5 := by decide +kernel
  exact q k (kt_lt h (by decide)) h
/-- what the tables say of a class's fields -/
def xcOK (C : String) (T : u_T) (N : Nat) : Prop := (∀ w ∈ u_ws C T N, w ∈ UW) ∧ (∃ ty : Nat → FieldType, ∀ k, k < N → parseFieldDescriptor (T k).2.2.1 = some (ty k)) ∧ (∀ a, a < N → ∀ b, b < N → a ≠ b → (T a).2.1 ≠ (T b).2.1)
theorem xcl_ok : ∀ (c : Nat) (C : String) (T : u_T) (N : Nat), xCl[c]? = some (C, T, N) → xcOK C T N
  | 0, C, T, N, h => by cases h; exact ⟨u_in1, ⟨tyX1, tyX1_ok⟩, nmX1⟩
  | 1, C, T, N, h => by cases h; exact ⟨u_in2, ⟨tyX2, tyX2_ok⟩, nmX2⟩
  | 2, C, T, N, h => by cases h; exact ⟨u_in3, ⟨tyX3, tyX3_ok⟩, nmX3⟩
  | 3, C, T, N, h => by cases h; exact ⟨u_in4, ⟨tyX4, tyX4_ok⟩, nmX4⟩
  | 4, C, T, N, h => by cases h; exact ⟨u_in5, ⟨tyX5, tyX5_ok⟩, nmX5⟩
  | 5, C, T, N, h => by cases h; exact ⟨u_in6, ⟨tyX6, tyX6_ok⟩, nmX6⟩
  | 6, C, T, N, h => by cases h; exact ⟨u_in7, ⟨tyX7, tyX7_ok⟩, nmX7⟩
  | 7, C, T, N, h => by cases h; exact ⟨u_in8, ⟨tyX8, tyX8_ok⟩, nmX8⟩
  | 8, C, T, N, h => by cases h; exact ⟨u_in9, ⟨tyX9, tyX9_ok⟩, nmX9⟩
  | 9, C, T, N, h => by cases h; exact ⟨u_in10, ⟨tyX10, tyX10_ok⟩, nmX10⟩
  | 10, C, T, N, h => by cases h; exact ⟨u_in10, ⟨tyX10, tyX10_ok⟩, nmX10⟩
  | c + 11, C, T, N, h => by simp [xCl] at h
