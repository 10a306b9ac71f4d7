/-! ===== the memory at the start ===== -/
theorem rI_if {k : Nat} {i z w : Int} (v : Int) {P : Prop} [Decidable P] (h : mmI k i z = if P then v else 0) (hp : P) (hw : wr v = w) : rd mmI k i z = w := by
  unfold rd
  rw [h, if_pos hp, hw]
theorem IA_I : IA mmI := ⟨fun t _ _ => ⟨⟨by show (0 : Int) ≤ 0; decide, by show (0 : Int) < 4; decide⟩, ⟨by show (0 : Int) ≤ 0; decide, by show (0 : Int) ≤ 6; decide⟩, ⟨by show (0 : Int) ≤ 0; decide, by show (0 : Int) < 3; decide⟩, ⟨by show (0 : Int) ≤ 0; decide, by show (0 : Int) < 24; decide⟩, ⟨by show (0 : Int) ≤ 0; decide, by show (0 : Int) < 8; decide⟩⟩, fun t _ _ => ⟨⟨by show (0 : Int) ≤ 0; decide, by show (0 : Int) < 4; decide⟩, ⟨by show (0 : Int) ≤ 0; decide, by show (0 : Int) ≤ 6; decide⟩, ⟨by show (0 : Int) ≤ 0; decide, by show (0 : Int) < 3; decide⟩⟩, fun q _ _ => ⟨by show (0 : Int) ≤ 0; decide, by show (0 : Int) < 4; decide⟩, ⟨by decide, by decide⟩, ⟨by decide, by decide⟩, ⟨by decide, by decide⟩⟩
theorem ID_I : ID1 mmI := ⟨fun v _ _ => rfl, by show (0 : Int) ≤ 0; decide⟩
theorem IC_I : IC mmI 0 := ⟨fun u _ _ => vOK_idle rfl, fun t _ _ => Or.inl rfl, by show (0 : Int) ≤ 0; decide⟩
theorem NN_I : NN mmI 0 := ⟨fun g _ _ => ⟨by show (0 : Int) ≤ 0; decide, by show (0 : Int) ≤ 0; decide⟩, fun s _ _ => ⟨by show (0 : Int) ≤ 0; decide, by show (0 : Int) ≤ 0; decide⟩⟩
theorem VV_I : VV mmI 0 := fun v _ _ => ⟨by show (0 : Int) ≤ 0; decide, fun _ => rfl, fun h => absurd h (by show ¬ (0 : Int) = 1; decide), by show (0 : Int) ≤ 0; decide, by show (0 : Int) ≤ 50; decide⟩
theorem UQ_I : UQ mmI 0 := ⟨fun s t _ _ _ _ h => absurd h (by show ¬ (0 : Int) = 1; decide), fun s s' _ _ _ _ _ h => absurd h (by show ¬ (0 : Int) = 1; decide)⟩
theorem TOT_I : TOT mmI 0 = 3 * rd mmI 26 0 8 := rfl
theorem PX_I : PX mmI := ⟨fun t t0 t1 => absurd t1 (by show ¬ t < 0; omega), fun q _ _ => by show (0 : Int) ≤ 0; decide, fun s t _ _ t0 t1 => by
  have h1 : rd mmI 12 s t = 10 := rI_if 10 (P := 0 ≤ t ∧ t < 720) rfl ⟨t0, t1⟩ rfl
  rw [h1]
  exact ⟨by decide, by decide⟩, rfl⟩
theorem DA_I : DA mmI 0 := ⟨⟨by show (0 : Int) ≤ 0; decide, by show (0 : Int) ≤ 100; decide⟩, fun d d0 d1 => absurd d1 (by show ¬ d < 0; omega), fun _ t _ _ => rfl⟩
theorem JV_I : JV mmI := ⟨⟨⟨IA_I, IC_I, NN_I, VV_I, UQ_I, TOT_I⟩, PX_I, DA_I⟩, ID_I, by show (0 : Int) ≤ 0; decide, by show (0 : Int) ≤ 720; decide⟩
theorem L0_I : L0 ((0 : Nat) : Int) mmI mmI := ⟨JV_I, ⟨rfl, rfl, rfl⟩, rfl, rfl, rfl⟩
