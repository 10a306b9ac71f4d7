/-! ===== class and model side by side at the start ===== -/
theorem rI_if {k : Nat} {i z w : Int} (v : Int) {P : Prop} [Decidable P] (h : mmI k i z = if P then v else 0) (hp : P) (hw : wr v = w) : rd mmI k i z = w := by
  unfold rd
  rw [h, if_pos hp, hw]
theorem SK_I : SK mmI mmI := by
  refine ⟨fun s s0 s1 => ⟨rfl, ?_⟩, rfl, fun s z s0 s1 z0 z1 => ?_, fun s n s0 s1 n0 n1 => ?_, fun s i n s0 s1 i0 i1 n0 n1 => ⟨fun _ => rfl, fun _ => rfl⟩⟩
  · have h1 : rd mmI 11 s 1 = wr (120 * s) := rfl
    have h2 : rd mmI 42 0 s = wr (120 * s) := rI_if (120 * s) (P := 0 ≤ s ∧ s < 3) rfl ⟨s0, s1⟩ rfl
    rw [h1, h2]
  · have h1 : rd mmI 12 s z = 10 := rI_if 10 (P := 0 ≤ z ∧ z < 720) rfl ⟨z0, z1⟩ rfl
    have h2 : rd mmI 44 0 (720 * s + z) = 10 := rI_if 10 (P := 0 ≤ 720 * s + z ∧ 720 * s + z < 2160) rfl ⟨by omega, by omega⟩ rfl
    rw [h1, h2]
    exact ⟨rfl, rfl, Or.inl rfl, by decide⟩
  · have hm : ∀ t : Int, 0 ≤ t → t < 30 → rd mmI 46 0 (30 * s + t) = -1 := fun t t0 t1 => rI_if (-1) (P := 0 ≤ 30 * s + t ∧ 30 * s + t < 90) rfl ⟨by omega, by omega⟩ rfl
    refine ⟨?_, fun _ => by rw [hm n n0 n1]; decide, fun _ => rfl⟩
    have h1 : mtT mmI s n = -1 := fdown_no (fun z z0 z1 => by
      rw [hm z z0 (by omega)]; decide)
    unfold mtC
    rw [h1, pif_t (by decide)]
    rfl
theorem TG_I : TG mmI mmI := by
  refine ⟨⟨rfl, rfl, rfl⟩, fun g g0 g1 => rfl, fun q q0 q1 => ⟨rfl, rfl, rfl, rfl, ⟨Int.le_refl (0 : Int), (by decide : (0 : Int) ≤ 9)⟩, Int.le_refl (0 : Int)⟩, fun t t0 t1 => absurd t1 (by show ¬ t < 0; omega), fun i i0 i1 => absurd i1 (by show ¬ i < 0; omega), fun i i0 i1 => ?_, fun t _ _ => rfl⟩
  have h1 : rd mmI 59 0 (24 + i) = 30 := rI_if 30 (P := 24 ≤ 24 + i ∧ 24 + i < 34) rfl ⟨by omega, by omega⟩ rfl
  have h2 : rd mmI 60 0 (24 + i) = 100 := rI_if 100 (P := 24 ≤ 24 + i ∧ 24 + i < 34) rfl ⟨by omega, by omega⟩ rfl
  have h3 : rd mmI 61 0 (24 + i) = 50 := rI_if 50 (P := 24 ≤ 24 + i ∧ 24 + i < 34) rfl ⟨by omega, by omega⟩ rfl
  rw [h1, h2, h3]
  exact ⟨rfl, rfl, rfl, rfl⟩
theorem IM_I : IM mmI := ⟨⟨by decide, by decide⟩, ⟨by decide, by decide⟩, ⟨by decide, by decide⟩, fun t _ _ => ⟨⟨by show (0 : Int) ≤ 0; decide, by show (0 : Int) < 8; decide⟩, ⟨by show (0 : Int) ≤ 0; decide, by show (0 : Int) ≤ 6; decide⟩, ⟨by show (0 : Int) ≤ 0; decide, by show (0 : Int) < 3; decide⟩⟩, fun t _ _ => by show (0 : Int) < 4; decide, fun q _ _ => ⟨Int.le_refl (0 : Int), (by decide : (0 : Int) < 4)⟩, fun t _ _ => Int.le_refl (0 : Int)⟩
theorem IA_I : IA mmI := ⟨fun t _ _ => ⟨⟨by show (0 : Int) ≤ 0; decide, by show (0 : Int) < 4; decide⟩, ⟨by show (0 : Int) ≤ 0; decide, by show (0 : Int) ≤ 6; decide⟩, ⟨by show (0 : Int) ≤ 0; decide, by show (0 : Int) < 3; decide⟩, ⟨by show (0 : Int) ≤ 0; decide, by show (0 : Int) < 24; decide⟩, ⟨by show (0 : Int) ≤ 0; decide, by show (0 : Int) < 8; decide⟩⟩, fun t _ _ => ⟨⟨by show (0 : Int) ≤ 0; decide, by show (0 : Int) < 4; decide⟩, ⟨by show (0 : Int) ≤ 0; decide, by show (0 : Int) ≤ 6; decide⟩, ⟨by show (0 : Int) ≤ 0; decide, by show (0 : Int) < 3; decide⟩⟩, fun q _ _ => ⟨by show (0 : Int) ≤ 0; decide, by show (0 : Int) < 4; decide⟩, ⟨by decide, by decide⟩, ⟨by decide, by decide⟩, ⟨by decide, by decide⟩⟩
theorem vw_I {s : Int} (s0 : 0 ≤ s) (s1 : s < 3) : rd mmI 80 0 s = -1 := rI_if (-1) (P := 0 ≤ s ∧ s < 3) rfl ⟨s0, s1⟩ rfl
theorem an_I {i : Int} (i0 : 0 ≤ i) (i1 : i < 10) : rd mmI 75 0 i = -1 := rI_if (-1) (P := 0 ≤ i ∧ i < 10) rfl ⟨i0, i1⟩ rfl
theorem CR_I : CR mmI mmI 0 := by
  refine ⟨⟨fun t _ _ => ⟨rfl, rfl, rfl⟩, fun i i0 i1 => ⟨Or.inl rfl, fun _ => by rw [an_I i0 i1]; decide, fun _ => rfl⟩, fun g _ _ => rfl⟩, fun s s0 s1 => Or.inl ⟨vw_I s0 s1, rfl, rfl, rfl⟩, fun t _ _ => Or.inl ⟨rfl, rfl⟩, fun s s' s0 s1 _ _ _ h => ?_, rfl, fun h => absurd h (by decide), fun _ => ⟨fun g _ _ => rfl, fun s _ _ => ⟨rfl, rfl⟩, rfl, ⟨by decide, by decide⟩, fun d d0 d1 => absurd d1 (by show ¬ d < 0; omega)⟩⟩
  rw [vw_I s0 s1] at h
  exact absurd h (by decide)
theorem FU_I : FU mmI mmI := by
  refine ⟨⟨SK_I, TG_I, IM_I⟩, CR_I, fun n n0 n1 => absurd n1 (by show ¬ 24 * n < 0; omega), ⟨fun t j _ _ _ _ h => ?_, fun i i0 i1 => Or.inl (by rw [an_I i0 i1]; decide)⟩, ⟨fun s _ _ => ⟨rfl, rfl, rfl⟩, fun t _ _ => rfl⟩, rfl, ⟨by decide, by decide⟩, IA_I, by decide⟩
  have : tb (rd mmI 74 0 t) j = false := tb_0 j
  rw [this] at h
  cases h
theorem and31 (x : Int) : 0 ≤ wr (jand x 31) ∧ wr (jand x 31) ≤ 31 := by
  rw [wr_jand]
  unfold jand
  rw [show I 31 = 31 from rfl, pk_and (I x) (m := 31) 5 (by decide)]
  have h := Nat.mod_lt (I x).toBitVec.toNat (show 0 < 2 ^ 5 by decide)
  rw [nI_toInt (by omega)]
  omega
