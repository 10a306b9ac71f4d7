/-! ===== the objects are made: the memory at the start, the small ones (made by wip/p32/ctorgen.py) ===== -/
def mmI : Mm := fun k i z =>
  bif Nat.beq k 7 then (if 0 ≤ z ∧ z < 4 then 25 else 0) else
  bif Nat.beq k 11 then (if z = 1 then 120 * i else 0) else
  bif Nat.beq k 12 then (if 0 ≤ z ∧ z < 720 then 10 else 0) else
  bif Nat.beq k 18 || Nat.beq k 19 then (if z = 5 then 30 else if z = 6 then 100 else if z = 7 then 50 else 0) else
  bif Nat.beq k 31 then (if z = 1 then -1 else 0) else
  0
set_option maxRecDepth 100000 in
set_option maxHeartbeats 400000 in
theorem K_visit (v : Int) (v0 : 0 ≤ v) (v1 : v < 54) : MetK iX9_init 0 0 31 v [] mmI (vs 31 v) := by
  refine MetK.of (by decide +kernel) rfl rfl (Nat.le_of_ble_eq_true rfl) (by repeat' first | exact fun _ h => absurd h List.not_mem_nil | exact trivial | refine List.forall_mem_cons.mpr ⟨?_, ?_⟩) (Or.inr ⟨v0, v1⟩) (by decide) ?_
  intro p l e s m args below meth c Q b h D o ls hbh hC hin hw hKW hA hl hret
  have hinj := adr_inj hbh
  have hl0 := lv_at hl 0 rfl
  refine lv_aload_n (k := 0) hC.1 hC.2.1 (by decide +kernel) rfl hl0 ?_
  refine k_oi hC oiX9 hl.1 (by decide +kernel) ⟨by decide, by decide⟩ (Nat.zero_le _) ?_
  refine lv_aload_n (k := 0) hC.1 hC.2.1 (by decide +kernel) rfl hl0 ?_
  refine lv_iconst (n := 0) hC.1 hC.2.1 (by decide +kernel) rfl ?_
  refine k_put (k := 31) (i0 := v) hC hinj rfl tkX9_init rfl rfl (Or.inl rfl) (ty9 := .int) (by decide +kernel) rfl rfl hKW (fun x hx => absurd hx List.not_mem_nil) fun H1 locs1 hKW => ?_
  refine lv_aload_n (k := 0) hC.1 hC.2.1 (by decide +kernel) rfl hl0 ?_
  refine lv_iconst (n := (-1)) hC.1 hC.2.1 (by decide +kernel) rfl ?_
  refine k_put (k := 31) (i0 := v) hC hinj rfl tkX9_init rfl rfl (Or.inl rfl) (ty9 := .int) (by decide +kernel) rfl rfl hKW (fun x hx => absurd hx List.not_mem_nil) fun H2 locs2 hKW => ?_
  have hKW := hKW.done (k := 31) (i0 := v) (fun x hx => absurd hx List.not_mem_nil) (by decide) (by decide) (fun s hs => by
    have hs : s < 5 := hs
    rcases (show s = 0 ∨ s = 1 ∨ s = 2 ∨ s = 3 ∨ s = 4 by omega) with rfl | rfl | rfl | rfl | rfl <;> rfl)
  exact hret _ _ _ _ (fun k i hv => hKW.1 k i (Or.inr hv)) hKW.2.2.1 hKW.2.2.2.2 (by decide +kernel)
set_option maxRecDepth 100000 in
set_option maxHeartbeats 400000 in
theorem K_prop (v : Int) (v0 : 0 ≤ v) (v1 : v < 8) : MetK iX6_init 0 0 17 v [] mmI (vs 17 v) := by
  refine MetK.of (by decide +kernel) rfl rfl (Nat.le_of_ble_eq_true rfl) (by repeat' first | exact fun _ h => absurd h List.not_mem_nil | exact trivial | refine List.forall_mem_cons.mpr ⟨?_, ?_⟩) (Or.inr ⟨v0, v1⟩) (by decide) ?_
  intro p l e s m args below meth c Q b h D o ls hbh hC hin hw hKW hA hl hret
  have hinj := adr_inj hbh
  have hl0 := lv_at hl 0 rfl
  refine lv_aload_n (k := 0) hC.1 hC.2.1 (by decide +kernel) rfl hl0 ?_
  refine k_oi hC oiX6 hl.1 (by decide +kernel) ⟨by decide, by decide⟩ (Nat.zero_le _) ?_
  have hKW := hKW.done (k := 17) (i0 := v) (fun x hx => absurd hx List.not_mem_nil) (by decide) (by decide) (fun s hs => by
    have hs : s < 4 := hs
    rcases (show s = 0 ∨ s = 1 ∨ s = 2 ∨ s = 3 by omega) with rfl | rfl | rfl | rfl <;> rfl)
  exact hret _ _ _ _ (fun k i hv => hKW.1 k i (Or.inr hv)) hKW.2.2.1 hKW.2.2.2.2 (by decide +kernel)
set_option maxRecDepth 100000 in
set_option maxHeartbeats 400000 in
theorem K_aim18 (v : Int) (v0 : 0 ≤ v) (v1 : v < 24) : MetK iX0_init 0 0 18 v [] mmI (vs 18 v) := by
  refine MetK.of (by decide +kernel) rfl rfl (Nat.le_of_ble_eq_true rfl) (by repeat' first | exact fun _ h => absurd h List.not_mem_nil | exact trivial | refine List.forall_mem_cons.mpr ⟨?_, ?_⟩) (Or.inr ⟨v0, v1⟩) (by decide) ?_
  intro p l e s m args below meth c Q b h D o ls hbh hC hin hw hKW hA hl hret
  have hinj := adr_inj hbh
  have hl0 := lv_at hl 0 rfl
  refine lv_aload_n (k := 0) hC.1 hC.2.1 (by decide +kernel) rfl hl0 ?_
  refine k_oi hC oiX0 hl.1 (by decide +kernel) ⟨by decide, by decide⟩ (Nat.zero_le _) ?_
  refine lv_aload_n (k := 0) hC.1 hC.2.1 (by decide +kernel) rfl hl0 ?_
  refine k_push (n := 30) hC.1 hC.2.1 (Or.inr (Or.inl ⟨rfl, by decide, by decide +kernel⟩)) ?_
  refine k_put (k := 18) (i0 := v) hC hinj rfl tkX0_init rfl rfl (Or.inl rfl) (ty9 := .int) (by decide +kernel) rfl rfl hKW (fun x hx => absurd hx List.not_mem_nil) fun H1 locs1 hKW => ?_
  refine lv_aload_n (k := 0) hC.1 hC.2.1 (by decide +kernel) rfl hl0 ?_
  refine k_push (n := 100) hC.1 hC.2.1 (Or.inr (Or.inl ⟨rfl, by decide, by decide +kernel⟩)) ?_
  refine k_put (k := 18) (i0 := v) hC hinj rfl tkX0_init rfl rfl (Or.inl rfl) (ty9 := .int) (by decide +kernel) rfl rfl hKW (fun x hx => absurd hx List.not_mem_nil) fun H2 locs2 hKW => ?_
  refine lv_aload_n (k := 0) hC.1 hC.2.1 (by decide +kernel) rfl hl0 ?_
  refine k_push (n := 50) hC.1 hC.2.1 (Or.inr (Or.inl ⟨rfl, by decide, by decide +kernel⟩)) ?_
  refine k_put (k := 18) (i0 := v) hC hinj rfl tkX0_init rfl rfl (Or.inl rfl) (ty9 := .int) (by decide +kernel) rfl rfl hKW (fun x hx => absurd hx List.not_mem_nil) fun H3 locs3 hKW => ?_
  have hKW := hKW.done (k := 18) (i0 := v) (fun x hx => absurd hx List.not_mem_nil) (by decide) (by decide) (fun s hs => by
    have hs : s < 16 := hs
    rcases (show s = 0 ∨ s = 1 ∨ s = 2 ∨ s = 3 ∨ s = 4 ∨ s = 5 ∨ s = 6 ∨ s = 7 ∨ s = 8 ∨ s = 9 ∨ s = 10 ∨ s = 11 ∨ s = 12 ∨ s = 13 ∨ s = 14 ∨ s = 15 by omega) with rfl | rfl | rfl | rfl | rfl | rfl | rfl | rfl | rfl | rfl | rfl | rfl | rfl | rfl | rfl | rfl <;> rfl)
  exact hret _ _ _ _ (fun k i hv => hKW.1 k i (Or.inr hv)) hKW.2.2.1 hKW.2.2.2.2 (by decide +kernel)
set_option maxRecDepth 100000 in
set_option maxHeartbeats 400000 in
theorem K_aim19 (v : Int) (v0 : 0 ≤ v) (v1 : v < 10) : MetK iX0_init 0 0 19 v [] mmI (vs 19 v) := by
  refine MetK.of (by decide +kernel) rfl rfl (Nat.le_of_ble_eq_true rfl) (by repeat' first | exact fun _ h => absurd h List.not_mem_nil | exact trivial | refine List.forall_mem_cons.mpr ⟨?_, ?_⟩) (Or.inr ⟨v0, v1⟩) (by decide) ?_
  intro p l e s m args below meth c Q b h D o ls hbh hC hin hw hKW hA hl hret
  have hinj := adr_inj hbh
  have hl0 := lv_at hl 0 rfl
  refine lv_aload_n (k := 0) hC.1 hC.2.1 (by decide +kernel) rfl hl0 ?_
  refine k_oi hC oiX0 hl.1 (by decide +kernel) ⟨by decide, by decide⟩ (Nat.zero_le _) ?_
  refine lv_aload_n (k := 0) hC.1 hC.2.1 (by decide +kernel) rfl hl0 ?_
  refine k_push (n := 30) hC.1 hC.2.1 (Or.inr (Or.inl ⟨rfl, by decide, by decide +kernel⟩)) ?_
  refine k_put (k := 19) (i0 := v) hC hinj rfl tkX0_init rfl rfl (Or.inl rfl) (ty9 := .int) (by decide +kernel) rfl rfl hKW (fun x hx => absurd hx List.not_mem_nil) fun H1 locs1 hKW => ?_
  refine lv_aload_n (k := 0) hC.1 hC.2.1 (by decide +kernel) rfl hl0 ?_
  refine k_push (n := 100) hC.1 hC.2.1 (Or.inr (Or.inl ⟨rfl, by decide, by decide +kernel⟩)) ?_
  refine k_put (k := 19) (i0 := v) hC hinj rfl tkX0_init rfl rfl (Or.inl rfl) (ty9 := .int) (by decide +kernel) rfl rfl hKW (fun x hx => absurd hx List.not_mem_nil) fun H2 locs2 hKW => ?_
  refine lv_aload_n (k := 0) hC.1 hC.2.1 (by decide +kernel) rfl hl0 ?_
  refine k_push (n := 50) hC.1 hC.2.1 (Or.inr (Or.inl ⟨rfl, by decide, by decide +kernel⟩)) ?_
  refine k_put (k := 19) (i0 := v) hC hinj rfl tkX0_init rfl rfl (Or.inl rfl) (ty9 := .int) (by decide +kernel) rfl rfl hKW (fun x hx => absurd hx List.not_mem_nil) fun H3 locs3 hKW => ?_
  have hKW := hKW.done (k := 19) (i0 := v) (fun x hx => absurd hx List.not_mem_nil) (by decide) (by decide) (fun s hs => by
    have hs : s < 12 := hs
    rcases (show s = 0 ∨ s = 1 ∨ s = 2 ∨ s = 3 ∨ s = 4 ∨ s = 5 ∨ s = 6 ∨ s = 7 ∨ s = 8 ∨ s = 9 ∨ s = 10 ∨ s = 11 by omega) with rfl | rfl | rfl | rfl | rfl | rfl | rfl | rfl | rfl | rfl | rfl | rfl <;> rfl)
  exact hret _ _ _ _ (fun k i hv => hKW.1 k i (Or.inr hv)) hKW.2.2.1 hKW.2.2.2.2 (by decide +kernel)
set_option maxRecDepth 100000 in
set_option maxHeartbeats 400000 in
theorem K_target (v : Int) (v0 : 0 ≤ v) (v1 : v < 24) : MetK iX8_init 0 0 18 v [] mmI (vs 18 v) := by
  refine MetK.of (by decide +kernel) rfl rfl (Nat.le_of_ble_eq_true rfl) (by repeat' first | exact fun _ h => absurd h List.not_mem_nil | exact trivial | refine List.forall_mem_cons.mpr ⟨?_, ?_⟩) (Or.inr ⟨v0, v1⟩) (by decide) ?_
  intro p l e s m args below meth c Q b h D o ls hbh hC hin hw hKW hA hl hret
  have hinj := adr_inj hbh
  have hl0 := lv_at hl 0 rfl
  refine lv_aload_n (k := 0) hC.1 hC.2.1 (by decide +kernel) rfl hl0 ?_
  refine k_super (idx := 1) hbh hC hw (K_aim18 v v0 v1) (by decide +kernel) kX0_init rfl rfl (by decide +kernel) hl.1 (by decide +kernel) hKW ⟨Nat.le_refl _, Nat.le_refl _⟩ fun H2 locs2 a1 a2 a3 => ?_
  exact hret _ _ _ _ a1 a2 a3 (by decide +kernel)
set_option maxRecDepth 100000 in
set_option maxHeartbeats 400000 in
theorem K_alert (v : Int) (v0 : 0 ≤ v) (v1 : v < 10) : MetK iX1_init 0 0 19 v [] mmI (vs 19 v) := by
  refine MetK.of (by decide +kernel) rfl rfl (Nat.le_of_ble_eq_true rfl) (by repeat' first | exact fun _ h => absurd h List.not_mem_nil | exact trivial | refine List.forall_mem_cons.mpr ⟨?_, ?_⟩) (Or.inr ⟨v0, v1⟩) (by decide) ?_
  intro p l e s m args below meth c Q b h D o ls hbh hC hin hw hKW hA hl hret
  have hinj := adr_inj hbh
  have hl0 := lv_at hl 0 rfl
  refine lv_aload_n (k := 0) hC.1 hC.2.1 (by decide +kernel) rfl hl0 ?_
  refine k_super (idx := 1) hbh hC hw (K_aim19 v v0 v1) (by decide +kernel) kX0_init rfl rfl (by decide +kernel) hl.1 (by decide +kernel) hKW ⟨Nat.le_refl _, Nat.le_refl _⟩ fun H2 locs2 a1 a2 a3 => ?_
  exact hret _ _ _ _ a1 a2 a3 (by decide +kernel)
set_option maxRecDepth 100000 in
set_option maxHeartbeats 400000 in
theorem K_arch (v : Int) (v0 : 0 ≤ v) (v1 : v < 2) : MetK iX2_init 1 700 27 v [] mmI (fun k i => (k = 27 ∨ k = 28) ∧ i = v) := by
  refine MetK.of (by decide +kernel) rfl rfl (Nat.le_of_ble_eq_true rfl) (by repeat' first | exact fun _ h => absurd h List.not_mem_nil | exact trivial | refine List.forall_mem_cons.mpr ⟨?_, ?_⟩) (Or.inr ⟨v0, v1⟩) (by decide) ?_
  intro p l e s m args below meth c Q b h D o ls hbh hC hin hw hKW hA hl hret
  have hinj := adr_inj hbh
  have hl0 := lv_at hl 0 rfl
  have e28 : adr b h 28 v = adr b h 27 v + 1 := by show h + (75 + 41 * v.toNat) = h + (74 + 41 * v.toNat) + 1; omega
  refine lv_aload_n (k := 0) hC.1 hC.2.1 (by decide +kernel) rfl hl0 ?_
  refine k_oi hC oiX2 hl.1 (by decide +kernel) ⟨by decide, by decide⟩ (Nat.zero_le _) ?_
  refine k_nf (k := 27) (k2 := 28) (i0 := v) (n := 700) (w := 3) hC hin hinj hA rfl hl0 (by decide +kernel) (Or.inr (Or.inr ⟨rfl, by decide, by decide +kernel⟩)) (by decide +kernel) (Or.inl ⟨rfl, rfl⟩) rfl tkX2_init rfl rfl ⟨rfl, rfl⟩ (ty9 := (.array .int)) (by decide +kernel) (fun _ => ⟨rfl, rfl⟩) (Or.inr ⟨v0, v1⟩) e28 (fun j => rfl) hKW (fun x hx => absurd hx List.not_mem_nil) (by intro x hx; rw [List.mem_singleton.mp hx]; show (27 : Nat) ≠ 28; decide) ⟨by decide, by decide⟩ fun H1 locs1 hKW => ?_
  have hKW := hKW.done (k := 27) (i0 := v) (fun x hx => absurd hx List.not_mem_nil) (by decide) (by decide) (fun s hs => by
    have hs : s < 2 := hs
    rcases (show s = 0 ∨ s = 1 by omega) with rfl | rfl <;> first | rfl | exact congrArg Value.ref e28.symm)
  exact hret _ _ _ _ (fun k i hv => by
    obtain ⟨rfl | rfl, rfl⟩ := hv
    · exact hKW.1 _ _ (Or.inr ⟨rfl, rfl⟩)
    · exact hKW.1 _ _ (Or.inl (Or.inr ⟨rfl, rfl⟩))) hKW.2.2.1 hKW.2.2.2.2 (by decide +kernel)
set_option maxRecDepth 100000 in
set_option maxHeartbeats 400000 in
theorem K_book (v : Int) (v0 : 0 ≤ v) (v1 : v < 32) : MetK iX3_init 5 86 20 v [] mmI (fun k i => (20 ≤ k ∧ k ≤ 25) ∧ i = v) := by
  refine MetK.of (by decide +kernel) rfl rfl (Nat.le_of_ble_eq_true rfl) (by repeat' first | exact fun _ h => absurd h List.not_mem_nil | exact trivial | refine List.forall_mem_cons.mpr ⟨?_, ?_⟩) (Or.inr ⟨v0, v1⟩) (by decide) ?_
  intro p l e s m args below meth c Q b h D o ls hbh hC hin hw hKW hA hl hret
  have hinj := adr_inj hbh
  have hl0 := lv_at hl 0 rfl
  have ek : ∀ j : Nat, (bif Nat.blt v.toNat 30 then 150 + 6 * v.toNat + j else 68 + 41 * (v.toNat - 30) + j) = (bif Nat.blt v.toNat 30 then 150 + 6 * v.toNat + 0 else 68 + 41 * (v.toNat - 30) + 0) + j := fun j => by cases Nat.blt v.toNat 30 <;> simp only [cond_true, cond_false] <;> omega
  have e21 : adr b h 21 v = adr b h 20 v + 1 := by
    show h + (bif Nat.blt v.toNat 30 then 150 + 6 * v.toNat + 1 else 68 + 41 * (v.toNat - 30) + 1) = h + (bif Nat.blt v.toNat 30 then 150 + 6 * v.toNat + 0 else 68 + 41 * (v.toNat - 30) + 0) + 1
    rw [ek 1]; omega
  have e22 : adr b h 22 v = adr b h 20 v + 1 + 1 := by
    show h + (bif Nat.blt v.toNat 30 then 150 + 6 * v.toNat + 2 else 68 + 41 * (v.toNat - 30) + 2) = h + (bif Nat.blt v.toNat 30 then 150 + 6 * v.toNat + 0 else 68 + 41 * (v.toNat - 30) + 0) + 1 + 1
    rw [ek 2]; omega
  have e23 : adr b h 23 v = adr b h 20 v + 1 + 1 + 1 := by
    show h + (bif Nat.blt v.toNat 30 then 150 + 6 * v.toNat + 3 else 68 + 41 * (v.toNat - 30) + 3) = h + (bif Nat.blt v.toNat 30 then 150 + 6 * v.toNat + 0 else 68 + 41 * (v.toNat - 30) + 0) + 1 + 1 + 1
    rw [ek 3]; omega
  have e24 : adr b h 24 v = adr b h 20 v + 1 + 1 + 1 + 1 := by
    show h + (bif Nat.blt v.toNat 30 then 150 + 6 * v.toNat + 4 else 68 + 41 * (v.toNat - 30) + 4) = h + (bif Nat.blt v.toNat 30 then 150 + 6 * v.toNat + 0 else 68 + 41 * (v.toNat - 30) + 0) + 1 + 1 + 1 + 1
    rw [ek 4]; omega
  have e25 : adr b h 25 v = adr b h 20 v + 1 + 1 + 1 + 1 + 1 := by
    show h + (bif Nat.blt v.toNat 30 then 150 + 6 * v.toNat + 5 else 68 + 41 * (v.toNat - 30) + 5) = h + (bif Nat.blt v.toNat 30 then 150 + 6 * v.toNat + 0 else 68 + 41 * (v.toNat - 30) + 0) + 1 + 1 + 1 + 1 + 1
    rw [ek 5]; omega
  refine lv_aload_n (k := 0) hC.1 hC.2.1 (by decide +kernel) rfl hl0 ?_
  refine k_oi hC oiX3 hl.1 (by decide +kernel) ⟨by decide, by decide⟩ (Nat.zero_le _) ?_
  refine k_nf (k := 20) (k2 := 21) (i0 := v) (n := 24) (w := 2) hC hin hinj hA rfl hl0 (by decide +kernel) (Or.inr (Or.inl ⟨rfl, by decide, by decide +kernel⟩)) (by decide +kernel) (Or.inl ⟨rfl, rfl⟩) rfl tkX3_init rfl rfl ⟨rfl, rfl⟩ (ty9 := (.array .int)) (by decide +kernel) (fun _ => ⟨rfl, rfl⟩) (Or.inr ⟨v0, v1⟩) e21 (fun j => rfl) hKW (fun x hx => absurd hx List.not_mem_nil) (by intro x hx; rw [List.mem_singleton.mp hx]; show (20 : Nat) ≠ 21; decide) ⟨by decide, by decide⟩ fun H1 locs1 hKW => ?_
  refine k_nf (k := 20) (k2 := 22) (i0 := v) (n := 24) (w := 2) hC hin hinj hA rfl hl0 (by decide +kernel) (Or.inr (Or.inl ⟨rfl, by decide, by decide +kernel⟩)) (by decide +kernel) (Or.inl ⟨rfl, rfl⟩) rfl tkX3_init rfl rfl ⟨rfl, rfl⟩ (ty9 := (.array .int)) (by decide +kernel) (fun _ => ⟨rfl, rfl⟩) (Or.inr ⟨v0, v1⟩) e22 (fun j => rfl) hKW (fun x hx => absurd hx List.not_mem_nil) (by intro x hx; rw [List.mem_singleton.mp hx]; show (20 : Nat) ≠ 22; decide) ⟨by decide, by decide⟩ fun H1 locs1 hKW => ?_
  refine k_nf (k := 20) (k2 := 23) (i0 := v) (n := 24) (w := 2) hC hin hinj hA rfl hl0 (by decide +kernel) (Or.inr (Or.inl ⟨rfl, by decide, by decide +kernel⟩)) (by decide +kernel) (Or.inl ⟨rfl, rfl⟩) rfl tkX3_init rfl rfl ⟨rfl, rfl⟩ (ty9 := (.array .int)) (by decide +kernel) (fun _ => ⟨rfl, rfl⟩) (Or.inr ⟨v0, v1⟩) e23 (fun j => rfl) hKW (fun x hx => absurd hx List.not_mem_nil) (by intro x hx; rw [List.mem_singleton.mp hx]; show (20 : Nat) ≠ 23; decide) ⟨by decide, by decide⟩ fun H1 locs1 hKW => ?_
  refine k_nf (k := 20) (k2 := 24) (i0 := v) (n := 10) (w := 2) hC hin hinj hA rfl hl0 (by decide +kernel) (Or.inr (Or.inl ⟨rfl, by decide, by decide +kernel⟩)) (by decide +kernel) (Or.inr ⟨rfl, rfl⟩) rfl tkX3_init rfl rfl ⟨rfl, rfl⟩ (ty9 := (.array .boolean)) (by decide +kernel) (fun _ => ⟨rfl, rfl⟩) (Or.inr ⟨v0, v1⟩) e24 (fun j => rfl) hKW (fun x hx => absurd hx List.not_mem_nil) (by intro x hx; rw [List.mem_singleton.mp hx]; show (20 : Nat) ≠ 24; decide) ⟨by decide, by decide⟩ fun H1 locs1 hKW => ?_
  refine k_nf (k := 20) (k2 := 25) (i0 := v) (n := 4) (w := 1) hC hin hinj hA rfl hl0 (by decide +kernel) (Or.inl ⟨rfl, by decide +kernel⟩) (by decide +kernel) (Or.inl ⟨rfl, rfl⟩) rfl tkX3_init rfl rfl ⟨rfl, rfl⟩ (ty9 := (.array .int)) (by decide +kernel) (fun _ => ⟨rfl, rfl⟩) (Or.inr ⟨v0, v1⟩) e25 (fun j => rfl) hKW (fun x hx => absurd hx List.not_mem_nil) (by intro x hx; rw [List.mem_singleton.mp hx]; show (20 : Nat) ≠ 25; decide) ⟨by decide, by decide⟩ fun H1 locs1 hKW => ?_
  have hKW := hKW.done (k := 20) (i0 := v) (fun x hx => absurd hx List.not_mem_nil) (by decide) (by decide) (fun s hs => by
    have hs : s < 5 := hs
    rcases (show s = 0 ∨ s = 1 ∨ s = 2 ∨ s = 3 ∨ s = 4 by omega) with rfl | rfl | rfl | rfl | rfl <;> first | rfl | exact congrArg Value.ref e21.symm | exact congrArg Value.ref e22.symm | exact congrArg Value.ref e23.symm | exact congrArg Value.ref e24.symm | exact congrArg Value.ref e25.symm)
  exact hret _ _ _ _ (fun k i hv => by
    obtain ⟨⟨g1, g2⟩, rfl⟩ := hv
    rcases (show k = 20 ∨ k = 21 ∨ k = 22 ∨ k = 23 ∨ k = 24 ∨ k = 25 by omega) with rfl | rfl | rfl | rfl | rfl | rfl
    · exact hKW.1 _ _ (Or.inr ⟨rfl, rfl⟩)
    · exact hKW.1 _ _ (Or.inl (Or.inl (Or.inl (Or.inl (Or.inl (Or.inr ⟨rfl, rfl⟩))))))
    · exact hKW.1 _ _ (Or.inl (Or.inl (Or.inl (Or.inl (Or.inr ⟨rfl, rfl⟩)))))
    · exact hKW.1 _ _ (Or.inl (Or.inl (Or.inl (Or.inr ⟨rfl, rfl⟩))))
    · exact hKW.1 _ _ (Or.inl (Or.inl (Or.inr ⟨rfl, rfl⟩)))
    · exact hKW.1 _ _ (Or.inl (Or.inr ⟨rfl, rfl⟩))) hKW.2.2.1 hKW.2.2.2.2 (by decide +kernel)
