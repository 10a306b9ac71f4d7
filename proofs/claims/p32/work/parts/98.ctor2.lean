/-! ===== the objects are made: a site, a course ===== -/
set_option maxRecDepth 100000 in
set_option maxHeartbeats 400000 in
theorem K_site (v : Int) (v0 : 0 ≤ v) (v1 : v < 3) : MetK iX7_init 5 1590 11 v [xi (120 * v)] mmI (fun k i => (11 ≤ k ∧ k ≤ 16) ∧ i = v) := by
  refine MetK.of (by decide +kernel) rfl rfl (Nat.le_of_ble_eq_true rfl) (by repeat' first | exact fun _ h => absurd h List.not_mem_nil | exact trivial | refine List.forall_mem_cons.mpr ⟨?_, ?_⟩) (Or.inr ⟨v0, v1⟩) (by decide) ?_
  intro p l e s m args below meth c Q b h D o ls hbh hC hin hw hKW hA hl hret
  have hinj := adr_inj hbh
  have hl0 := lv_at hl 0 rfl
  have e12 : adr b h 12 v = adr b h 11 v + 1 := by show h + (8 + 6 * v.toNat) = h + (7 + 6 * v.toNat) + 1; omega
  have e13 : adr b h 13 v = adr b h 11 v + 1 + 1 := by show h + (9 + 6 * v.toNat) = h + (7 + 6 * v.toNat) + 1 + 1; omega
  have e14 : adr b h 14 v = adr b h 11 v + 1 + 1 + 1 := by show h + (10 + 6 * v.toNat) = h + (7 + 6 * v.toNat) + 1 + 1 + 1; omega
  have e15 : adr b h 15 v = adr b h 11 v + 1 + 1 + 1 + 1 := by show h + (11 + 6 * v.toNat) = h + (7 + 6 * v.toNat) + 1 + 1 + 1 + 1; omega
  have e16 : adr b h 16 v = adr b h 11 v + 1 + 1 + 1 + 1 + 1 := by show h + (12 + 6 * v.toNat) = h + (7 + 6 * v.toNat) + 1 + 1 + 1 + 1 + 1; omega
  refine lv_aload_n (k := 0) hC.1 hC.2.1 (by decide +kernel) rfl hl0 ?_
  refine k_oi hC oiX7 hl.1 (by decide +kernel) ⟨by decide, by decide⟩ (Nat.zero_le _) ?_
  refine k_nr (k := 11) (k2 := 12) (i0 := v) (n := 720) (w := 3) hC hin hinj hA rfl hl0 (by decide +kernel) (Or.inr (Or.inr ⟨rfl, by decide, by decide +kernel⟩)) (by decide +kernel) rfl rfl tkX7_init rfl rfl ⟨rfl, rfl⟩ (ty9 := .array .int) (by decide +kernel) (fun _ => ⟨rfl, rfl⟩) (Or.inr ⟨v0, v1⟩) (fun q => q) e12 hKW (fun x hx => absurd hx List.not_mem_nil) (by decide) ⟨by decide, by decide⟩ fun H1 locs1 hKW => ?_
  refine k_nf (k := 11) (k2 := 13) (i0 := v) (n := 720) (w := 3) hC hin hinj hA rfl hl0 (by decide +kernel) (Or.inr (Or.inr ⟨rfl, by decide, by decide +kernel⟩)) (by decide +kernel) (Or.inr ⟨rfl, rfl⟩) rfl tkX7_init rfl rfl ⟨rfl, rfl⟩ (ty9 := (.array .boolean)) (by decide +kernel) (fun _ => ⟨rfl, rfl⟩) (Or.inr ⟨v0, v1⟩) e13 (fun j => rfl) hKW (by repeat' first | exact fun _ h => absurd h List.not_mem_nil | refine List.forall_mem_cons.mpr ⟨Nat.ne_of_beq_eq_false rfl, ?_⟩) (by repeat' first | exact fun _ h => absurd h List.not_mem_nil | refine List.forall_mem_cons.mpr ⟨Nat.ne_of_beq_eq_false rfl, ?_⟩) ⟨by decide, by decide⟩ fun H1 locs1 hKW => ?_
  refine k_nf (k := 11) (k2 := 14) (i0 := v) (n := 30) (w := 2) hC hin hinj hA rfl hl0 (by decide +kernel) (Or.inr (Or.inl ⟨rfl, by decide, by decide +kernel⟩)) (by decide +kernel) (Or.inl ⟨rfl, rfl⟩) rfl tkX7_init rfl rfl ⟨rfl, rfl⟩ (ty9 := (.array .int)) (by decide +kernel) (fun _ => ⟨rfl, rfl⟩) (Or.inr ⟨v0, v1⟩) e14 (fun j => rfl) hKW (by repeat' first | exact fun _ h => absurd h List.not_mem_nil | refine List.forall_mem_cons.mpr ⟨Nat.ne_of_beq_eq_false rfl, ?_⟩) (by repeat' first | exact fun _ h => absurd h List.not_mem_nil | refine List.forall_mem_cons.mpr ⟨Nat.ne_of_beq_eq_false rfl, ?_⟩) ⟨by decide, by decide⟩ fun H1 locs1 hKW => ?_
  refine k_nf (k := 11) (k2 := 15) (i0 := v) (n := 30) (w := 2) hC hin hinj hA rfl hl0 (by decide +kernel) (Or.inr (Or.inl ⟨rfl, by decide, by decide +kernel⟩)) (by decide +kernel) (Or.inr ⟨rfl, rfl⟩) rfl tkX7_init rfl rfl ⟨rfl, rfl⟩ (ty9 := (.array .boolean)) (by decide +kernel) (fun _ => ⟨rfl, rfl⟩) (Or.inr ⟨v0, v1⟩) e15 (fun j => rfl) hKW (by repeat' first | exact fun _ h => absurd h List.not_mem_nil | refine List.forall_mem_cons.mpr ⟨Nat.ne_of_beq_eq_false rfl, ?_⟩) (by repeat' first | exact fun _ h => absurd h List.not_mem_nil | refine List.forall_mem_cons.mpr ⟨Nat.ne_of_beq_eq_false rfl, ?_⟩) ⟨by decide, by decide⟩ fun H1 locs1 hKW => ?_
  refine k_nf (k := 11) (k2 := 16) (i0 := v) (n := 90) (w := 2) hC hin hinj hA rfl hl0 (by decide +kernel) (Or.inr (Or.inl ⟨rfl, by decide, by decide +kernel⟩)) (by decide +kernel) (Or.inr ⟨rfl, rfl⟩) rfl tkX7_init rfl rfl ⟨rfl, rfl⟩ (ty9 := (.array .boolean)) (by decide +kernel) (fun _ => ⟨rfl, rfl⟩) (Or.inr ⟨v0, v1⟩) e16 (fun j => rfl) hKW (by repeat' first | exact fun _ h => absurd h List.not_mem_nil | refine List.forall_mem_cons.mpr ⟨Nat.ne_of_beq_eq_false rfl, ?_⟩) (by repeat' first | exact fun _ h => absurd h List.not_mem_nil | refine List.forall_mem_cons.mpr ⟨Nat.ne_of_beq_eq_false rfl, ?_⟩) ⟨by decide, by decide⟩ fun H1 locs1 hKW => ?_
  refine lv_aload_n (k := 0) hC.1 hC.2.1 (by decide +kernel) rfl hl0 ?_
  refine lv_iload_n (k := 1) hC.1 hC.2.1 (by decide +kernel) rfl (lv_at hl 1 rfl) ?_
  refine k_put (k := 11) (i0 := v) hC hinj rfl tkX7_init rfl rfl (Or.inl rfl) (ty9 := .int) (by decide +kernel) rfl rfl hKW (by repeat' first | exact fun _ h => absurd h List.not_mem_nil | refine List.forall_mem_cons.mpr ⟨Nat.ne_of_beq_eq_false rfl, ?_⟩) fun H9 locs9 hKW => ?_
  refine lv_iconst (n := 0) hC.1 hC.2.1 (by decide +kernel) rfl ?_
  refine lv_istore_n (k := 2) hC.1 hC.2.1 (by decide +kernel) rfl hl (by decide) rfl fun ls2 hl2 => ?_
  have hl3 : lv_has ls2 (iX7_init.2.2.1) [(0, .ref (adr b h 11 v)), (2, .int (I 0))] := lv_sub hl2 [1, 0] rfl
  have hKW := hKW.sub (Rw' := [(12, fun _ => .int 0), (11, _)]) (by repeat' first | exact fun _ h => absurd h List.not_mem_nil | exact List.mem_cons_self | exact List.mem_cons_of_mem _ List.mem_cons_self | refine List.forall_mem_cons.mpr ⟨?_, ?_⟩)
  refine k_ifill (v := 10) (vf := 2) (k := 11) (k2 := 12) (i0 := v) (N := 720) (w := 3) (E := 74) (PC := 67) (off1 := 17) (off2 := -18) hC hinj tkX7_init (by decide) (by decide) (by decide) (by decide +kernel) (Or.inr (Or.inr ⟨rfl, by decide, by decide +kernel⟩)) (by decide +kernel) (by decide) (by decide +kernel) rfl rfl (by decide +kernel) (fun H locs ls st hh => k_push (n := 10) (w := 2) hC.1 hC.2.1 (Or.inr (Or.inl ⟨rfl, by decide, by decide +kernel⟩)) hh) (by decide +kernel) (by decide +kernel) (by decide +kernel) (by decide) rfl rfl rfl (by exact congrArg Value.ref e12.symm) (by repeat' first | exact fun _ h => absurd h List.not_mem_nil | refine List.forall_mem_cons.mpr ⟨Nat.ne_of_beq_eq_false rfl, ?_⟩) (fun H9 locs9 ls9 hKW hl9 => ?_) hKW hl3
  have hKW := hKW.done (k := 12) (i0 := v) (by repeat' first | exact fun _ h => absurd h List.not_mem_nil | refine List.forall_mem_cons.mpr ⟨Nat.ne_of_beq_eq_false rfl, ?_⟩) (by decide) (by decide) (fun s hs => by
    have hs : s < 720 := hs
    show (if s < 720 then Value.int (I 10) else .int 0) = Value.int (I (if 0 ≤ (s : Int) ∧ (s : Int) < 720 then 10 else 0))
    rw [if_pos hs, if_pos ⟨by omega, by omega⟩])
  have hKW := hKW.done (k := 11) (i0 := v) (fun x hx => absurd hx List.not_mem_nil) (by decide) (by decide) (fun s hs => by
    have hs : s < 7 := hs
    rcases (show s = 0 ∨ s = 1 ∨ s = 2 ∨ s = 3 ∨ s = 4 ∨ s = 5 ∨ s = 6 by omega) with rfl | rfl | rfl | rfl | rfl | rfl | rfl <;> first | rfl | exact congrArg Value.ref e12.symm | exact congrArg Value.ref e13.symm | exact congrArg Value.ref e14.symm | exact congrArg Value.ref e15.symm | exact congrArg Value.ref e16.symm)
  exact hret _ _ _ _ (fun k i hv => by
    obtain ⟨⟨g1, g2⟩, rfl⟩ := hv
    rcases (show k = 11 ∨ k = 12 ∨ k = 13 ∨ k = 14 ∨ k = 15 ∨ k = 16 by omega) with rfl | rfl | rfl | rfl | rfl | rfl
    · exact hKW.1 _ _ (Or.inr ⟨rfl, rfl⟩)
    · exact hKW.1 _ _ (Or.inl (Or.inr ⟨rfl, rfl⟩))
    · exact hKW.1 _ _ (Or.inl (Or.inl (Or.inl (Or.inl (Or.inl (Or.inr ⟨rfl, rfl⟩))))))
    · exact hKW.1 _ _ (Or.inl (Or.inl (Or.inl (Or.inl (Or.inr ⟨rfl, rfl⟩)))))
    · exact hKW.1 _ _ (Or.inl (Or.inl (Or.inl (Or.inr ⟨rfl, rfl⟩))))
    · exact hKW.1 _ _ (Or.inl (Or.inl (Or.inr ⟨rfl, rfl⟩)))) hKW.2.2.1 hKW.2.2.2.2 (by decide +kernel)
