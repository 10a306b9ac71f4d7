/-! ===== the objects are made: the program's own ===== -/
def seedV : Nat → Int → Prop := fun k i => (1 ≤ k ∧ k ≤ 34) ∧ 0 ≤ i ∧ i < km k
set_option maxRecDepth 100000 in
set_option maxHeartbeats 400000 in
theorem K_seed  : MetK iX10_init 331 10132 1 0 [] mmI seedV := by
  refine MetK.of (by decide +kernel) rfl rfl (Nat.le_of_ble_eq_true rfl) (by repeat' first | exact fun _ h => absurd h List.not_mem_nil | exact trivial | refine List.forall_mem_cons.mpr ⟨?_, ?_⟩) (Or.inr ⟨by decide, by decide⟩) (by decide) ?_
  intro p l e s m args below meth c Q b h D o ls hbh hC hin hw hKW hA hl hret
  have hinj := adr_inj hbh
  have hl0 := lv_at hl 0 rfl
  have e5 : adr b h 5 0 = adr b h 1 0 + 1 := by show h + (1 + 0 * 0) = h + (0 + 0 * 0) + 1; omega
  have e26 : adr b h 26 0 = adr b h 1 0 + 1 + 1 + 65 := by show h + (67 + 41 * 0) = h + (0 + 0 * 0) + 1 + 1 + 65; omega
  have e26b : adr b h 26 1 = adr b h 1 0 + 1 + 1 + 65 + 1 + 40 := by show h + (67 + 41 * 1) = h + (0 + 0 * 0) + 1 + 1 + 65 + 1 + 40; omega
  have e2 : adr b h 2 0 = adr b h 1 0 + 1 + 1 + 65 + 1 + 40 + 1 + 40 := by show h + (149 + 0 * 0) = h + (0 + 0 * 0) + 1 + 1 + 65 + 1 + 40 + 1 + 40; omega
  have e20 : ∀ j : Nat, j < 30 → adr b h 20 (j : Int) = adr b h 1 0 + 1 + 1 + 65 + 1 + 40 + 1 + 40 + 1 + j * (1 + 5) := fun j hj => by
    show h + (bif Nat.blt ((j : Int)).toNat 30 then 150 + 6 * ((j : Int)).toNat + 0 else 68 + 41 * (((j : Int)).toNat - 30) + 0) = h + (0 + 0 * 0) + 1 + 1 + 65 + 1 + 40 + 1 + 40 + 1 + j * (1 + 5)
    rw [show Nat.blt ((j : Int)).toNat 30 = true by rw [Nat.blt_eq]; omega, cond_true]
    omega
  have e3 : adr b h 3 0 = adr b h 1 0 + 1 + 1 + 65 + 1 + 40 + 1 + 40 + 1 + 30 * (1 + 5) := by show h + (330 + 0 * 0) = h + (0 + 0 * 0) + 1 + 1 + 65 + 1 + 40 + 1 + 40 + 1 + 30 * (1 + 5); omega
  have e4 : adr b h 4 0 = adr b h 1 0 + 1 + 1 + 65 + 1 + 40 + 1 + 40 + 1 + 30 * (1 + 5) + 1 := by show h + (331 + 0 * 0) = h + (0 + 0 * 0) + 1 + 1 + 65 + 1 + 40 + 1 + 40 + 1 + 30 * (1 + 5) + 1; omega
  refine lv_aload_n (k := 0) hC.1 hC.2.1 (by decide +kernel) rfl hl0 ?_
  refine k_oi hC oiX10 hl.1 (by decide +kernel) ⟨by decide, by decide⟩ (Nat.zero_le _) ?_
  refine lv_aload_n (k := 0) hC.1 hC.2.1 (by decide +kernel) rfl hl0 ?_
  refine k_new (kx := 5) (idx := 9) hC rfl clX10_9 insX5 (by decide +kernel) ⟨by decide, by decide⟩ hKW.2.2.1 fun H1 h1 o1 hbl => ?_
  refine lv_dup hC.1 hC.2.1 (by decide +kernel) rfl ?_
  refine k_call (idx := 11) hbh hC hw K_plan (Or.inl mlX10_X5) kX5_init rfl rfl (by decide +kernel) rfl hl.1 (Nat.le_of_ble_eq_true rfl) (by decide +kernel) e5 hA hKW h1 o1 hbl (by
    rintro k i ⟨g, g3, g4⟩
    exact law_kt g3 g4) (by
    intro x hx
    rw [List.mem_singleton.mp hx]
    rintro ⟨⟨g, -⟩, -⟩
    exact absurd g (Nat.not_le_of_lt (show 1 < 5 by decide))) ⟨by decide, by decide⟩ fun H2 locs2 hKW => ?_
  refine k_put (k := 1) (i0 := 0) (v := .ref (adr b h 1 0 + 1)) hC hinj rfl tkX10_init rfl rfl (Or.inr ⟨hin, rfl, rfl⟩) (ty9 := .object "Cloudseed$Plan") (by decide +kernel) rfl rfl hKW (by repeat' first | exact fun _ h => absurd h List.not_mem_nil | refine List.forall_mem_cons.mpr ⟨Nat.ne_of_beq_eq_false rfl, ?_⟩) fun H1 locs1 hKW => ?_
  refine lv_aload_n (k := 0) hC.1 hC.2.1 (by decide +kernel) rfl hl0 ?_
  refine k_new (kx := 26) (idx := 16) hC rfl clX10_16 insX4 (by decide +kernel) ⟨by decide, by decide⟩ hKW.2.2.1 fun H1 h1 o1 hbl => ?_
  refine lv_dup hC.1 hC.2.1 (by decide +kernel) rfl ?_
  refine lv_aload_n (k := 0) hC.1 hC.2.1 (by decide +kernel) rfl hl0 ?_
  refine k_get (k := 1) (f := updV (dfv 1) 0 (.ref (adr b h 1 0 + 1))) hC rfl tkX10_init rfl rfl (rawOK.kept ((hKW.2.1 _ List.mem_cons_self).2.2.2) (o1 _ (by rw [← hKW.2.2.1]; exact ((hKW.2.1 _ List.mem_cons_self).2.2.2).lt))) ?_
  suffices hs9 : ∀ r9 : Value, r9 = cv (adr b h) (xr 5 0) → W p l e (mrk iX10_init 331 10132) s m args below meth c H1 _ _ _ Q (F0 m _ ls [r9, .ref (adr b h 1 0 + 1 + 1 + 65), .ref (adr b h 1 0 + 1 + 1 + 65), .ref (adr b h 1 0)]) from hs9 _ (congrArg Value.ref e5.symm)
  rintro r9 rfl
  refine k_call (idx := 18) hbh hC hw (K_course 0 (by decide) (by decide)) (Or.inl mlX10_X4) kX4_init rfl rfl (by decide +kernel) rfl hl.1 (Nat.le_of_ble_eq_true rfl) (by decide +kernel) e26 hA hKW h1 o1 hbl (by
    rintro k i (⟨g, rfl⟩ | ⟨rfl, g1, g2⟩ | ⟨g, rfl⟩)
    · rcases (show k = 26 ∨ k = 27 ∨ k = 28 ∨ k = 29 ∨ k = 30 ∨ k = 32 ∨ k = 33 ∨ k = 34 by omega) with rfl | rfl | rfl | rfl | rfl | rfl | rfl | rfl <;> exact law_kt (by decide) (by decide)
    · exact law_kt (by omega) (by show i < (54 : Int); omega)
    · rcases (show k = 20 ∨ k = 21 ∨ k = 22 ∨ k = 23 ∨ k = 24 ∨ k = 25 by omega) with rfl | rfl | rfl | rfl | rfl | rfl <;> exact law_kt (by decide) (by decide)) (by
    intro x hx
    rw [List.mem_singleton.mp hx]
    show ¬ courseV 0 1 0
    rintro (⟨g, -⟩ | ⟨g, -⟩ | ⟨g, -⟩)
    · rcases g with g | g <;> exact absurd g.1 (by decide)
    · exact absurd g (by decide)
    · exact absurd g.1 (by decide)) ⟨by decide, by decide⟩ fun H2 locs2 hKW => ?_
  refine k_put (k := 1) (i0 := 0) (v := .ref (adr b h 1 0 + 1 + 1 + 65)) hC hinj rfl tkX10_init rfl rfl (Or.inr ⟨hin, rfl, rfl⟩) (ty9 := .object "Cloudseed$Course") (by decide +kernel) rfl rfl hKW (by repeat' first | exact fun _ h => absurd h List.not_mem_nil | refine List.forall_mem_cons.mpr ⟨Nat.ne_of_beq_eq_false rfl, ?_⟩) fun H1 locs1 hKW => ?_
  refine lv_aload_n (k := 0) hC.1 hC.2.1 (by decide +kernel) rfl hl0 ?_
  refine k_new (kx := 26) (idx := 16) hC rfl clX10_16 insX4 (by decide +kernel) ⟨by decide, by decide⟩ hKW.2.2.1 fun H1 h1 o1 hbl => ?_
  refine lv_dup hC.1 hC.2.1 (by decide +kernel) rfl ?_
  refine lv_aload_n (k := 0) hC.1 hC.2.1 (by decide +kernel) rfl hl0 ?_
  refine k_get (k := 1) hC rfl tkX10_init rfl rfl (rawOK.kept ((hKW.2.1 _ List.mem_cons_self).2.2.2) (o1 _ (by rw [← hKW.2.2.1]; exact ((hKW.2.1 _ List.mem_cons_self).2.2.2).lt))) ?_
  suffices hs9 : ∀ r9 : Value, r9 = cv (adr b h) (xr 5 0) → W p l e (mrk iX10_init 331 10132) s m args below meth c H1 _ _ _ Q (F0 m _ ls [r9, .ref (adr b h 1 0 + 1 + 1 + 65 + 1 + 40), .ref (adr b h 1 0 + 1 + 1 + 65 + 1 + 40), .ref (adr b h 1 0)]) from hs9 _ (congrArg Value.ref e5.symm)
  rintro r9 rfl
  refine k_call (idx := 18) hbh hC hw (K_course 1 (by decide) (by decide)) (Or.inl mlX10_X4) kX4_init rfl rfl (by decide +kernel) rfl hl.1 (Nat.le_of_ble_eq_true rfl) (by decide +kernel) e26b hA hKW h1 o1 hbl (by
    rintro k i (⟨g, rfl⟩ | ⟨rfl, g1, g2⟩ | ⟨g, rfl⟩)
    · rcases (show k = 26 ∨ k = 27 ∨ k = 28 ∨ k = 29 ∨ k = 30 ∨ k = 32 ∨ k = 33 ∨ k = 34 by omega) with rfl | rfl | rfl | rfl | rfl | rfl | rfl | rfl <;> exact law_kt (by decide) (by decide)
    · exact law_kt (by omega) (by show i < (54 : Int); omega)
    · rcases (show k = 20 ∨ k = 21 ∨ k = 22 ∨ k = 23 ∨ k = 24 ∨ k = 25 by omega) with rfl | rfl | rfl | rfl | rfl | rfl <;> exact law_kt (by decide) (by decide)) (by
    intro x hx
    rw [List.mem_singleton.mp hx]
    show ¬ courseV 1 1 0
    rintro (⟨g, -⟩ | ⟨g, -⟩ | ⟨g, -⟩)
    · rcases g with g | g <;> exact absurd g.1 (by decide)
    · exact absurd g (by decide)
    · exact absurd g.1 (by decide)) ⟨by decide, by decide⟩ fun H2 locs2 hKW => ?_
  refine k_put (k := 1) (i0 := 0) (v := .ref (adr b h 1 0 + 1 + 1 + 65 + 1 + 40)) hC hinj rfl tkX10_init rfl rfl (Or.inr ⟨hin, rfl, rfl⟩) (ty9 := .object "Cloudseed$Course") (by decide +kernel) rfl rfl hKW (by repeat' first | exact fun _ h => absurd h List.not_mem_nil | refine List.forall_mem_cons.mpr ⟨Nat.ne_of_beq_eq_false rfl, ?_⟩) fun H1 locs1 hKW => ?_
  refine k_nq (k := 1) (k4 := 2) (i0 := 0) (n := 30) (w := 2) hC hin hinj hA rfl hl0 (by decide +kernel) (Or.inr (Or.inl ⟨rfl, by decide, by decide +kernel⟩)) (idx2 := 28) (by decide +kernel) rfl rfl clX10_28 (hw.1 _ (by decide +kernel)) tkX10_init rfl rfl ⟨rfl, rfl⟩ (ty9 := .array (.object "Cloudseed$Book")) (by decide +kernel) (fun _ => ⟨rfl, rfl⟩) (Or.inr ⟨by decide, by decide⟩) (by
    rintro (((q | ⟨⟨g, -⟩, -⟩) | (⟨g, -⟩ | ⟨g, -⟩ | ⟨g, -⟩)) | (⟨g, -⟩ | ⟨g, -⟩ | ⟨g, -⟩))
    · exact q
    · exact absurd g (by decide)
    · rcases g with g | g <;> exact absurd g.1 (by decide)
    · exact absurd g (by decide)
    · exact absurd g.1 (by decide)
    · rcases g with g | g <;> exact absurd g.1 (by decide)
    · exact absurd g (by decide)
    · exact absurd g.1 (by decide)) e2 hKW (by repeat' first | exact fun _ h => absurd h List.not_mem_nil | refine List.forall_mem_cons.mpr ⟨Nat.ne_of_beq_eq_false rfl, ?_⟩) (by repeat' first | exact fun _ h => absurd h List.not_mem_nil | refine List.forall_mem_cons.mpr ⟨Nat.ne_of_beq_eq_false rfl, ?_⟩) ⟨by decide, by decide⟩ fun H1 locs1 hKW => ?_
  refine lv_iconst (n := 0) hC.1 hC.2.1 (by decide +kernel) rfl ?_
  refine lv_istore_n (k := 1) hC.1 hC.2.1 (by decide +kernel) rfl hl (by decide) rfl fun ls2 hl2 => ?_
  have hl9 : lv_has ls2 (iX10_init.2.2.1) [(0, .ref (adr b h 1 0)), (1, .int (I 0))] := lv_sub hl2 [1, 0] rfl
  have hKW := hKW.sub (Rw' := [(2, fun _ => .null), (1, _)]) (by repeat' first | exact fun _ h => absurd h List.not_mem_nil | exact List.mem_cons_self | exact List.mem_cons_of_mem _ List.mem_cons_self | exact List.mem_cons_of_mem _ (List.mem_cons_of_mem _ List.mem_cons_self) | exact List.mem_cons_of_mem _ (List.mem_cons_of_mem _ (List.mem_cons_of_mem _ List.mem_cons_self)) | exact List.mem_cons_of_mem _ (List.mem_cons_of_mem _ (List.mem_cons_of_mem _ (List.mem_cons_of_mem _ List.mem_cons_self))) | exact List.mem_cons_of_mem _ (List.mem_cons_of_mem _ (List.mem_cons_of_mem _ (List.mem_cons_of_mem _ (List.mem_cons_of_mem _ List.mem_cons_self)))) | refine List.forall_mem_cons.mpr ⟨?_, ?_⟩)
  refine k_fill (P := 56) (E := 81) (PI := 71) (w := 2) (N := 30) (k := 1) (k4 := 2) (kx := 20) (nc := 5) (ns := 86) (idxn := 28) (idxi := 34) (na := 0) (z0 := adr b h 1 0 + 1 + 1 + 65 + 1 + 40 + 1 + 40 + 1) (c0 := 149) (s0 := 7365) (off1 := 22) (off2 := -22) (vf := 1) (ixf := (fun j => (j : Int))) (avsf := (fun _ => [])) (Vf := (fun j k i => (20 ≤ k ∧ k ≤ 25) ∧ i = (j : Int))) (y := iX3_init) (rest := []) hbh hC hw hA tkX10_init (by decide) (by decide) (by decide +kernel) (Or.inr (Or.inl ⟨rfl, by decide, by decide +kernel⟩)) (by decide +kernel) (by decide) (by decide +kernel) rfl rfl (by decide +kernel) (by decide +kernel) clX10_28 insX3 (by decide +kernel) (fun j H1 locs1 ls1 c1 s1 z1 _ hh => hh) (by decide +kernel) (by decide +kernel) (by decide +kernel) (by decide +kernel) (by decide) (fun j hj => K_book (j : Int) (by omega) (by omega)) (Or.inr (by decide +kernel)) kX3_init rfl rfl (by decide +kernel) (fun _ => rfl) (Nat.zero_le _) (fun j hj => e20 j hj) (fun j hj k i => by
    rintro ⟨⟨g1, g2⟩, rfl⟩
    rcases (show k = 20 ∨ k = 21 ∨ k = 22 ∨ k = 23 ∨ k = 24 ∨ k = 25 by omega) with rfl | rfl | rfl | rfl | rfl | rfl <;> exact law_kt (by omega) (by show (j : Int) < 32; omega)) (fun j hj => ⟨⟨by decide, by decide⟩, rfl⟩) (fun j hj => by repeat' first | exact fun _ h => absurd h List.not_mem_nil | refine List.forall_mem_cons.mpr ⟨fun q => absurd q.1.1 (by decide), ?_⟩) rfl rfl rfl rfl rfl (by exact congrArg Value.ref e2.symm) (by repeat' first | exact fun _ h => absurd h List.not_mem_nil | refine List.forall_mem_cons.mpr ⟨Nat.ne_of_beq_eq_false rfl, ?_⟩) ⟨by decide, by decide⟩ (fun H3 locs3 ls3 hKW hl3 => ?_) 30 0 rfl _ _ _ hKW.start hl9
  have hKW := hKW.done (k := 2) (i0 := 0) (by repeat' first | exact fun _ h => absurd h List.not_mem_nil | refine List.forall_mem_cons.mpr ⟨Nat.ne_of_beq_eq_false rfl, ?_⟩) (by decide) (by decide) (fun s hs => by
    have hs : s < 30 := hs
    exact if_pos hs)
  have hl0 := lv_at hl3 0 rfl
  refine k_nf (k := 1) (k2 := 3) (i0 := 0) (n := 5) (w := 1) hC hin hinj hA rfl hl0 (by decide +kernel) (Or.inl ⟨rfl, by decide +kernel⟩) (by decide +kernel) (Or.inl ⟨rfl, rfl⟩) rfl tkX10_init rfl rfl ⟨rfl, rfl⟩ (ty9 := (.array .int)) (by decide +kernel) (fun _ => ⟨rfl, rfl⟩) (Or.inr ⟨by decide, by decide⟩) e3 (fun j => rfl) hKW (by repeat' first | exact fun _ h => absurd h List.not_mem_nil | refine List.forall_mem_cons.mpr ⟨Nat.ne_of_beq_eq_false rfl, ?_⟩) (by repeat' first | exact fun _ h => absurd h List.not_mem_nil | refine List.forall_mem_cons.mpr ⟨Nat.ne_of_beq_eq_false rfl, ?_⟩) ⟨by decide, by decide⟩ fun H1 locs1 hKW => ?_
  refine k_nf (k := 1) (k2 := 4) (i0 := 0) (n := 32) (w := 2) hC hin hinj hA rfl hl0 (by decide +kernel) (Or.inr (Or.inl ⟨rfl, by decide, by decide +kernel⟩)) (by decide +kernel) (Or.inl ⟨rfl, rfl⟩) rfl tkX10_init rfl rfl ⟨rfl, rfl⟩ (ty9 := (.array .int)) (by decide +kernel) (fun _ => ⟨rfl, rfl⟩) (Or.inr ⟨by decide, by decide⟩) e4 (fun j => rfl) hKW (by repeat' first | exact fun _ h => absurd h List.not_mem_nil | refine List.forall_mem_cons.mpr ⟨Nat.ne_of_beq_eq_false rfl, ?_⟩) (by repeat' first | exact fun _ h => absurd h List.not_mem_nil | refine List.forall_mem_cons.mpr ⟨Nat.ne_of_beq_eq_false rfl, ?_⟩) ⟨by decide, by decide⟩ fun H1 locs1 hKW => ?_
  have hKW := hKW.done (k := 1) (i0 := 0) (fun x hx => absurd hx List.not_mem_nil) (by decide) (by decide) (fun s hs => by
    have hs : s < 6 := hs
    rcases (show s = 0 ∨ s = 1 ∨ s = 2 ∨ s = 3 ∨ s = 4 ∨ s = 5 by omega) with rfl | rfl | rfl | rfl | rfl | rfl <;> first | rfl | exact congrArg Value.ref e5.symm | exact congrArg Value.ref e26.symm | exact congrArg Value.ref e26b.symm | exact congrArg Value.ref e2.symm | exact congrArg Value.ref e3.symm | exact congrArg Value.ref e4.symm)
  refine hret _ _ _ _ (fun k i hv => hKW.1 k i ?_) hKW.2.2.1 hKW.2.2.2.2 (by decide +kernel)
  obtain ⟨⟨g1, g2⟩, g3, g4⟩ := hv
  rcases (show k = 1 ∨ k = 2 ∨ k = 3 ∨ k = 4 ∨ (5 ≤ k ∧ k ≤ 19) ∨ (20 ≤ k ∧ k ≤ 25) ∨ (26 ≤ k ∧ k ≤ 30 ∨ 32 ≤ k ∧ k ≤ 34) ∨ k = 31 by omega) with rfl | rfl | rfl | rfl | g | g | g | rfl
  · have g4 : i < 1 := g4; exact Or.inr ⟨rfl, by omega⟩
  · have g4 : i < 1 := g4; exact Or.inl (Or.inl (Or.inl (Or.inr ⟨rfl, by omega⟩)))
  · have g4 : i < 1 := g4; exact Or.inl (Or.inl (Or.inr (⟨rfl, by omega⟩)))
  · have g4 : i < 1 := g4; exact Or.inl (Or.inr ⟨rfl, by omega⟩)
  · exact Or.inl (Or.inl (Or.inl (Or.inl (Or.inl (Or.inl (Or.inl (Or.inr (⟨g, g3, g4⟩))))))))
  · have g5 : i < 32 := by
      rcases (show k = 20 ∨ k = 21 ∨ k = 22 ∨ k = 23 ∨ k = 24 ∨ k = 25 by omega) with rfl | rfl | rfl | rfl | rfl | rfl <;> exact g4
    rcases (show i < 30 ∨ i = 30 ∨ i = 31 by omega) with q | q | q
    · exact Or.inl (Or.inl (Or.inl (Or.inl (Or.inr (⟨i.toNat, by omega, g, by omega⟩)))))
    · exact Or.inl (Or.inl (Or.inl (Or.inl (Or.inl (Or.inl (Or.inr ((Or.inr (Or.inr ⟨g, by omega⟩)))))))))
    · exact Or.inl (Or.inl (Or.inl (Or.inl (Or.inl (Or.inr ((Or.inr (Or.inr ⟨g, by omega⟩))))))))
  · have g5 : i < 2 := by
      rcases (show k = 26 ∨ k = 27 ∨ k = 28 ∨ k = 29 ∨ k = 30 ∨ k = 32 ∨ k = 33 ∨ k = 34 by omega) with rfl | rfl | rfl | rfl | rfl | rfl | rfl | rfl <;> exact g4
    rcases (show i = 0 ∨ i = 1 by omega) with q | q
    · exact Or.inl (Or.inl (Or.inl (Or.inl (Or.inl (Or.inl (Or.inr ((Or.inl ⟨g, q⟩))))))))
    · exact Or.inl (Or.inl (Or.inl (Or.inl (Or.inl (Or.inr ((Or.inl ⟨g, q⟩)))))))
  · have g4 : i < 54 := g4
    by_cases q : i < 27
    · exact Or.inl (Or.inl (Or.inl (Or.inl (Or.inl (Or.inl (Or.inr ((Or.inr (Or.inl ⟨rfl, by omega, by omega⟩)))))))))
    · exact Or.inl (Or.inl (Or.inl (Or.inl (Or.inl (Or.inr (Or.inr (Or.inl ⟨rfl, by omega, by omega⟩)))))))
