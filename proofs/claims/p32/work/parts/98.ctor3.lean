/-! ===== the objects are made: a course ===== -/
theorem law_kt {k : Nat} {i : Int} (h0 : 0 ≤ i) (h1 : i < km k) : lawV k i ∧ kt k ≠ 0 := by
  have q : ∀ k, k < 102 → km k ≠ 0 → kt k ≠ 0 := by decide +kernel
  exact ⟨Or.inr ⟨h0, h1⟩, q k (km_lt h0 h1) (by omega)⟩
theorem law_vs {k0 : Nat} {i0 : Int} (h0 : 0 ≤ i0) (h1 : i0 < km k0) : ∀ k i, vs k0 i0 k i → lawV k i ∧ kt k ≠ 0 := by
  rintro k i ⟨rfl, rfl⟩
  exact law_kt h0 h1
theorem fiG_0 (ad : Nat → Int → Nat) (kx : Nat) (ixf : Nat → Int) : fiG ad kx ixf 0 = fun _ => .null := funext fun q => if_neg (Nat.not_lt_zero q)
theorem KW.start {D : DD} {ad : Nat → Int → Nat} {mm : Mm} {o : Int64} {i0 : Int} {A : Nat → Prop} {H0 : Heap} {z nc k4 kx : Nat} {V : Nat → Int → Prop} {Rw : RW} {H : Heap} {locs : List Loc} {ixf : Nat → Int} {Vf : Nat → Nat → Int → Prop} (h : KW D ad mm o i0 A H0 z V ((k4, fun _ => .null) :: Rw) H locs) : KW D ad mm o i0 A H0 (z + 0 * (1 + nc)) (vor V (fiV Vf 0)) ((k4, fiG ad kx ixf 0) :: Rw) H locs := by
  rw [fiG_0, Nat.zero_mul]
  exact h.eqV fun k i => ⟨fun q => q.elim id (fun ⟨j, hj, _⟩ => absurd hj (Nat.not_lt_zero j)), Or.inl⟩
def courseV (x : Int) : Nat → Int → Prop := fun k i => ((26 ≤ k ∧ k ≤ 30 ∨ 32 ≤ k ∧ k ≤ 34) ∧ i = x) ∨ (k = 31 ∧ 27 * x ≤ i ∧ i < 27 * x + 27) ∨ ((20 ≤ k ∧ k ≤ 25) ∧ i = 30 + x)
set_option maxRecDepth 100000 in
set_option maxHeartbeats 400000 in
theorem K_course (v : Int) (v0 : 0 ≤ v) (v1 : v < 2) : MetK iX4_init 40 965 26 v [xr 5 0] mmI (courseV v) := by
  refine MetK.of (by decide +kernel) rfl rfl (Nat.le_of_ble_eq_true rfl) (by repeat' first | exact fun _ h => absurd h List.not_mem_nil | exact trivial | refine List.forall_mem_cons.mpr ⟨?_, ?_⟩) (Or.inr ⟨v0, v1⟩) (by decide) ?_
  intro p l e s m args below meth c Q b h D o ls hbh hC hin hw hKW hA hl hret
  have hinj := adr_inj hbh
  have hl0 := lv_at hl 0 rfl
  have a26 : adr b h 26 v = h + (67 + 41 * v.toNat) := rfl
  have e20 : adr b h 20 (30 + v) = adr b h 26 v + 1 := by
    show h + (bif Nat.blt (30 + v).toNat 30 then 150 + 6 * (30 + v).toNat + 0 else 68 + 41 * ((30 + v).toNat - 30) + 0) = h + (67 + 41 * v.toNat) + 1
    rw [show Nat.blt (30 + v).toNat 30 = false by rw [← Bool.not_eq_true, Nat.blt_eq]; omega, cond_false]
    omega
  have e27 : adr b h 27 v = adr b h 26 v + 1 + 1 + 5 := by show h + (74 + 41 * v.toNat) = h + (67 + 41 * v.toNat) + 1 + 1 + 5; omega
  have e29 : adr b h 29 v = adr b h 26 v + 1 + 1 + 5 + 1 + 1 := by show h + (76 + 41 * v.toNat) = h + (67 + 41 * v.toNat) + 1 + 1 + 5 + 1 + 1; omega
  have e30 : adr b h 30 v = adr b h 26 v + 1 + 1 + 5 + 1 + 1 + 1 := by show h + (77 + 41 * v.toNat) = h + (67 + 41 * v.toNat) + 1 + 1 + 5 + 1 + 1 + 1; omega
  have e32 : adr b h 32 v = adr b h 26 v + 1 + 1 + 5 + 1 + 1 + 1 + 1 := by show h + (78 + 41 * v.toNat) = h + (67 + 41 * v.toNat) + 1 + 1 + 5 + 1 + 1 + 1 + 1; omega
  have e33 : adr b h 33 v = adr b h 26 v + 1 + 1 + 5 + 1 + 1 + 1 + 1 + 1 := by show h + (79 + 41 * v.toNat) = h + (67 + 41 * v.toNat) + 1 + 1 + 5 + 1 + 1 + 1 + 1 + 1; omega
  have e34 : adr b h 34 v = adr b h 26 v + 1 + 1 + 5 + 1 + 1 + 1 + 1 + 1 + 1 := by show h + (80 + 41 * v.toNat) = h + (67 + 41 * v.toNat) + 1 + 1 + 5 + 1 + 1 + 1 + 1 + 1 + 1; omega
  have e31 : ∀ j : Nat, j < 27 → adr b h 31 (27 * v + (j : Int)) = adr b h 26 v + 14 + j := fun j hj => by
    show h + (81 + (27 * v + (j : Int)).toNat + 14 * ((27 * v + (j : Int)).toNat / 27)) = h + (67 + 41 * v.toNat) + 14 + j
    omega
  refine lv_aload_n (k := 0) hC.1 hC.2.1 (by decide +kernel) rfl hl0 ?_
  refine k_oi hC oiX4 hl.1 (by decide +kernel) ⟨by decide, by decide⟩ (Nat.zero_le _) ?_
  refine lv_aload_n (k := 0) hC.1 hC.2.1 (by decide +kernel) rfl hl0 ?_
  refine k_new (kx := 20) (idx := 9) hC rfl clX4_9 insX3 (by decide +kernel) ⟨by decide, by decide⟩ hKW.2.2.1 fun H1 h1 o1 hbl => ?_
  refine lv_dup hC.1 hC.2.1 (by decide +kernel) rfl ?_
  refine k_call (idx := 11) hbh hC hw (K_book (30 + v) (by omega) (by omega)) (Or.inr (by decide +kernel)) kX3_init rfl rfl (by decide +kernel) rfl hl.1 (Nat.le_of_ble_eq_true rfl) (by decide +kernel) e20 hA hKW h1 o1 hbl (by
    rintro k i ⟨⟨g1, g2⟩, rfl⟩
    rcases (show k = 20 ∨ k = 21 ∨ k = 22 ∨ k = 23 ∨ k = 24 ∨ k = 25 by omega) with rfl | rfl | rfl | rfl | rfl | rfl <;> exact law_kt (by omega) (by show 30 + v < 32; omega)) (by intro x hx; rw [List.mem_singleton.mp hx]; rintro ⟨⟨-, g⟩, -⟩; exact absurd g (by decide)) ⟨by decide, by decide⟩ fun H2 locs2 hKW => ?_
  refine k_put (k := 26) (i0 := v) (v := .ref (adr b h 26 v + 1)) hC hinj rfl tkX4_init rfl rfl (Or.inr ⟨hin, rfl, rfl⟩) (ty9 := .object "Cloudseed$Book") (by decide +kernel) rfl rfl hKW (by repeat' first | exact fun _ h => absurd h List.not_mem_nil | refine List.forall_mem_cons.mpr ⟨Nat.ne_of_beq_eq_false rfl, ?_⟩) fun H1 locs1 hKW => ?_
  refine lv_aload_n (k := 0) hC.1 hC.2.1 (by decide +kernel) rfl hl0 ?_
  refine k_new (kx := 27) (idx := 18) hC rfl clX4_18 insX2 (by decide +kernel) ⟨by decide, by decide⟩ hKW.2.2.1 fun H1 h1 o1 hbl => ?_
  refine lv_dup hC.1 hC.2.1 (by decide +kernel) rfl ?_
  refine k_call (idx := 20) hbh hC hw (K_arch v v0 v1) (Or.inr (by decide +kernel)) kX2_init rfl rfl (by decide +kernel) rfl hl.1 (Nat.le_of_ble_eq_true rfl) (by decide +kernel) e27 hA hKW h1 o1 hbl (by
    rintro k i ⟨rfl | rfl, rfl⟩ <;> exact law_kt v0 v1) (by intro x hx; rw [List.mem_singleton.mp hx]; rintro ⟨g | g, -⟩ <;> exact absurd g (Nat.ne_of_beq_eq_false rfl)) ⟨by decide, by decide⟩ fun H2 locs2 hKW => ?_
  refine k_put (k := 26) (i0 := v) (v := .ref (adr b h 26 v + 1 + 1 + 5)) hC hinj rfl tkX4_init rfl rfl (Or.inr ⟨hin, rfl, rfl⟩) (ty9 := .object "Cloudseed$Archive") (by decide +kernel) rfl rfl hKW (by repeat' first | exact fun _ h => absurd h List.not_mem_nil | refine List.forall_mem_cons.mpr ⟨Nat.ne_of_beq_eq_false rfl, ?_⟩) fun H1 locs1 hKW => ?_
  refine k_nq (k := 26) (k4 := 29) (i0 := v) (n := 3) (w := 1) hC hin hinj hA rfl hl0 (by decide +kernel) (Or.inl ⟨rfl, by decide +kernel⟩) (idx2 := 25) (by decide +kernel) rfl rfl clX4_25 (hw.1 _ (by decide +kernel)) tkX4_init rfl rfl ⟨rfl, rfl⟩ (ty9 := .array (.object "Cloudseed$Visit")) (by decide +kernel) (fun _ => ⟨rfl, rfl⟩) (Or.inr ⟨v0, v1⟩) (by
    rintro ((q | ⟨⟨g1, g2⟩, -⟩) | ⟨g | g, -⟩)
    · exact q
    · exact absurd g2 (by decide)
    · exact absurd g (by decide)
    · exact absurd g (by decide)) e29 hKW (by repeat' first | exact fun _ h => absurd h List.not_mem_nil | refine List.forall_mem_cons.mpr ⟨Nat.ne_of_beq_eq_false rfl, ?_⟩) (by repeat' first | exact fun _ h => absurd h List.not_mem_nil | refine List.forall_mem_cons.mpr ⟨Nat.ne_of_beq_eq_false rfl, ?_⟩) ⟨by decide, by decide⟩ fun H1 locs1 hKW => ?_
  refine k_nq (k := 26) (k4 := 30) (i0 := v) (n := 24) (w := 2) hC hin hinj hA rfl hl0 (by decide +kernel) (Or.inr (Or.inl ⟨rfl, by decide, by decide +kernel⟩)) (idx2 := 25) (by decide +kernel) rfl rfl clX4_25 (hw.1 _ (by decide +kernel)) tkX4_init rfl rfl ⟨rfl, rfl⟩ (ty9 := .array (.object "Cloudseed$Visit")) (by decide +kernel) (fun _ => ⟨rfl, rfl⟩) (Or.inr ⟨v0, v1⟩) (by
    rintro ((q | ⟨⟨g1, g2⟩, -⟩) | ⟨g | g, -⟩)
    · exact q
    · exact absurd g2 (by decide)
    · exact absurd g (by decide)
    · exact absurd g (by decide)) e30 hKW (by repeat' first | exact fun _ h => absurd h List.not_mem_nil | refine List.forall_mem_cons.mpr ⟨Nat.ne_of_beq_eq_false rfl, ?_⟩) (by repeat' first | exact fun _ h => absurd h List.not_mem_nil | refine List.forall_mem_cons.mpr ⟨Nat.ne_of_beq_eq_false rfl, ?_⟩) ⟨by decide, by decide⟩ fun H1 locs1 hKW => ?_
  refine k_nf (k := 26) (k2 := 32) (i0 := v) (n := 4) (w := 1) hC hin hinj hA rfl hl0 (by decide +kernel) (Or.inl ⟨rfl, by decide +kernel⟩) (by decide +kernel) (Or.inl ⟨rfl, rfl⟩) rfl tkX4_init rfl rfl ⟨rfl, rfl⟩ (ty9 := (.array .int)) (by decide +kernel) (fun _ => ⟨rfl, rfl⟩) (Or.inr ⟨v0, v1⟩) e32 (fun j => rfl) hKW (by repeat' first | exact fun _ h => absurd h List.not_mem_nil | refine List.forall_mem_cons.mpr ⟨Nat.ne_of_beq_eq_false rfl, ?_⟩) (by repeat' first | exact fun _ h => absurd h List.not_mem_nil | refine List.forall_mem_cons.mpr ⟨Nat.ne_of_beq_eq_false rfl, ?_⟩) ⟨by decide, by decide⟩ fun H1 locs1 hKW => ?_
  refine k_nf (k := 26) (k2 := 33) (i0 := v) (n := 3) (w := 1) hC hin hinj hA rfl hl0 (by decide +kernel) (Or.inl ⟨rfl, by decide +kernel⟩) (by decide +kernel) (Or.inl ⟨rfl, rfl⟩) rfl tkX4_init rfl rfl ⟨rfl, rfl⟩ (ty9 := (.array .int)) (by decide +kernel) (fun _ => ⟨rfl, rfl⟩) (Or.inr ⟨v0, v1⟩) e33 (fun j => rfl) hKW (by repeat' first | exact fun _ h => absurd h List.not_mem_nil | refine List.forall_mem_cons.mpr ⟨Nat.ne_of_beq_eq_false rfl, ?_⟩) (by repeat' first | exact fun _ h => absurd h List.not_mem_nil | refine List.forall_mem_cons.mpr ⟨Nat.ne_of_beq_eq_false rfl, ?_⟩) ⟨by decide, by decide⟩ fun H1 locs1 hKW => ?_
  refine k_nf (k := 26) (k2 := 34) (i0 := v) (n := 3) (w := 1) hC hin hinj hA rfl hl0 (by decide +kernel) (Or.inl ⟨rfl, by decide +kernel⟩) (by decide +kernel) (Or.inl ⟨rfl, rfl⟩) rfl tkX4_init rfl rfl ⟨rfl, rfl⟩ (ty9 := (.array .int)) (by decide +kernel) (fun _ => ⟨rfl, rfl⟩) (Or.inr ⟨v0, v1⟩) e34 (fun j => rfl) hKW (by repeat' first | exact fun _ h => absurd h List.not_mem_nil | refine List.forall_mem_cons.mpr ⟨Nat.ne_of_beq_eq_false rfl, ?_⟩) (by repeat' first | exact fun _ h => absurd h List.not_mem_nil | refine List.forall_mem_cons.mpr ⟨Nat.ne_of_beq_eq_false rfl, ?_⟩) ⟨by decide, by decide⟩ fun H1 locs1 hKW => ?_
  refine lv_aload_n (k := 0) hC.1 hC.2.1 (by decide +kernel) rfl hl0 ?_
  refine lv_aload_n (k := 1) hC.1 hC.2.1 (by decide +kernel) rfl (lv_at hl 1 rfl) ?_
  refine k_put (k := 26) (i0 := v) (v := .ref (adr b h 5 0)) hC hinj rfl tkX4_init rfl rfl (Or.inr ⟨hin, rfl, rfl⟩) (ty9 := .object "Cloudseed$Plan") (by decide +kernel) rfl rfl hKW (by repeat' first | exact fun _ h => absurd h List.not_mem_nil | refine List.forall_mem_cons.mpr ⟨Nat.ne_of_beq_eq_false rfl, ?_⟩) fun H1 locs1 hKW => ?_
  refine lv_iconst (n := 0) hC.1 hC.2.1 (by decide +kernel) rfl ?_
  refine lv_istore_n (k := 2) hC.1 hC.2.1 (by decide +kernel) rfl hl (by decide) rfl fun ls2 hl2 => ?_
  have hl9 : lv_has ls2 (iX4_init.2.2.1) [(0, .ref (adr b h 26 v)), (2, .int (I 0))] := lv_sub hl2 [1, 0] rfl
  have hKW := hKW.sub (Rw' := [(29, fun _ => .null), (26, _), (30, fun _ => .null)]) (by repeat' first | exact fun _ h => absurd h List.not_mem_nil | exact List.mem_cons_self | exact List.mem_cons_of_mem _ List.mem_cons_self | exact List.mem_cons_of_mem _ (List.mem_cons_of_mem _ List.mem_cons_self) | exact List.mem_cons_of_mem _ (List.mem_cons_of_mem _ (List.mem_cons_of_mem _ List.mem_cons_self)) | exact List.mem_cons_of_mem _ (List.mem_cons_of_mem _ (List.mem_cons_of_mem _ (List.mem_cons_of_mem _ List.mem_cons_self))) | exact List.mem_cons_of_mem _ (List.mem_cons_of_mem _ (List.mem_cons_of_mem _ (List.mem_cons_of_mem _ (List.mem_cons_of_mem _ List.mem_cons_self)))) | refine List.forall_mem_cons.mpr ⟨?_, ?_⟩)
  refine k_fill (P := 71) (E := 95) (PI := 85) (w := 1) (N := 3) (k := 26) (k4 := 29) (kx := 31) (nc := 0) (ns := 0) (idxn := 25) (idxi := 48) (na := 0) (z0 := adr b h 26 v + 1 + 1 + 5 + 1 + 1 + 1 + 1 + 1 + 1 + 1) (c0 := 13) (s0 := 830) (off1 := 22) (off2 := -21) (vf := 2) (ixf := (fun j => 27 * v + (j : Int))) (avsf := (fun _ => [])) (Vf := (fun j => vs 31 (27 * v + (j : Int)))) (y := iX9_init) (rest := []) hbh hC hw hA tkX4_init (by decide) (by decide) (by decide +kernel) (Or.inl ⟨rfl, by decide +kernel⟩) (by decide +kernel) (by decide) (by decide +kernel) rfl rfl (by decide +kernel) (by decide +kernel) clX4_25 insX9 (by decide +kernel) (fun j H1 locs1 ls1 c1 s1 z1 _ hh => hh) (by decide +kernel) (by decide +kernel) (by decide +kernel) (by decide +kernel) (by decide) (fun j hj => K_visit (27 * v + (j : Int)) (by omega) (by omega)) (Or.inr (by decide +kernel)) kX9_init rfl rfl (by decide +kernel) (fun _ => rfl) (Nat.zero_le _) (fun j hj => by rw [e31 j (by omega)]; omega) (fun j hj => law_vs (by omega) (by show 27 * v + (j : Int) < 54; omega)) (fun j hj => ⟨rfl, rfl⟩) (fun j hj => by repeat' first | exact fun _ h => absurd h List.not_mem_nil | refine List.forall_mem_cons.mpr ⟨fun q => absurd q.1 (Nat.ne_of_beq_eq_false rfl), ?_⟩) rfl rfl rfl rfl rfl (by exact congrArg Value.ref e29.symm) (by repeat' first | exact fun _ h => absurd h List.not_mem_nil | refine List.forall_mem_cons.mpr ⟨Nat.ne_of_beq_eq_false rfl, ?_⟩) ⟨by decide, by decide⟩ (fun H3 locs3 ls3 hKW hl3 => ?_) 3 0 rfl _ _ _ hKW.start hl9
  have hKW := hKW.done (k := 29) (i0 := v) (by repeat' first | exact fun _ h => absurd h List.not_mem_nil | refine List.forall_mem_cons.mpr ⟨Nat.ne_of_beq_eq_false rfl, ?_⟩) (by decide) (by decide) (fun s hs => by
    have hs : s < 3 := hs
    exact if_pos hs)
  refine lv_iconst (n := 0) hC.1 hC.2.1 (by decide +kernel) rfl ?_
  refine lv_istore_n (k := 2) hC.1 hC.2.1 (by decide +kernel) rfl hl3 (by decide) rfl fun ls2 hl2 => ?_
  have hl9 : lv_has ls2 (iX4_init.2.2.1) [(0, .ref (adr b h 26 v)), (2, .int (I 0))] := lv_sub hl2 [1, 0] rfl
  have hKW := hKW.sub (Rw' := [(30, fun _ => .null), (26, _)]) (by repeat' first | exact fun _ h => absurd h List.not_mem_nil | exact List.mem_cons_self | exact List.mem_cons_of_mem _ List.mem_cons_self | exact List.mem_cons_of_mem _ (List.mem_cons_of_mem _ List.mem_cons_self) | exact List.mem_cons_of_mem _ (List.mem_cons_of_mem _ (List.mem_cons_of_mem _ List.mem_cons_self)) | exact List.mem_cons_of_mem _ (List.mem_cons_of_mem _ (List.mem_cons_of_mem _ (List.mem_cons_of_mem _ List.mem_cons_self))) | exact List.mem_cons_of_mem _ (List.mem_cons_of_mem _ (List.mem_cons_of_mem _ (List.mem_cons_of_mem _ (List.mem_cons_of_mem _ List.mem_cons_self)))) | refine List.forall_mem_cons.mpr ⟨?_, ?_⟩)
  refine k_fill (P := 97) (E := 122) (PI := 112) (w := 2) (N := 24) (k := 26) (k4 := 30) (kx := 31) (nc := 0) (ns := 0) (idxn := 25) (idxi := 48) (na := 0) (z0 := adr b h 26 v + 1 + 1 + 5 + 1 + 1 + 1 + 1 + 1 + 1 + 1 + 3 * (1 + 0)) (c0 := 16) (s0 := 845) (off1 := 22) (off2 := -22) (vf := 2) (ixf := (fun j => 27 * v + 3 + (j : Int))) (avsf := (fun _ => [])) (Vf := (fun j => vs 31 (27 * v + 3 + (j : Int)))) (y := iX9_init) (rest := []) hbh hC hw hA tkX4_init (by decide) (by decide) (by decide +kernel) (Or.inr (Or.inl ⟨rfl, by decide, by decide +kernel⟩)) (by decide +kernel) (by decide) (by decide +kernel) rfl rfl (by decide +kernel) (by decide +kernel) clX4_25 insX9 (by decide +kernel) (fun j H1 locs1 ls1 c1 s1 z1 _ hh => hh) (by decide +kernel) (by decide +kernel) (by decide +kernel) (by decide +kernel) (by decide) (fun j hj => K_visit (27 * v + 3 + (j : Int)) (by omega) (by omega)) (Or.inr (by decide +kernel)) kX9_init rfl rfl (by decide +kernel) (fun _ => rfl) (Nat.zero_le _) (fun j hj => by have := e31 (3 + j) (by omega); rw [show (27 * v + ((3 + j : Nat) : Int)) = 27 * v + 3 + (j : Int) by omega] at this; rw [this]; omega) (fun j hj => law_vs (by omega) (by show 27 * v + 3 + (j : Int) < 54; omega)) (fun j hj => ⟨rfl, rfl⟩) (fun j hj => by repeat' first | exact fun _ h => absurd h List.not_mem_nil | refine List.forall_mem_cons.mpr ⟨fun q => absurd q.1 (Nat.ne_of_beq_eq_false rfl), ?_⟩) rfl rfl rfl rfl rfl (by exact congrArg Value.ref e30.symm) (by repeat' first | exact fun _ h => absurd h List.not_mem_nil | refine List.forall_mem_cons.mpr ⟨Nat.ne_of_beq_eq_false rfl, ?_⟩) ⟨by decide, by decide⟩ (fun H3 locs3 ls3 hKW hl4 => ?_) 24 0 rfl _ _ _ hKW.start hl9
  have hKW := hKW.done (k := 30) (i0 := v) (by repeat' first | exact fun _ h => absurd h List.not_mem_nil | refine List.forall_mem_cons.mpr ⟨Nat.ne_of_beq_eq_false rfl, ?_⟩) (by decide) (by decide) (fun s hs => by
    have hs : s < 24 := hs
    exact if_pos hs)
  have hKW := hKW.done (k := 26) (i0 := v) (fun x hx => absurd hx List.not_mem_nil) (by decide) (by decide) (fun s hs => by
    have hs : s < 10 := hs
    rcases (show s = 0 ∨ s = 1 ∨ s = 2 ∨ s = 3 ∨ s = 4 ∨ s = 5 ∨ s = 6 ∨ s = 7 ∨ s = 8 ∨ s = 9 by omega) with rfl | rfl | rfl | rfl | rfl | rfl | rfl | rfl | rfl | rfl <;> first | rfl | exact congrArg Value.ref e20.symm | exact congrArg Value.ref e27.symm | exact congrArg Value.ref e29.symm | exact congrArg Value.ref e30.symm | exact congrArg Value.ref e32.symm | exact congrArg Value.ref e33.symm | exact congrArg Value.ref e34.symm)
  refine hret _ _ _ _ (fun k i hv => hKW.1 k i ?_) hKW.2.2.1 hKW.2.2.2.2 (by decide +kernel)
  rcases hv with ⟨g, rfl⟩ | ⟨rfl, g1, g2⟩ | ⟨g, rfl⟩
  · rcases (show k = 26 ∨ k = 27 ∨ k = 28 ∨ k = 29 ∨ k = 30 ∨ k = 32 ∨ k = 33 ∨ k = 34 by omega) with rfl | rfl | rfl | rfl | rfl | rfl | rfl | rfl
    · exact Or.inr ⟨rfl, rfl⟩
    · exact Or.inl (Or.inl (Or.inl (Or.inl (Or.inl (Or.inl (Or.inl (Or.inl (Or.inr ⟨Or.inl rfl, rfl⟩))))))))
    · exact Or.inl (Or.inl (Or.inl (Or.inl (Or.inl (Or.inl (Or.inl (Or.inl (Or.inr ⟨Or.inr rfl, rfl⟩))))))))
    · exact Or.inl (Or.inl (Or.inl (Or.inr ⟨rfl, rfl⟩)))
    · exact Or.inl (Or.inr ⟨rfl, rfl⟩)
    · exact Or.inl (Or.inl (Or.inl (Or.inl (Or.inl (Or.inl (Or.inl (Or.inr ⟨rfl, rfl⟩)))))))
    · exact Or.inl (Or.inl (Or.inl (Or.inl (Or.inl (Or.inl (Or.inr ⟨rfl, rfl⟩))))))
    · exact Or.inl (Or.inl (Or.inl (Or.inl (Or.inl (Or.inr ⟨rfl, rfl⟩)))))
  · by_cases g3 : i < 27 * v + 3
    · exact Or.inl (Or.inl (Or.inl (Or.inl (Or.inr ⟨(i - 27 * v).toNat, by omega, rfl, by omega⟩))))
    · exact Or.inl (Or.inl (Or.inr ⟨(i - 27 * v - 3).toNat, by omega, rfl, by omega⟩))
  · exact Or.inl (Or.inl (Or.inl (Or.inl (Or.inl (Or.inl (Or.inl (Or.inl (Or.inl (Or.inr ⟨g, rfl⟩)))))))))
