/-! ===== the law: its start (made by wip/p32/startgen.py) ===== -/
theorem ins_all : ∀ (k : Nat) (C : String) (T : u_T) (N : Nat), xCl[k]? = some (C, T, N) → ∃ n, Cond.instantiable C n ∈ UW
  | 0, C, T, N, h => by cases h; exact ⟨_, insX1.1⟩
  | 1, C, T, N, h => by cases h; exact ⟨_, insX2.1⟩
  | 2, C, T, N, h => by cases h; exact ⟨_, insX3.1⟩
  | 3, C, T, N, h => by cases h; exact ⟨_, insX4.1⟩
  | 4, C, T, N, h => by cases h; exact ⟨_, insX5.1⟩
  | 5, C, T, N, h => by cases h; exact ⟨_, insX6.1⟩
  | 6, C, T, N, h => by cases h; exact ⟨_, insX7.1⟩
  | 7, C, T, N, h => by cases h; exact ⟨_, insX8.1⟩
  | 8, C, T, N, h => by cases h; exact ⟨_, insX9.1⟩
  | 9, C, T, N, h => by cases h; exact ⟨_, insX10.1⟩
  | 10, C, T, N, h => by cases h; exact ⟨_, insX10.1⟩
  | k + 11, C, T, N, h => by simp [xCl] at h
section CTX
variable {p : Program} {e : Env} {s : State} {m : MethodId} {below : List Frame} {meth : Method} {c : Code} {b L : Nat} {xs : Nat → Int32}
theorem st_UW (C0 : lw_At p s m meth c b L xs) : ∀ w ∈ UW, w.before #[Value.ref b] s = true := fun w hw => C0.2.2.2.2.2.1 w (List.mem_filter.mp hw).1
theorem st_ref (hts : ∀ w ∈ lw_tbl, w.before #[Value.ref b] s = true) {C : String} (h : Cond.arrayOver (.object C) ∈ lw_tbl) : ∃ cA : ClassId, ArrOfT s cA (.object C) ∧ va_RA s cA (.object C) := by
  obtain ⟨comp, cA, kA, h1, h2, h3, h4, h5⟩ := Cond.arrayOver_spec (hts _ h)
  exact ⟨cA, fun n z => ⟨(fun k h => by cases h), kA, h3, comp, h4⟩, kA, comp, h3, h4, h1, h5⟩
theorem st_prim (hU : ∀ w ∈ UW, w.before #[Value.ref b] s = true) {ty : FieldType} (h : Cond.arrayClass ty ∈ UW) : ∃ cA : ClassId, ArrOfT s cA ty ∧ s.vm.findClass ("[" ++ ty.toString) = some cA := by
  obtain ⟨cA, kA, comp, h1, h2, h3⟩ := Cond.arrayClass_spec (hU _ h)
  exact ⟨cA, fun n z => ⟨(fun k h => by cases h), kA, h2, comp, h3⟩, h1⟩
theorem st_D (C0 : lw_At p s m meth c b L xs) : ∃ D : DD, va_K (D.1, D.2.1) xCl (tysOf D) s := by
  have hts := C0.2.2.2.2.2.1
  have hU := st_UW C0
  have hall : ∀ k : Nat, ∃ (cC : ClassId) (iS : Nat → Nat), ∀ q, xCl[k]? = some q → u_Kn s q.1 q.2.1 q.2.2 cC iS := by
    intro k
    cases hk : xCl[k]? with
    | none => exact ⟨0, fun _ => 0, fun q h => by cases h⟩
    | some q =>
      obtain ⟨C, T, N⟩ := q
      obtain ⟨n, hn⟩ := ins_all k C T N hk
      obtain ⟨cC, iS, h⟩ := u_known hU (xcl_ok k C T N hk).1 (hU _ hn)
      exact ⟨cC, iS, fun q hq => by cases hq; exact h⟩
  obtain ⟨a2, f2, g2⟩ := st_prim hU ac_int
  obtain ⟨a3, f3, g3⟩ := st_prim hU ac_boolean
  obtain ⟨a12, f12, g12⟩ := st_ref hts (C := RX3) (List.mem_of_getElem? (i := 379) (by decide +kernel))
  obtain ⟨a16, f16, g16⟩ := st_ref hts (C := RX7) (List.mem_of_getElem? (i := 38) (by decide +kernel))
  obtain ⟨a15, f15, g15⟩ := st_ref hts (C := RX6) (List.mem_of_getElem? (i := 40) (by decide +kernel))
  obtain ⟨a17, f17, g17⟩ := st_ref hts (C := RX8) (List.mem_of_getElem? (i := 42) (by decide +kernel))
  obtain ⟨a10, f10, g10⟩ := st_ref hts (C := RX1) (List.mem_of_getElem? (i := 44) (by decide +kernel))
  obtain ⟨a18, f18, g18⟩ := st_ref hts (C := RX9) (List.mem_of_getElem? (i := 307) (by decide +kernel))
  refine ⟨(fun k => Classical.choose (hall k), fun k => Classical.choose (Classical.choose_spec (hall k)), fun t => if t = 2 then a2 else if t = 3 then a3 else if t = 12 then a12 else if t = 16 then a16 else if t = 15 then a15 else if t = 17 then a17 else if t = 10 then a10 else a18), fun k q hq => Classical.choose_spec (Classical.choose_spec (hall k)) q hq, fun k q hq => ?_⟩
  match k, hq with
  | 0, hq => cases hq; exact ⟨f2, g2⟩
  | 1, hq => cases hq; exact ⟨f3, g3⟩
  | 2, hq => cases hq; exact ⟨f2, g2⟩
  | 3, hq => cases hq; exact ⟨f12, g12⟩
  | 4, hq => cases hq; exact ⟨f16, g16⟩
  | 5, hq => cases hq; exact ⟨f15, g15⟩
  | 6, hq => cases hq; exact ⟨f17, g17⟩
  | 7, hq => cases hq; exact ⟨f10, g10⟩
  | 8, hq => cases hq; exact ⟨f18, g18⟩
  | k + 9, hq => simp [tysOf] at hq
theorem st_wKs (hts : ∀ w ∈ lw_tbl, w.before #[Value.ref b] s = true) : wKs s := by
  refine ⟨?_, ?_⟩
  · repeat' first | exact fun _ h => absurd h List.not_mem_nil | refine List.forall_mem_cons.mpr ⟨?_, ?_⟩
    · exact va_AO.of (hts _ (List.mem_of_getElem? (i := 44) (by decide +kernel)))
    · exact va_AO.of (hts _ (List.mem_of_getElem? (i := 379) (by decide +kernel)))
    · exact va_AO.of (hts _ (List.mem_of_getElem? (i := 40) (by decide +kernel)))
    · exact va_AO.of (hts _ (List.mem_of_getElem? (i := 38) (by decide +kernel)))
    · exact va_AO.of (hts _ (List.mem_of_getElem? (i := 42) (by decide +kernel)))
    · exact va_AO.of (hts _ (List.mem_of_getElem? (i := 307) (by decide +kernel)))
  · repeat' first | exact fun _ h => absurd h List.not_mem_nil | refine List.forall_mem_cons.mpr ⟨?_, ?_⟩
    · exact va_Nw.of rfl (hts _ (List.mem_of_getElem? (i := 80) (by decide +kernel)))
    · exact va_Nw.of rfl (hts _ (List.mem_of_getElem? (i := 100) (by decide +kernel)))
    · exact va_Nw.of rfl (hts _ (List.mem_of_getElem? (i := 103) (by decide +kernel)))
    · exact va_Nw.of rfl (hts _ (List.mem_of_getElem? (i := 192) (by decide +kernel)))
    · exact va_Nw.of rfl (hts _ (List.mem_of_getElem? (i := 195) (by decide +kernel)))
    · exact va_Nw.of rfl (hts _ (List.mem_of_getElem? (i := 266) (by decide +kernel)))
    · exact va_Nw.of rfl (hts _ (List.mem_of_getElem? (i := 292) (by decide +kernel)))
    · exact va_Nw.of rfl (hts _ (List.mem_of_getElem? (i := 309) (by decide +kernel)))
    · exact va_Nw.of rfl (hts _ (List.mem_of_getElem? (i := 380) (by decide +kernel)))
theorem st_wNest (hts : ∀ w ∈ lw_tbl, w.before #[Value.ref b] s = true) : wNest s := ⟨va_Nw.of rfl (hts _ (List.mem_of_getElem? (i := 566) (by decide +kernel))), va_Nw.of rfl (hts _ (List.mem_of_getElem? (i := 584) (by decide +kernel)))⟩
theorem st_str (hts : ∀ w ∈ lw_tbl, w.before #[Value.ref b] s = true) {cur : Nat} (hcur : s.vm.findClass RX10 = some cur) {k : Nat} {tx : String} (h : Cond.stringRef RX10 k tx ∈ lw_tbl) : ∃ a, vk_R RX10 k tx a s := by
  obtain ⟨kk, cf, i, a, -, -, -, -, -, hev⟩ := Cond.stringRef_spec (args := #[Value.ref b]) (first := s) (o := none) (idx := []) hcur (hts _ h)
  exact ⟨a, vk_R.of (hts _ h) hev⟩
theorem st_wThr (C0 : lw_At p s m meth c b L xs) {cur : Nat} (hcur : s.vm.findClass RX10 = some cur) : wThr (fun q => s.heap.size ≤ q) s := by
  have hts := C0.2.2.2.2.2.1
  have hs := flat_of_before _ C0.2.2.2.2.2.2.2.2.2
  have hA : ∀ a : Nat, a < s.heap.size → ¬ s.heap.size ≤ a := fun a h => Nat.not_le.mpr h
  refine ⟨⟨st_str hts hcur (List.mem_of_getElem? (i := 448) (by decide +kernel)), st_str hts hcur (List.mem_of_getElem? (i := 491) (by decide +kernel)), st_str hts hcur (List.mem_of_getElem? (i := 707) (by decide +kernel)), st_str hts hcur (List.mem_of_getElem? (i := 677) (by decide +kernel))⟩, ?_, vx_Zqof (hts _ (List.mem_of_getElem? (i := 434) (by decide +kernel))) (hts _ (List.mem_of_getElem? (i := 14) (by decide +kernel))) (hs _ (by decide +kernel)) hA, vx_Zqof (hts _ (List.mem_of_getElem? (i := 436) (by decide +kernel))) (hts _ (List.mem_of_getElem? (i := 14) (by decide +kernel))) (hs _ (by decide +kernel)) hA⟩
  repeat' first | exact fun _ h => absurd h List.not_mem_nil | refine List.forall_mem_cons.mpr ⟨?_, ?_⟩
  · exact va_Nw.of rfl (hts _ (List.mem_of_getElem? (i := 411) (by decide +kernel)))
  · exact va_Nw.of rfl (hts _ (List.mem_of_getElem? (i := 413) (by decide +kernel)))
  · exact va_Nw.of rfl (hts _ (List.mem_of_getElem? (i := 415) (by decide +kernel)))
  · exact va_Nw.of rfl (hts _ (List.mem_of_getElem? (i := 409) (by decide +kernel)))
  · exact va_Nw.of rfl (hts _ (List.mem_of_getElem? (i := 484) (by decide +kernel)))
  · exact va_Nw.of rfl (hts _ (List.mem_of_getElem? (i := 670) (by decide +kernel)))
theorem st_wNar (C0 : lw_At p s m meth c b L xs) : wNar s := by
  have hs := flat_of_before _ C0.2.2.2.2.2.2.2.2.2
  exact ⟨va_Nc.of (hs (Cond.not (.castable xIa xIx)) (by decide +kernel)), va_Nc.of (hs (Cond.not (.castable xIs xIx)) (by decide +kernel)), va_Nc.of (hs (Cond.not (.castable xIs xIa)) (by decide +kernel))⟩
def rfOK2 (q : Option (Nat × Int)) : Bool := match q with
  | some q => decide (0 ≤ q.2 ∧ q.2 < km q.1) && Nat.blt q.1 41
  | none => true
theorem rf_o2 : ((List.range 102).all fun k => !Nat.beq (kt k) 1 || ((List.range (km k)).all fun i => (List.range (kn k)).all fun sl => rfOK2 (rfo k (i : Int) sl))) = true := by decide +kernel
theorem rf_a2 : ((List.range 102).all fun k => !Nat.beq (kt k) 4 || ((List.range (km k)).all fun i => (List.range (kn k)).all fun sl => rfOK2 (rfa k (i : Int) (sl : Int)))) = true := by decide +kernel
theorem rfOK2_of {q : Nat × Int} (h : rfOK2 (some q) = true) : VL q.1 q.2 := by
  unfold rfOK2 at h
  simp only [Bool.and_eq_true, decide_eq_true_eq] at h
  exact Or.inr ⟨Nat.blt_eq.mp h.2, h.1⟩
theorem VL_r {k : Nat} {i : Int} (h : VL k i) (hk : kt k ≠ 0) : 0 ≤ i ∧ i < km k := by
  rcases h with ⟨rfl, -⟩ | h
  · exact absurd rfl hk
  · exact h.2
theorem VL_law {k : Nat} {i : Int} (h : VL k i) : lawV k i := h.elim Or.inl (fun h => Or.inr h.2)
theorem wf_VL {ad : Nat → Int → Nat} (h : ∀ k i k' i', lawV k i → lawV k' i' → ad k i = ad k' i' → k = k' ∧ i = i') : WF VL ad := by
  refine ⟨fun k i k' i' g g' => h k i k' i' (VL_law g) (VL_law g'), fun k i sl q hV hk hs hq => ?_, fun k i z q hV hk z0 z1 hq => ?_, fun k i hV hk => VL_r hV hk⟩
  · obtain ⟨h0, h1⟩ := VL_r hV (by rw [hk]; decide)
    have g1 := List.all_eq_true.mp rf_o2 k (List.mem_range.mpr (kt_lt hk (by decide)))
    rw [hk] at g1
    have g2 := List.all_eq_true.mp (show ((List.range (km k)).all fun i => (List.range (kn k)).all fun sl => rfOK2 (rfo k (i : Int) sl)) = true from g1) i.toNat (List.mem_range.mpr (by omega))
    have g3 := List.all_eq_true.mp g2 sl (List.mem_range.mpr hs)
    rw [Int.toNat_of_nonneg h0, hq] at g3
    exact rfOK2_of g3
  · obtain ⟨h0, h1⟩ := VL_r hV (by rw [hk]; decide)
    have g1 := List.all_eq_true.mp rf_a2 k (List.mem_range.mpr (kt_lt hk (by decide)))
    rw [hk] at g1
    have g2 := List.all_eq_true.mp (show ((List.range (km k)).all fun i => (List.range (kn k)).all fun sl => rfOK2 (rfa k (i : Int) (sl : Int))) = true from g1) i.toNat (List.mem_range.mpr (by omega))
    have g3 := List.all_eq_true.mp g2 z.toNat (List.mem_range.mpr (by omega))
    rw [Int.toNat_of_nonneg h0, Int.toNat_of_nonneg z0, hq] at g3
    exact rfOK2_of g3
theorem kt_0 : ∀ k, k < 102 → kt k = 0 → km k = 0 := by decide +kernel
theorem mix_self (a : Mm) : mix a a = a := by
  funext k i z
  unfold mix
  cases Nat.blt k 40 <;> rfl
theorem nums_b {H1 : Heap} {q : Nat} {D : DD} {ad : Nat → Int → Nat} (h : H1[q]? = some (arrV (D.2.2 2) 28 (fun _ => .int 0))) (he : ad 40 0 = q) : cellOK D ad mmI 0 H1 40 0 := by
  unfold cellOK
  rw [if_neg (by decide), if_neg (by decide), if_neg (by decide), if_pos (by decide), he]
  exact h
set_option maxRecDepth 100000 in
set_option maxHeartbeats 4000000 in
theorem whole_start (l : Launch) (hflags : l.flags = flags0) (hL : L ≤ 260) (C0 : lw_At p s m meth c b L xs) : W p l e room_1 s m #[Value.ref b] below meth c s.heap [] 0 0 (lw_Z below #[Value.ref b] s) (entryFrame m ([Value.ref b] : List Value).toArray 9) := by
  obtain ⟨hx, hb, hr, hml, hown, hts, hX, hbl, hlocks, hgv⟩ := id C0
  have hU := st_UW C0
  obtain ⟨D, hKK⟩ := st_D C0
  have hst : l.stackTraces = false := by unfold Launch.stackTraces; rw [hflags]; decide +kernel
  have hA : ∀ q : Nat, s.heap.size ≤ q → (fun q : Nat => s.heap.size ≤ q) q := fun _ h => h
  have hw := st_wKs hts
  have hcur : s.vm.findClass RX10 = some (D.1 9) := (hKK.1 9 _ rfl).2.1
  have hC : Kx RL code 9 p s m #[Value.ref b] meth c D := ⟨hx, hb, hml, hown, hU, hKK, hlocks⟩
  have hinj := adr_inj hbl
  have hKW : KW D (adr b s.heap.size) mmI 0 0 (fun q : Nat => s.heap.size ≤ q) s.heap s.heap.size (fun _ _ => False) [] s.heap [] := ⟨fun _ _ h => h.elim, fun x h => absurd h List.not_mem_nil, rfl, fun _ _ h => h.elim, va_S.rf⟩
  have e1 : adr b s.heap.size 1 0 = s.heap.size := by show s.heap.size + (0 + 0 * 0) = s.heap.size; omega
  have e40 : adr b s.heap.size 40 0 = s.heap.size + 1 + 331 := by show s.heap.size + (332 + 0 * 0) = s.heap.size + 1 + 331; omega
  have hl := lv_entry ([.ref b]) (n := 9) (Nat.le_of_ble_eq_true rfl)
  rw [lg_entry_eq]
  generalize (lg_sl ([.ref b]) ++ List.replicate (9 - (lg_sl ([.ref b])).length) Slot.unset).toArray = ls at hl ⊢
  have hl : lv_has ls 9 [(0, .ref b)] := hl
  refine k_new (kx := 1) (idx := 16) hC rfl clL_16 insX10 (by decide +kernel) ⟨by decide, by decide⟩ hKW.2.2.1 fun H1 h1 o1 hbl1 => ?_
  refine lv_dup hx hb (by decide +kernel) rfl ?_
  refine k_call (idx := 131) hbl hC hw K_seed (Or.inl mlL_X10) kX10_init rfl rfl (by decide +kernel) rfl hl.1 (Nat.le_of_ble_eq_true rfl) (by decide +kernel) e1 hA hKW h1 o1 hbl1 (by
    rintro k i ⟨g, g3, g4⟩
    exact law_kt g3 g4) (fun x h => absurd h List.not_mem_nil) ⟨by decide, by decide⟩ fun H2 locs2 hKW => ?_
  refine lv_astore_n (k := 1) hx hb (by decide +kernel) rfl hl (by decide) rfl fun ls2 hl2 => ?_
  refine lv_bipush hx hb (n := 28) (v := 28) (by decide +kernel) rfl ?_
  refine va_newaK (atype := .int) (N := 28) hx hb (hU _ ac_int) rfl (by show decode code 10 = .ok (.newarray .int, 2); decide +kernel) rfl (by decide) (by decide) (by decide) (by decide) (by decide) hKW.2.2.1 fun H4 cA g1 g2 g3 hAr hNm => ?_
  have hcA : cA = D.2.2 2 := Option.some.inj (hNm.symm.trans (hKK.2 0 _ rfl).2)
  subst hcA
  have hKW := hKW.grow (H' := H4) (z' := s.heap.size + 1 + 331 + 1) (by omega) g2 g3 (locs' := []) (fun q hq => absurd hq List.not_mem_nil) (V' := vs 40 0) (law_vs (by decide) (by decide)) (by
    rintro k i ⟨rfl, rfl⟩
    exact nums_b g1 e40) (Rw' := []) (fun x h => absurd h List.not_mem_nil) (fun x h => absurd h List.not_mem_nil)
  show W p l e room_1 s m #[Value.ref b] below meth c H4 _ _ _ _ (F0 m 12 ls2 [.ref (s.heap.size + 1 + 331)])
  refine lv_astore_n (k := 2) hx hb (by decide +kernel) rfl hl2 (by decide) rfl fun ls3 hl3 => ?_
  refine lv_iconst (n := 0) hx hb (by decide +kernel) rfl ?_
  refine lv_istore_n (k := 3) hx hb (by decide +kernel) rfl hl3 (by decide) rfl fun ls5 hl5 => ?_
  have hWF := wf_VL hinj
  have hCx : Cx VL RL code 9 p room_1 s m #[Value.ref b] meth c D (adr b s.heap.size) (fun q : Nat => s.heap.size ≤ q) := ⟨hx, hb, hml, hown, hU, hKK, fun k i hV hk => by
    rw [adr_k (fun h => hk (by rw [h]; rfl))]
    show s.heap.size ≤ s.heap.size + off k i
    omega, hA, hWF.1, hWF.2, hlocks, by decide, by decide⟩
  have hb0 : ∀ k i, VL k i → kt k = 0 → adr b s.heap.size k i < s.heap.size := fun k i hV hk => by
    rcases hV with ⟨rfl, -⟩ | ⟨g, g0, g1⟩
    · exact hbl
    · rw [kt_0 k (by omega) hk] at g1
      exact absurd g1 (by show ¬ i < (0 : Int); omega)
  have hLC : LC room_1 p l s m b meth c D (adr b s.heap.size) L xs := ⟨hCx, st_wNest hts, st_wThr C0 hcur, st_wNar C0, hst, hX, ⟨hbl, Nat.not_le.mpr hbl⟩, by omega, hr, hb0⟩
  have hgo := law_all (e := e) (below := below) (c0 := 333) (s0 := 10166) rfl hLC ⟨by decide, by decide⟩ L0_I 0
  rw [mix_self] at hgo
  refine hgo H4 _ ls5 (fun k i hV => ?_) (by have h9 := hKW.2.2.2.2; rw [List.append_nil] at h9; exact h9) ?_ (fun q hq => ?_) (fun v h => absurd h List.not_mem_nil)
  · rcases hV with ⟨rfl, rfl⟩ | ⟨g, g0, g1'⟩
    · unfold cellOK; exact trivial
    · by_cases q1 : k ≤ 34
      · by_cases q0 : k = 0
        · subst q0
          exact absurd g1' (by show ¬ i < (0 : Nat); omega)
        · exact hKW.1 k i (Or.inl (Or.inr ⟨⟨by omega, q1⟩, g0, g1'⟩))
      · rcases (show k = 35 ∨ k = 36 ∨ k = 37 ∨ k = 38 ∨ k = 39 ∨ k = 40 by omega) with rfl | rfl | rfl | rfl | rfl | rfl
        · exact absurd g1' (by show ¬ i < (0 : Nat); omega)
        · exact absurd g1' (by show ¬ i < (0 : Nat); omega)
        · exact absurd g1' (by show ¬ i < (0 : Nat); omega)
        · exact absurd g1' (by show ¬ i < (0 : Nat); omega)
        · exact absurd g1' (by show ¬ i < (0 : Nat); omega)
        · have g2' : i < 1 := g1'
          exact hKW.1 40 i (Or.inr ⟨rfl, by omega⟩)
  · refine lv_sub hl5 [3, 2, 1, 0] ?_
    show [(0, Value.ref b), (1, Value.ref s.heap.size), (2, Value.ref (s.heap.size + 1 + 331)), (3, Value.int (I 0))] = [(0, Value.ref b), (1, Value.ref (adr b s.heap.size 1 0)), (2, Value.ref (adr b s.heap.size 40 0)), (3, Value.int (I 0))]
    rw [e1, e40]
  · simp only [List.mem_cons, List.not_mem_nil, or_false] at hq
    rcases hq with rfl | rfl | rfl | rfl
    · exact Or.inl ⟨rfl, rfl⟩
    · exact Or.inr ⟨by decide, by decide, by decide⟩
    · exact Or.inr ⟨by decide, by decide, by decide⟩
    · trivial
end CTX
