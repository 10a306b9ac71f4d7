/-! ===== the law: its start ===== -/
theorem ins_all : ∀ (k : Nat) (C : String) (T : u_T) (N : Nat), xCl[k]? = some (C, T, N) → ∃ n, Cond.instantiable C n ∈ UW
  | 0, C, T, N, h => by cases h; exact ⟨_, insX1.1⟩
  | 1, C, T, N, h => by cases h; exact ⟨_, insX2.1⟩
  | 2, C, T, N, h => by cases h; exact ⟨_, insX3.1⟩
  | 3, C, T, N, h => by cases h; exact ⟨_, insX4.1⟩
  | 4, C, T, N, h => by cases h; exact ⟨_, insX5.1⟩
  | 5, C, T, N, h => by cases h; exact ⟨_, insX6.1⟩
  | 6, C, T, N, h => by cases h; exact ⟨_, insX7.1⟩
  | 7, C, T, N, h => by cases h; exact ⟨_, insX8.1⟩
  | 8, C, T, N, h => by cases h; exact ⟨_, insX9.1⟩
  | 9, C, T, N, h => by cases h; exact ⟨_, insX10.1⟩
  | 10, C, T, N, h => by cases h; exact ⟨_, insX11.1⟩
  | k + 11, C, T, N, h => by simp [xCl] at h
section CTX
variable {p : Program} {e : Env} {s : State} {m : MethodId} {below : List Frame} {meth : Method} {c : Code} {b L : Nat} {xs : Nat → Int32}
theorem st_UW (C0 : lw_At p s m meth c b L xs) : ∀ w ∈ UW, w.before #[Value.ref b] s = true := fun w hw => C0.2.2.2.2.2.1 w (List.mem_filter.mp hw).1
theorem st_ref (hts : ∀ w ∈ lw_tbl, w.before #[Value.ref b] s = true) {C : String} (h : Cond.arrayOver (.object C) ∈ lw_tbl) : ∃ cA : ClassId, ArrOfT s cA (.object C) ∧ va_RA s cA (.object C) := by
  obtain ⟨comp, cA, kA, h1, h2, h3, h4, h5⟩ := Cond.arrayOver_spec (hts _ h)
  exact ⟨cA, fun n z => ⟨(fun k h => by cases h), kA, h3, comp, h4⟩, kA, comp, h3, h4, h1, h5⟩
theorem st_prim (hU : ∀ w ∈ UW, w.before #[Value.ref b] s = true) {ty : FieldType} (h : Cond.arrayClass ty ∈ UW) : ∃ cA : ClassId, ArrOfT s cA ty ∧ s.vm.findClass ("[" ++ ty.toString) = some cA := by
  obtain ⟨cA, kA, comp, h1, h2, h3⟩ := Cond.arrayClass_spec (hU _ h)
  exact ⟨cA, fun n z => ⟨(fun k h => by cases h), kA, h2, comp, h3⟩, h1⟩
theorem st_D (C0 : lw_At p s m meth c b L xs) : ∃ D : DD, va_K (D.1, D.2.1) xCl (tysOf D) s := by
  have hts := C0.2.2.2.2.2.1
  have hU := st_UW C0
  have hall : ∀ k : Nat, ∃ (cC : ClassId) (iS : Nat → Nat), ∀ q, xCl[k]? = some q → u_Kn s q.1 q.2.1 q.2.2 cC iS := by
    intro k
    cases hk : xCl[k]? with
    | none => exact ⟨0, fun _ => 0, fun q h => by cases h⟩
    | some q =>
      obtain ⟨C, T, N⟩ := q
      obtain ⟨n, hn⟩ := ins_all k C T N hk
      obtain ⟨cC, iS, h⟩ := u_known hU (xcl_ok k C T N hk).1 (hU _ hn)
      exact ⟨cC, iS, fun q hq => by cases hq; exact h⟩
  obtain ⟨a2, f2, g2⟩ := st_prim hU ac_int
  obtain ⟨a3, f3, g3⟩ := st_prim hU ac_boolean
  obtain ⟨a5, f5, g5⟩ := st_prim hU ac_long
  obtain ⟨a12, f12, g12⟩ := st_ref hts (C := RX3) (List.mem_of_getElem? (i := 424) (by decide +kernel))
  obtain ⟨a16, f16, g16⟩ := st_ref hts (C := RX7) (List.mem_of_getElem? (i := 79) (by decide +kernel))
  obtain ⟨a15, f15, g15⟩ := st_ref hts (C := RX6) (List.mem_of_getElem? (i := 81) (by decide +kernel))
  obtain ⟨a17, f17, g17⟩ := st_ref hts (C := RX8) (List.mem_of_getElem? (i := 83) (by decide +kernel))
  obtain ⟨a10, f10, g10⟩ := st_ref hts (C := RX1) (List.mem_of_getElem? (i := 85) (by decide +kernel))
  obtain ⟨a18, f18, g18⟩ := st_ref hts (C := RX9) (List.mem_of_getElem? (i := 352) (by decide +kernel))
  refine ⟨(fun k => Classical.choose (hall k), fun k => Classical.choose (Classical.choose_spec (hall k)), fun t => if t = 2 then a2 else if t = 3 then a3 else if t = 5 then a5 else if t = 12 then a12 else if t = 16 then a16 else if t = 15 then a15 else if t = 17 then a17 else if t = 10 then a10 else a18), fun k q hq => Classical.choose_spec (Classical.choose_spec (hall k)) q hq, fun k q hq => ?_⟩
  match k, hq with
  | 0, hq => cases hq; exact ⟨f2, g2⟩
  | 1, hq => cases hq; exact ⟨f3, g3⟩
  | 2, hq => cases hq; exact ⟨f5, g5⟩
  | 3, hq => cases hq; exact ⟨f12, g12⟩
  | 4, hq => cases hq; exact ⟨f16, g16⟩
  | 5, hq => cases hq; exact ⟨f15, g15⟩
  | 6, hq => cases hq; exact ⟨f17, g17⟩
  | 7, hq => cases hq; exact ⟨f10, g10⟩
  | 8, hq => cases hq; exact ⟨f18, g18⟩
  | k + 9, hq => simp [tysOf] at hq
theorem st_wKs (hts : ∀ w ∈ lw_tbl, w.before #[Value.ref b] s = true) : wKs s := by
  refine ⟨?_, ?_⟩
  · repeat' first | exact fun _ h => absurd h List.not_mem_nil | refine List.forall_mem_cons.mpr ⟨?_, ?_⟩
    · exact va_AO.of (hts _ (List.mem_of_getElem? (i := 85) (by decide +kernel)))
    · exact va_AO.of (hts _ (List.mem_of_getElem? (i := 424) (by decide +kernel)))
    · exact va_AO.of (hts _ (List.mem_of_getElem? (i := 81) (by decide +kernel)))
    · exact va_AO.of (hts _ (List.mem_of_getElem? (i := 79) (by decide +kernel)))
    · exact va_AO.of (hts _ (List.mem_of_getElem? (i := 83) (by decide +kernel)))
    · exact va_AO.of (hts _ (List.mem_of_getElem? (i := 352) (by decide +kernel)))
  · repeat' first | exact fun _ h => absurd h List.not_mem_nil | refine List.forall_mem_cons.mpr ⟨?_, ?_⟩
    · exact va_Nw.of rfl (hts _ (List.mem_of_getElem? (i := 123) (by decide +kernel)))
    · exact va_Nw.of rfl (hts _ (List.mem_of_getElem? (i := 143) (by decide +kernel)))
    · exact va_Nw.of rfl (hts _ (List.mem_of_getElem? (i := 146) (by decide +kernel)))
    · exact va_Nw.of rfl (hts _ (List.mem_of_getElem? (i := 235) (by decide +kernel)))
    · exact va_Nw.of rfl (hts _ (List.mem_of_getElem? (i := 238) (by decide +kernel)))
    · exact va_Nw.of rfl (hts _ (List.mem_of_getElem? (i := 310) (by decide +kernel)))
    · exact va_Nw.of rfl (hts _ (List.mem_of_getElem? (i := 337) (by decide +kernel)))
    · exact va_Nw.of rfl (hts _ (List.mem_of_getElem? (i := 354) (by decide +kernel)))
    · exact va_Nw.of rfl (hts _ (List.mem_of_getElem? (i := 425) (by decide +kernel)))
theorem st_wNest (hts : ∀ w ∈ lw_tbl, w.before #[Value.ref b] s = true) : wNest s := ⟨va_Nw.of rfl (hts _ (List.mem_of_getElem? (i := 754) (by decide +kernel))), va_Nw.of rfl (hts _ (List.mem_of_getElem? (i := 636) (by decide +kernel)))⟩
theorem st_str (hts : ∀ w ∈ lw_tbl, w.before #[Value.ref b] s = true) {cur : Nat} (hcur : s.vm.findClass RX10 = some cur) {k : Nat} {tx : String} (h : Cond.stringRef RX10 k tx ∈ lw_tbl) : ∃ a, vk_R RX10 k tx a s := by
  obtain ⟨kk, cf, i, a, -, -, -, -, -, hev⟩ := Cond.stringRef_spec (args := #[Value.ref b]) (first := s) (o := none) (idx := []) hcur (hts _ h)
  exact ⟨a, vk_R.of (hts _ h) hev⟩
theorem st_wThr (C0 : lw_At p s m meth c b L xs) {cur : Nat} (hcur : s.vm.findClass RX10 = some cur) : wThr (fun q => s.heap.size ≤ q) s := by
  have hts := C0.2.2.2.2.2.1
  have hs := flat_of_before _ C0.2.2.2.2.2.2.2.2.2
  have hA : ∀ a : Nat, a < s.heap.size → ¬ s.heap.size ≤ a := fun a h => Nat.not_le.mpr h
  refine ⟨⟨st_str hts hcur (List.mem_of_getElem? (i := 510) (by decide +kernel)), st_str hts hcur (List.mem_of_getElem? (i := 549) (by decide +kernel)), st_str hts hcur (List.mem_of_getElem? (i := 576) (by decide +kernel)), st_str hts hcur (List.mem_of_getElem? (i := 604) (by decide +kernel))⟩, ?_, vx_Zqof (hts _ (List.mem_of_getElem? (i := 496) (by decide +kernel))) (hts _ (List.mem_of_getElem? (i := 55) (by decide +kernel))) (hs _ (by decide +kernel)) hA, vx_Zqof (hts _ (List.mem_of_getElem? (i := 498) (by decide +kernel))) (hts _ (List.mem_of_getElem? (i := 55) (by decide +kernel))) (hs _ (by decide +kernel)) hA⟩
  repeat' first | exact fun _ h => absurd h List.not_mem_nil | refine List.forall_mem_cons.mpr ⟨?_, ?_⟩
  · exact va_Nw.of rfl (hts _ (List.mem_of_getElem? (i := 473) (by decide +kernel)))
  · exact va_Nw.of rfl (hts _ (List.mem_of_getElem? (i := 475) (by decide +kernel)))
  · exact va_Nw.of rfl (hts _ (List.mem_of_getElem? (i := 477) (by decide +kernel)))
  · exact va_Nw.of rfl (hts _ (List.mem_of_getElem? (i := 471) (by decide +kernel)))
  · exact va_Nw.of rfl (hts _ (List.mem_of_getElem? (i := 542) (by decide +kernel)))
  · exact va_Nw.of rfl (hts _ (List.mem_of_getElem? (i := 597) (by decide +kernel)))
theorem st_wNar (C0 : lw_At p s m meth c b L xs) : wNar s := by
  have hs := flat_of_before _ C0.2.2.2.2.2.2.2.2.2
  exact ⟨va_Nc.of (hs (Cond.not (.castable xIa xIx)) (by decide +kernel)), va_Nc.of (hs (Cond.not (.castable xIs xIx)) (by decide +kernel)), va_Nc.of (hs (Cond.not (.castable xIs xIa)) (by decide +kernel))⟩
theorem mix_self (a : Mm) : mix a a = a := by
  funext k i z
  unfold mix
  cases Nat.blt k 40 <;> rfl
theorem out_b {H H1 : Heap} {q : Nat} {D : DD} {ad : Nat → Int → Nat} {mm : Mm} (h : H1[q]? = some (arrV (D.2.2 5) 1 (fun _ => .long 0))) (he : ad 35 0 = q) : cellOK D ad mm 0 H1 35 0 := by
  unfold cellOK
  rw [if_neg (by decide), if_neg (by decide), if_pos (by decide), he]
  exact h
set_option maxRecDepth 100000 in
set_option maxHeartbeats 4000000 in
theorem whole_start (l : Launch) (hflags : l.flags = flags0) (hL : L ≤ 5120) (C0 : lw_At p s m meth c b L xs) : W p l e room_1 s m #[Value.ref b] below meth c s.heap [] 0 0 (lw_Z below #[Value.ref b] s) (entryFrame m ([Value.ref b] : List Value).toArray 7) := by
  obtain ⟨hx, hb, hr, hml, hown, hts, hX, hbl, hlocks, hgv⟩ := id C0
  have hU := st_UW C0
  obtain ⟨D, hKK⟩ := st_D C0
  have hst : l.stackTraces = false := by unfold Launch.stackTraces; rw [hflags]; decide +kernel
  have hA : ∀ q : Nat, s.heap.size ≤ q → (fun q : Nat => s.heap.size ≤ q) q := fun _ h => h
  have hw := st_wKs hts
  have hcur : s.vm.findClass RX10 = some (D.1 9) := (hKK.1 9 _ rfl).2.1
  have hC : Kx RL code 7 p s m #[Value.ref b] meth c D := ⟨hx, hb, hml, hown, hU, hKK, hlocks⟩
  have hinj := adr_inj hbl
  have hKW : KW D (adr b s.heap.size) mmI 0 0 (fun q : Nat => s.heap.size ≤ q) s.heap s.heap.size (fun _ _ => False) [] s.heap [] := ⟨fun _ _ h => h.elim, fun x h => absurd h List.not_mem_nil, rfl, fun _ _ h => h.elim, va_S.rf⟩
  have e1 : adr b s.heap.size 1 0 = s.heap.size := by show s.heap.size + (0 + 0 * 0) = s.heap.size; omega
  have e40 : adr b s.heap.size 40 0 = s.heap.size + 1 + 331 := by show s.heap.size + (332 + 0 * 0) = s.heap.size + 1 + 331; omega
  have e35 : adr b s.heap.size 35 0 = s.heap.size + 1 + 331 + 1 + 52 := by show s.heap.size + (385 + 0 * 0) = s.heap.size + 1 + 331 + 1 + 52; omega
  have hl := lv_entry ([.ref b]) (n := 7) (Nat.le_of_ble_eq_true rfl)
  rw [lg_entry_eq]
  generalize (lg_sl ([.ref b]) ++ List.replicate (7 - (lg_sl ([.ref b])).length) Slot.unset).toArray = ls at hl ⊢
  have hl : lv_has ls 7 [(0, .ref b)] := hl
  refine k_new (kx := 1) (idx := 8) hC rfl clL_8 insX10 (by decide +kernel) ⟨by decide, by decide⟩ hKW.2.2.1 fun H1 h1 o1 hbl1 => ?_
  refine lv_dup hx hb (by decide +kernel) rfl ?_
  refine k_call (idx := 106) hbl hC hw K_seed (Or.inl mlL_X10) kX10_init rfl rfl (by decide +kernel) rfl hl.1 (Nat.le_of_ble_eq_true rfl) (by decide +kernel) e1 hA hKW h1 o1 hbl1 (by
    rintro k i ⟨g, g3, g4⟩
    exact law_kt g3 g4) (fun x h => absurd h List.not_mem_nil) ⟨by decide, by decide⟩ fun H2 locs2 hKW => ?_
  refine lv_astore_n (k := 1) hx hb (by decide +kernel) rfl hl (by decide) rfl fun ls2 hl2 => ?_
  refine k_new (kx := 40) (idx := 107) hC rfl clL_107 insX11 (by decide +kernel) ⟨by decide, by decide⟩ hKW.2.2.1 fun H1 h1 o1 hbl1 => ?_
  refine lv_dup hx hb (by decide +kernel) rfl ?_
  refine k_call (idx := 109) hbl hC hw K_model (Or.inl mlL_X11) kX11_init rfl rfl (by decide +kernel) rfl hl2.1 (Nat.le_of_ble_eq_true rfl) (by decide +kernel) e40 hA hKW h1 o1 hbl1 (by
    rintro k i ⟨g, g3, g4⟩
    exact law_kt g3 g4) (fun x h => absurd h List.not_mem_nil) ⟨by decide, by decide⟩ fun H3 locs3 hKW => ?_
  refine lv_astore_n (k := 2) hx hb (by decide +kernel) rfl hl2 (by decide) rfl fun ls3 hl3 => ?_
  refine lv_iconst (n := 1) hx hb (by decide +kernel) rfl ?_
  refine va_newaK (atype := .long) (N := 1) hx hb (hU _ ac_long) rfl (by show decode code 17 = .ok (.newarray .long, 2); decide +kernel) rfl (by decide) (by decide) (by decide) (by decide) (by decide) hKW.2.2.1 fun H4 cA g1 g2 g3 hAr hNm => ?_
  have hcA : cA = D.2.2 5 := Option.some.inj (hNm.symm.trans (hKK.2 2 _ rfl).2)
  subst hcA
  have hKW := hKW.grow (H' := H4) (z' := s.heap.size + 1 + 331 + 1 + 52 + 1) (by omega) g2 g3 (locs' := []) (fun q hq => absurd hq List.not_mem_nil) (V' := vs 35 0) (law_vs (by decide) (by decide)) (by
    rintro k i ⟨rfl, rfl⟩
    exact out_b (H := H3) g1 e35) (Rw' := []) (fun x h => absurd h List.not_mem_nil) (fun x h => absurd h List.not_mem_nil)
  show W p l e room_1 s m #[Value.ref b] below meth c H4 _ _ _ _ (F0 m 19 ls3 [.ref (s.heap.size + 1 + 331 + 1 + 52)])
  refine lv_astore_n (k := 3) hx hb (by decide +kernel) rfl hl3 (by decide) rfl fun ls4 hl4 => ?_
  refine lv_iconst (n := 0) hx hb (by decide +kernel) rfl ?_
  refine lv_istore (i := 4) hx hb (by decide +kernel) hl4 (by decide) rfl fun ls5 hl5 => ?_
  have hWF := wf_law hinj
  have hCx : Cx lawV RL code 7 p room_1 s m #[Value.ref b] meth c D (adr b s.heap.size) (fun q : Nat => s.heap.size ≤ q) := ⟨hx, hb, hml, hown, hU, hKK, fun k i hV hk => by
    rw [adr_k (fun h => hk (by rw [h]; rfl))]
    show s.heap.size ≤ s.heap.size + off k i
    omega, hA, hinj, hWF.2, hlocks, by decide, by decide⟩
  have hLC : LC p l s m #[Value.ref b] meth c D (adr b s.heap.size) (fun q : Nat => s.heap.size ≤ q) L xs := ⟨hCx, st_wNest hts, st_wThr C0 hcur, st_wNar C0, hst, hX, ⟨hbl, Nat.not_le.mpr hbl⟩, hL⟩
  have hgo := law_loop (e := e) (below := below) hr hLC 512 0 386 17872 mmI mmI 0 (by decide) (by omega) (by decide) (by decide) (by decide) FU_I
  rw [mix_self] at hgo
  refine hgo H4 _ ls5 (fun k i hV => ?_) (by have h9 := hKW.2.2.2.2; rw [List.append_nil] at h9; exact h9) ?_ (fun q hq => ?_) (fun v h => absurd h List.not_mem_nil)
  · rcases hV with ⟨rfl, rfl⟩ | ⟨g0, g1'⟩
    · unfold cellOK; exact trivial
    · have hk := km_lt g0 g1'
      by_cases q1 : k ≤ 34
      · by_cases q0 : k = 0
        · subst q0
          exact absurd g1' (by show ¬ i < (0 : Nat); omega)
        · exact hKW.1 k i (Or.inl (Or.inl (Or.inr ⟨⟨by omega, q1⟩, g0, g1'⟩)))
      · by_cases q2 : 40 ≤ k
        · exact hKW.1 k i (Or.inl (Or.inr ⟨q2, g0, g1'⟩))
        · rcases (show k = 35 ∨ k = 36 ∨ k = 37 ∨ k = 38 ∨ k = 39 by omega) with rfl | rfl | rfl | rfl | rfl
          · have g2' : i < 1 := g1'
            exact hKW.1 35 i (Or.inr ⟨rfl, by omega⟩)
          all_goals exact absurd g1' (by show ¬ i < (0 : Nat); omega)
  · refine lv_sub hl5 [4, 3, 2, 1, 0] ?_
    show [(0, Value.ref b), (1, Value.ref s.heap.size), (2, Value.ref (s.heap.size + 1 + 331)), (3, Value.ref (s.heap.size + 1 + 331 + 1 + 52)), (4, Value.int (I 0))] = [(0, Value.ref b), (1, Value.ref (adr b s.heap.size 1 0)), (2, Value.ref (adr b s.heap.size 40 0)), (3, Value.ref (adr b s.heap.size 35 0)), (4, Value.int (I 0))]
    rw [e1, e40, e35]
  · simp only [LL, List.mem_cons, List.not_mem_nil, or_false] at hq
    rcases hq with rfl | rfl | rfl | rfl | rfl
    · exact law00
    · exact cl_law cl10
    · exact mo_law mo40
    · exact cl_law cl35
    · trivial
end CTX
