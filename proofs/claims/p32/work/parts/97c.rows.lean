/-! ===== the objects are made: more rows ===== -/
section CTX
variable {p : Program} {l : Launch} {e : Env} {R : Room} {s : State} {m : MethodId} {args : Array Value} {below : List Frame} {meth : Method} {c : Code} {cells slots : Nat} {Q : State → Prop} {D : DD} {ad : Nat → Int → Nat} {A : Nat → Prop} {nL : Nat} {own : String} {cc : ByteArray} {mm : Mm} {o : Int64} {i0 : Int} {H0 : Heap} {z : Nat} {V : Nat → Int → Prop} {Rw : RW} {H : Heap} {locs : List Loc} {pc : Nat} {ls : Array Slot} {rest : List Value}
/-- a row of numbers is made, kept in a field, and stays under way -/
theorem k_nr (hC : Kx own cc nL p s m args meth c D) (hin : meth.name = "<init>") (hinj : ∀ k i k' i', lawV k i → lawV k' i' → ad k i = ad k' i' → k = k' ∧ i = i') (hA : ∀ q, H0.size ≤ q → A q) {k k2 n w idx nx sl dc ty rc p1 p2 : Nat} {sj : Int} {f : Nat → Value} (ht : kt k = 1) (hl0 : ls[0]? = some (.val (.ref (ad k i0)))) (d0 : decode cc pc = .ok (.aload_n 0, 1)) (hp : pushOK cc (pc + 1) n w) (d2 : decode cc (pc + 1 + w) = .ok (.newarray .int, 2)) (hat : kt k2 = 2) (hn2 : kn k2 = n) {C : CT} (hcode : C.all (cOK own cc) = true) (hg : cget C (pc + 1 + w + 2) = some (.putfield idx, nx, sl, sj, dc, ty, rc, p1, p2)) (hsub : subc (kc k) dc = true)
    (hfin : (fdT dc sl).2.2.2 = true ∧ (fdT dc sl).1 = own) {ty9 : FieldType} (hd : parseFieldDescriptor (fdT dc sl).2.2.1 = some ty9) (hnr : ∀ a : Nat, narrow ty9 (.ref a) = .ref a ∧ fits ty9 (.ref a) = true) (hk2 : lawV k2 i0) (hnV : ¬ V k2 i0) (had : ad k2 i0 = z) (h : KW D ad mm o i0 A H0 z V ((k, f) :: Rw) H locs) (hrest : ∀ x ∈ Rw, x.1 ≠ k) (hne : k ≠ k2) (hf : cells + 1 ≤ R.cells ∧ slots + n ≤ R.slots)
    (kk : ∀ (H1 : Heap) (locs1 : List Loc), KW D ad mm o i0 A H0 (z + 1) V ((k, updV f sl (.ref z)) :: (k2, fun _ => .int 0) :: Rw) H1 locs1 → W p l e R s m args below meth c H1 locs1 (cells + 1) (slots + n) Q (F0 m (pc + 1 + w + 2 + 3) ls rest)) : W p l e R s m args below meth c H locs cells slots Q (F0 m pc ls rest) := by
  refine lv_aload_n hC.1 hC.2.1 d0 rfl hl0 ?_
  refine k_push hC.1 hC.2.1 hp ?_
  refine k_arr hC (Or.inl ⟨hat, rfl⟩) hn2 d2 hf h.2.2.1 fun H1 z1 o1 hr => ?_
  have hg1 := h.grow (H' := H1) (z' := z + 1) (by omega) z1 o1 (locs' := []) (fun q hq => absurd hq List.not_mem_nil) (V' := fun _ _ => False) (fun _ _ q => q.elim) (fun _ _ q => q.elim) (Rw' := [(k2, fun _ => .int 0)]) (fun x hx => by
    rw [List.mem_singleton.mp hx]
    exact ⟨hk2, hA _ (by rw [had]; exact h.lt), hnV, by rw [had]; exact hr⟩) (fun x hx q => q)
  rw [List.append_nil] at hg1
  have hg2 : KW D ad mm o i0 A H0 (z + 1) V ((k, f) :: (k2, fun _ => .int 0) :: Rw) H1 locs := by
    obtain ⟨a1, a2, a3, a4, a5⟩ := hg1
    refine ⟨fun k i hv => a1 k i (Or.inl hv), fun x hx => ?_, a3, fun k i hv => a4 k i (Or.inl hv), a5⟩
    obtain ⟨b1, b2, b3, b4⟩ := a2 x (by
      rcases List.mem_cons.mp hx with rfl | hx
      · exact List.mem_append_right _ List.mem_cons_self
      · rcases List.mem_cons.mp hx with rfl | hx
        · exact List.mem_append_left _ List.mem_cons_self
        · exact List.mem_append_right _ (List.mem_cons_of_mem _ hx))
    exact ⟨b1, b2, fun q => b3 (Or.inl q), b4⟩
  exact k_put hC hinj ht hcode hg hsub (Or.inr ⟨hin, hfin⟩) hd (hnr z).1 (hnr z).2 hg2 (fun x hx => by
    rcases List.mem_cons.mp hx with rfl | hx
    · exact hne.symm
    · exact hrest x hx) kk
/-- a loop that counts up -/
theorem k_loop {a0 : Nat} (hC : Kx own cc nL p s m args meth c D) {P E PI w N : Nat} {off1 off2 : Int} {vf : Fin 4} (hN : N < 10000) (hv : (vf : Nat) ≠ 0) (hvn : (vf : Nat) < nL) (d0 : decode cc P = .ok (.iload_n vf, 1)) (hp : pushOK cc (P + 1) N w) (d1 : decode cc (P + 1 + w) = .ok (.if_icmp .ge off1, 3)) (t1 : ((P + 1 + w : Nat) : Int) + off1 = (E : Int)) (d9 : decode cc PI = .ok (.iinc (vf : Nat) 1, 3)) (d10 : decode cc (PI + 3) = .ok (.goto off2, 3)) (t2 : ((PI + 3 : Nat) : Int) + off2 = (P : Int)) (Wd : Nat → Heap → List Loc → Prop)
    (body : ∀ (j : Nat), j < N → ∀ (H : Heap) (locs : List Loc) (ls : Array Slot), Wd j H locs → lv_has ls nL [(0, .ref a0), ((vf : Nat), .int (I (j : Int)))] → (∀ (H' : Heap) (locs' : List Loc), Wd (j + 1) H' locs' → W p l e R s m args below meth c H' locs' cells slots Q (F0 m PI ls rest)) → W p l e R s m args below meth c H locs cells slots Q (F0 m (P + 1 + w + 3) ls rest))
    (exit : ∀ (H : Heap) (locs : List Loc) (ls : Array Slot), Wd N H locs → lv_has ls nL [(0, .ref a0), ((vf : Nat), .int (I (N : Int)))] → W p l e R s m args below meth c H locs cells slots Q (F0 m E ls rest)) :
    ∀ (n j : Nat), j + n = N → ∀ (H : Heap) (locs : List Loc) (ls : Array Slot), Wd j H locs → lv_has ls nL [(0, .ref a0), ((vf : Nat), .int (I (j : Int)))] → W p l e R s m args below meth c H locs cells slots Q (F0 m P ls rest) := by
  have hx := hC.1
  have hb := hC.2.1
  intro n
  induction n with
  | zero =>
    intro j hj H locs ls hW hl
    have hjN : j = N := by omega
    subst hjN
    refine lv_iload_n hx hb d0 rfl (lv_at hl 1 rfl) ?_
    refine k_push hx hb hp ?_
    exact lv_icmp_ge hx hb d1 t1 (fun _ => exit H locs ls hW hl) (fun q => absurd (Int32.le_refl _) q)
  | succ n ih =>
    intro j hj H locs ls hW hl
    refine lv_iload_n hx hb d0 rfl (lv_at hl 1 rfl) ?_
    refine k_push hx hb hp ?_
    refine lv_icmp_ge hx hb d1 t1 (fun q => ?_) (fun _ => ?_)
    · rw [I_le, wr_of (by omega) (by omega), wr_of (by omega) (by omega)] at q
      omega
    refine body j (by omega) H locs ls hW hl fun H' locs' hW' => ?_
    refine lv_iinc hx hb d9 hl (k := 1) (x := I (j : Int)) (v := I ((j : Int) + 1)) rfl (I_add _ _).symm hvn rfl fun ls' hl' => ?_
    refine lv_goto hx hb d10 t2 ?_
    exact ih (j + 1) (by omega) H' locs' ls' hW' (by rw [show (((j + 1 : Nat) : Int)) = (j : Int) + 1 by omega]; exact lv_two hv hl')
def icG (v : Int) (n : Nat) : Nat → Value := fun q => if q < n then .int (I v) else .int 0
theorem icG_up (v : Int) (j : Nat) : updV (icG v j) j (.int (I v)) = icG v (j + 1) := by
  funext q
  unfold updV icG
  by_cases hq : q = j
  · subst hq
    rw [if_pos rfl, if_pos (by omega)]
  · rw [if_neg hq]
    by_cases hq2 : q < j
    · rw [if_pos hq2, if_pos (by omega)]
    · rw [if_neg hq2, if_neg (by omega)]
theorem icG_0 (v : Int) : icG v 0 = fun _ => .int 0 := funext fun q => if_neg (Nat.not_lt_zero q)
/-- a row of ints is filled with one number -/
theorem k_ifill (hC : Kx own cc nL p s m args meth c D) (hinj : ∀ k i k' i', lawV k i → lawV k' i' → ad k i = ad k' i' → k = k' ∧ i = i') {P E w N k k2 idxg nx sl dc ty rc p1 p2 PC : Nat} {sj off1 off2 v : Int} {vf : Fin 4} {f : Nat → Value} {C : CT} (hcode : C.all (cOK own cc) = true) (hN : N < 10000) (hv : (vf : Nat) ≠ 0) (hvn : (vf : Nat) < nL) (d0 : decode cc P = .ok (.iload_n vf, 1)) (hp : pushOK cc (P + 1) N w) (d1 : decode cc (P + 1 + w) = .ok (.if_icmp .ge off1, 3)) (t1 : ((P + 1 + w : Nat) : Int) + off1 = (E : Int)) (d2 : decode cc (P + 1 + w + 3) = .ok (.aload_n 0, 1)) (g3 : cget C (P + 1 + w + 3 + 1) = some (.getfield idxg, nx, sl, sj, dc, ty, rc, p1, p2)) (hsub : subc (kc k) dc = true) (d4 : decode cc (P + 1 + w + 3 + 1 + 3) = .ok (.iload_n vf, 1))
    (hpc : ∀ (H : Heap) (locs : List Loc) (ls : Array Slot) (st : List Value), W p l e R s m args below meth c H locs cells slots Q (F0 m PC ls (.int (I v) :: st)) → W p l e R s m args below meth c H locs cells slots Q (F0 m (P + 1 + w + 3 + 1 + 3 + 1) ls st)) (d8 : decode cc PC = .ok (.iastore, 1)) (d9 : decode cc (PC + 1) = .ok (.iinc (vf : Nat) 1, 3)) (d10 : decode cc (PC + 1 + 3) = .ok (.goto off2, 3)) (t2 : ((PC + 1 + 3 : Nat) : Int) + off2 = (P : Int)) (h2 : kt k2 = 2) (hn : kn k2 = N) (hk : kt k = 1) (hfA : f sl = .ref (ad k2 i0)) (hrA : ∀ x ∈ (k, f) :: Rw, x.1 ≠ k2)
    (exit : ∀ (H : Heap) (locs : List Loc) (ls : Array Slot), KW D ad mm o i0 A H0 z V ((k2, icG v N) :: (k, f) :: Rw) H locs → lv_has ls nL [(0, .ref (ad k i0)), ((vf : Nat), .int (I (N : Int)))] → W p l e R s m args below meth c H locs cells slots Q (F0 m E ls rest)) (hKW : KW D ad mm o i0 A H0 z V ((k2, fun _ => .int 0) :: (k, f) :: Rw) H locs) (hl : lv_has ls nL [(0, .ref (ad k i0)), ((vf : Nat), .int (I 0))]) : W p l e R s m args below meth c H locs cells slots Q (F0 m P ls rest) := by
  refine k_loop hC (PI := PC + 1) hN hv hvn d0 hp d1 t1 d9 d10 t2 (fun j H locs => KW D ad mm o i0 A H0 z V ((k2, icG v j) :: (k, f) :: Rw) H locs) (fun j hj H locs ls hKW hl kk => ?_) exit N 0 (by omega) H locs ls (by rw [icG_0]; exact hKW) hl
  refine lv_aload_n hC.1 hC.2.1 d2 rfl (lv_at hl 0 rfl) ?_
  refine k_get (f := f) hC hk hcode g3 hsub ((hKW.2.1 (k, f) (List.mem_cons_of_mem _ List.mem_cons_self)).2.2.2) ?_
  rw [hfA]
  refine lv_iload_n hC.1 hC.2.1 d4 rfl (lv_at hl 1 rfl) ?_
  refine hpc _ _ _ _ ?_
  refine k_iast (j := (j : Int)) hC hinj h2 (by omega) (by omega) d8 hKW hrA fun H3 locs3 hKW3 => ?_
  rw [show ((j : Int)).toNat = j by omega, icG_up] at hKW3
  exact kk H3 locs3 hKW3
/-- a method that makes calls its parent's -/
theorem k_super {b h : Nat} (hbh : b < h) (hC : Kx own cc nL p s m args meth c D) (hw : wKs s) {y : MI} {kx idx : Nat} {ix : Int} {Vc : Nat → Int → Prop} (hM : MetK y 0 0 kx ix [] mm Vc) (hlink : (own, idx, y.1) ∈ kNw) (hy : mOK y 0 ∧ Cond.instanceMethod y.1 ∈ UW) (hret : y.2.2.2.1 = none) (hy1 : y.1.name = "<init>") (hrm : rmR R y = true) (hsz : ls.size = nL) (hd : decode cc pc = .ok (.invokespecial idx, 3)) (hK : KW D (adr b h) mm o ix (fun a => adr b h kx ix ≤ a) s.heap (adr b h kx ix + 1) (fun _ _ => False) [(kx, dfv kx)] H locs) (hf : cells ≤ R.cells ∧ slots ≤ R.slots)
    (kk : ∀ (H2 : Heap) (locs2 : List Loc), wOK Vc D (adr b h) mm o H2 → H2.size = adr b h kx ix + 1 → va_S (fun a => adr b h kx ix ≤ a) s.heap H2 locs2 → W p l e R s m args below meth c H2 locs2 cells slots Q (F0 m (pc + 3) ls [])) : W p l e R s m args below meth c H locs cells slots Q (F0 m pc ls [.ref (adr b h kx ix)]) := by
  have hts := hC.2.2.2.2.1
  have hKK := hC.2.2.2.2.2.1
  obtain ⟨⟨hyc, hyi, hyn⟩, hyI⟩ := hy
  obtain ⟨r1, r2⟩ := Bool.and_eq_true _ _ ▸ hrm
  have hM' := hM l b h D o hbh
  have hp : PreS s H (va_Pc ([xr kx ix].map (cv (adr b h))) (kPre D (adr b h) kx ix)) (.ref (adr b h kx ix) :: ([] : List AV).map (cv (adr b h))) := ⟨kPre_blind, fun U hU hWm => ⟨rfl, by rw [hU]; exact hK.2.2.1, by rw [hU]; exact (hK.2.1 _ List.mem_cons_self).2.2.2, va_K.moved hWm.alike hKK, wKs_warm hWm hw⟩⟩
  have cw : va_CN R s args own idx y.1 RX10 y.2.1 y.2.2.1 none (mws y) (mrk y 0 0) 0 0 0 ∧ y.1.name = "<init>" ∧ (Cond.instanceMethod y.1).before args s = true :=
    ⟨va_cnB 0 hts (mws_good y hyc) (by unfold mws; rw [hret]) rfl rfl (hw.2 _ hlink) (hts _ hyi) hyn ⟨Nat.le_of_ble_eq_true r1, Nat.le_of_ble_eq_true r2⟩, hy1, hts _ hyI⟩
  have hrun := va_runIN (l := l) (e := e) (below := below) (meth := meth) (locs := locs) (cells := cells) (slots := slots) (g := F0 m pc ls [.ref (adr b h kx ix)]) (As := []) (rest := []) ⟨hC.1, hC.2.1, hC.2.2.1, hC.2.2.2.1, hts⟩ hM' cw hp rfl rfl hsz rfl (lv_room (Nat.zero_le _)) hd ⟨hf.1, hf.2⟩
  intro T hT X
  obtain ⟨v, st₀, t, T', L', h0, X', hL', e1, e2, ⟨⟨hoc, hW', hsz'⟩, hz9, hk9⟩, stp⟩ := hrun T hT X
  cases hoc
  rw [h0] at hz9 hk9
  have hS := hK.2.2.2.2
  obtain ⟨t2, a1, b1⟩ := kk T'.heap (locs ++ L') (by rw [e1]; exact hW') (by rw [e1]; exact hsz') ⟨Nat.le_trans hS.1 (by rw [e1]; exact hz9), fun q h1 h2 => by rw [e1, hk9 q (Nat.lt_of_lt_of_le h1 hS.1) h2]; exact hS.2.1 q h1 h2, fun q hq => by
    rcases List.mem_append.mp hq with g | g
    · exact hS.2.2 q g
    · exact hL' q g⟩ T' rfl X'
  exact ⟨t2, stp t2 a1, b1⟩
end CTX
