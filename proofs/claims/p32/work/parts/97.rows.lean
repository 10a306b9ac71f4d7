/-! ===== the objects are made: rows ===== -/
def pushOK (cc : ByteArray) (pc n w : Nat) : Prop := (w = 1 ∧ decode cc pc = .ok (.iconst n, 1)) ∨ (w = 2 ∧ n ≤ 127 ∧ decode cc pc = .ok (.bipush n, 2)) ∨ (w = 3 ∧ n ≤ 32767 ∧ decode cc pc = .ok (.sipush n, 3))
theorem df_tab : ((List.range 102).all fun k => !Nat.beq (kt k) 1 || ((List.range (kn k)).all fun s => decide ((parseFieldDescriptor ((xCl.getD (kc k) ("", fun _ => ("", "", "", false), 0)).2.1 s).2.2.1).map defaultValue = some (dfv k s)))) = true := by decide +kernel
theorem ref_ty2 {D : DD} {k : Nat} (ht : kt k = 4) : ∃ t0 : Nat, (tysOf D)[t0]? = some (D.2.2 (10 + kc k), .object (cNm.getD (kc k) "")) := by
  have h : ∀ k, k < 102 → kt k = 4 → kc k = 2 ∨ kc k = 6 ∨ kc k = 5 ∨ kc k = 7 ∨ kc k = 0 ∨ kc k = 8 := by decide +kernel
  rcases h k (kt_lt ht (by decide)) ht with h | h | h | h | h | h <;> rw [h]
  · exact ⟨3, rfl⟩
  · exact ⟨4, rfl⟩
  · exact ⟨5, rfl⟩
  · exact ⟨6, rfl⟩
  · exact ⟨7, rfl⟩
  · exact ⟨8, rfl⟩
section CTX
variable {p : Program} {l : Launch} {e : Env} {R : Room} {s : State} {m : MethodId} {args : Array Value} {below : List Frame} {meth : Method} {c : Code} {cells slots : Nat} {Q : State → Prop} {D : DD} {ad : Nat → Int → Nat} {A : Nat → Prop} {nL : Nat} {own : String} {cc : ByteArray} {mm : Mm} {o : Int64} {i0 : Int} {H0 : Heap} {z : Nat} {V : Nat → Int → Prop} {Rw : RW} {H : Heap} {locs : List Loc} {pc : Nat} {ls : Array Slot} {rest : List Value}
theorem kc_nm {k : Nat} (ht : kt k = 1) {C : String} {T : u_T} (hc : xCl[kc k]? = some (C, T, kn k)) : cNm.getD (kc k) "" = C := by
  have h11 := kc_tab k (kt_lt ht (by decide)) ht
  have hh : ∀ j, j < 11 → (xCl[j]?.map fun q => q.1) = some (cNm.getD j "") := by decide +kernel
  have h12 := hh _ h11
  rw [hc] at h12
  exact (Option.some.inj h12).symm
theorem k_push (hx : p.tables.exec = Jvm.exec) (hb : c.code = cc) {n w : Nat} (h : pushOK cc pc n w) (kk : W p l e R s m args below meth c H locs cells slots Q (F0 m (pc + w) ls (.int (I (n : Int)) :: rest))) : W p l e R s m args below meth c H locs cells slots Q (F0 m pc ls rest) := by
  rcases h with ⟨rfl, hd⟩ | ⟨rfl, hn, hd⟩ | ⟨rfl, hn, hd⟩
  · exact lv_iconst hx hb hd rfl kk
  · refine lv_bipush hx hb hd (v := I (n : Int)) ?_ kk
    apply Int32.toInt_inj.mp
    rw [Int8.toInt_toInt32, Int8.toInt_ofInt, toInt_I, wr_of (by omega) (by omega), Int.bmod_def]
    show (if (n : Int) % 256 < (256 + 1) / 2 then (n : Int) % 256 else (n : Int) % 256 - 256) = n
    omega
  · refine lv_sipush hx hb hd (v := I (n : Int)) ?_ kk
    apply Int32.toInt_inj.mp
    rw [Int16.toInt_toInt32, Int16.toInt_ofInt, toInt_I, wr_of (by omega) (by omega), Int.bmod_def]
    show (if (n : Int) % 65536 < (65536 + 1) / 2 then (n : Int) % 65536 else (n : Int) % 65536 - 65536) = n
    omega
theorem k_oi (hC : Kx own cc nL p s m args meth c D) {idx : Nat} (hl : Cond.methodLink own idx Lib.objectInit ∈ UW) (hsz : ls.size = nL) (hd : decode cc pc = .ok (.invokespecial idx, 3)) (hR : 1 ≤ R.frames ∧ 21 ≤ R.locals) {a : Nat} (hr : (rest.map fun v => v.category).sum ≤ 8) (kk : W p l e R s m args below meth c H locs cells slots Q (F0 m (pc + 3) ls rest)) : W p l e R s m args below meth c H locs cells slots Q (F0 m pc ls (.ref a :: rest)) := by
  have hts := hC.2.2.2.2.1
  exact W.objInit hC.1 hC.2.1 hC.2.2.2.1 (hts _ hl) (hts _ oi_w.1) (hts _ oi_w.2) rfl (hsz.trans hC.2.2.1.symm) rfl hd hR.1 (by
    have : 2 * (F0 m pc ls (.ref a :: rest)).monitorRoom + (rest.map fun v => v.category).sum ≤ 8 := lv_room hr
    omega) kk
/-- an object is made: its cell lies at the heap's end -/
theorem k_new (hC : Kx own cc nL p s m args meth c D) {kx idx : Nat} (ht : kt kx = 1) (hcl : Cond.classLink own idx (cNm.getD (kc kx) "") ∈ UW) (hins : Cond.instantiable (cNm.getD (kc kx) "") (kn kx) ∈ UW ∧ Cond.initialized (cNm.getD (kc kx) "") ∈ UW) (hd : decode cc pc = .ok (.new idx, 3)) (hf : cells + 1 ≤ R.cells ∧ slots + kn kx ≤ R.slots) (hz : H.size = z)
    (kk : ∀ H1 : Heap, H1.size = z + 1 → (∀ q : Nat, q < z → H1[q]? = H[q]?) → rawOK D z kx H1 (dfv kx) → W p l e R s m args below meth c H1 locs (cells + 1) (slots + kn kx) Q (F0 m (pc + 3) ls (.ref z :: rest))) : W p l e R s m args below meth c H locs cells slots Q (F0 m pc ls rest) := by
  obtain ⟨C, T, hc, ⟨hin, ⟨ty0, hty⟩, hnm⟩, hKn⟩ := kx_xc hC ht
  have hts := hC.2.2.2.2.1
  have hKn2 := hKn
  obtain ⟨hS, hfc, kC, hkC, hkind⟩ := hKn
  rw [kc_nm ht hc] at hcl hins
  refine W.newcK hC.1 hC.2.1 hC.2.2.2.1 (hts _ hcl) (hts _ hins.1) (hts _ hins.2) rfl hd hf.1 hf.2 hfc hz fun H1 kC' hkC' e1 z1 o1 => ?_
  refine kk H1 z1 o1 ?_
  unfold rawOK
  rw [if_pos ht]
  refine (u_born ty0 hts hin hKn2 hkC' e1 hty).to fun j hj => ?_
  have g1 := List.all_eq_true.mp df_tab kx (List.mem_range.mpr (kt_lt ht (by decide)))
  rw [ht] at g1
  have g2 := List.all_eq_true.mp (show ((List.range (kn kx)).all fun s => decide ((parseFieldDescriptor ((xCl.getD (kc kx) ("", fun _ => ("", "", "", false), 0)).2.1 s).2.2.1).map defaultValue = some (dfv kx s))) = true from g1) j (List.mem_range.mpr hj)
  have g3 := of_decide_eq_true g2
  rw [show xCl.getD (kc kx) ("", fun _ => ("", "", "", false), 0) = (C, T, kn kx) by rw [List.getD_eq_getElem?_getD, hc]; rfl] at g3
  have g4 : (parseFieldDescriptor (T j).2.2.1).map defaultValue = some (dfv kx j) := g3
  rw [hty j hj] at g4
  exact Option.some.inj g4
/-- a row of ints or of yes and no is made -/
theorem k_arr (hC : Kx own cc nL p s m args meth c D) {k2 n : Nat} {at9 : ArrayType} (hat : (kt k2 = 2 ∧ at9 = .int) ∨ (kt k2 = 3 ∧ at9 = .boolean)) (hn2 : kn k2 = n) (hd : decode cc pc = .ok (.newarray at9, 2)) (hf : cells + 1 ≤ R.cells ∧ slots + n ≤ R.slots) (hz : H.size = z)
    (kk : ∀ H1 : Heap, H1.size = z + 1 → (∀ q : Nat, q < z → H1[q]? = H[q]?) → rawOK D z k2 H1 (fun _ => .int 0) → W p l e R s m args below meth c H1 locs (cells + 1) (slots + n) Q (F0 m (pc + 2) ls (.ref z :: rest))) : W p l e R s m args below meth c H locs cells slots Q (F0 m pc ls (.int (I (n : Int)) :: rest)) := by
  have hts := hC.2.2.2.2.1
  have hK := hC.2.2.2.2.2.1
  have hlt := kn_lt k2
  rw [hn2] at hlt
  have hcl : (I (n : Int)).toNatClampNeg = n := by
    have := I_cl (z := (n : Int)) (n := n + 1) (by omega) (by omega)
    by_cases q : n + 1 < 2147483648
    · have := this q; omega
    · have q2 : ∀ k, k < 102 → kn k < 10000 := by decide +kernel
      have := q2 k2 (by rcases hat with h | h <;> exact kt_lt h.1 (by decide))
      omega
  have hn0 : ¬ I (n : Int) < 0 := by
    rw [← I_0, I_lt, show wr 0 = 0 from rfl, wr_of (by omega) (by omega)]; omega
  have hby : n * 8 ≤ 536870912 := by
    have q2 : ∀ k, k < 102 → kn k < 10000 := by decide +kernel
    have := q2 k2 (by rcases hat with h | h <;> exact kt_lt h.1 (by decide))
    omega
  rcases hat with ⟨hk, rfl⟩ | ⟨hk, rfl⟩
  · refine va_newaK (atype := .int) hC.1 hC.2.1 (hts _ ac_int) rfl hd rfl hn0 hcl (by show n * 4 ≤ 536870912; omega) hf.1 hf.2 hz fun H1 cA e1 z1 o1 hAr hNm => ?_
    refine kk H1 z1 o1 ?_
    have hcA : cA = D.2.2 2 := Option.some.inj (hNm.symm.trans (hK.2 0 _ rfl).2)
    unfold rawOK
    rw [if_neg (by omega), if_neg (by omega), hk, hn2, e1, hcA]
    rfl
  · refine va_newaK (atype := .boolean) hC.1 hC.2.1 (hts _ ac_boolean) rfl hd rfl hn0 hcl (by show n * 1 ≤ 536870912; omega) hf.1 hf.2 hz fun H1 cA e1 z1 o1 hAr hNm => ?_
    refine kk H1 z1 o1 ?_
    have hcA : cA = D.2.2 3 := Option.some.inj (hNm.symm.trans (hK.2 1 _ rfl).2)
    unfold rawOK
    rw [if_neg (by omega), if_neg (by omega), hk, hn2, e1, hcA]
    rfl
/-- a row of references is made, all null -/
theorem k_anew (hC : Kx own cc nL p s m args meth c D) {k4 n idx : Nat} (ht : kt k4 = 4) (hn2 : kn k4 = n) (hcl : Cond.classLink own idx (cNm.getD (kc k4) "") ∈ UW) (hov : va_AO (cNm.getD (kc k4) "") s) (hd : decode cc pc = .ok (.anewarray idx, 3)) (hf : cells + 1 ≤ R.cells ∧ slots + n ≤ R.slots) (hz : H.size = z)
    (kk : ∀ H1 : Heap, H1.size = z + 1 → (∀ q : Nat, q < z → H1[q]? = H[q]?) → rawOK D z k4 H1 (fun _ => .null) → W p l e R s m args below meth c H1 locs (cells + 1) (slots + n) Q (F0 m (pc + 3) ls (.ref z :: rest))) : W p l e R s m args below meth c H locs cells slots Q (F0 m pc ls (.int (I (n : Int)) :: rest)) := by
  have hts := hC.2.2.2.2.1
  have hK := hC.2.2.2.2.2.1
  have q2 : ∀ k, k < 102 → kn k < 10000 := by decide +kernel
  have hlt := q2 k4 (kt_lt ht (by decide))
  rw [hn2] at hlt
  have hcl2 : (I (n : Int)).toNatClampNeg = n := by
    have := I_cl (z := (n : Int)) (n := n + 1) (by omega) (by omega) (by omega)
    omega
  have hn0 : ¬ I (n : Int) < 0 := by
    rw [← I_0, I_lt, show wr 0 = 0 from rfl, wr_of (by omega) (by omega)]; omega
  refine W.anew hC.1 hC.2.1 hC.2.2.2.1 (hts _ hcl) (va_AO.use hov) rfl hd rfl hn0 (by rw [hcl2]; omega) hf.1 (by rw [hcl2]; exact hf.2) fun cA kA comp f1 f2 f3 f4 => ?_
  generalize hH1 : H.push ({ cls := cA, slots := Array.replicate (I (n : Int)).toNatClampNeg .null, vm := .none } : Cell) = H1
  have z1 : H1.size = H.size + 1 := by rw [← hH1, Array.size_push]
  have e1 : H1[H.size]? = some (arrV cA (I (n : Int)).toNatClampNeg (fun _ => .null)) := by rw [← hH1, Array.getElem?_push_size, ← arrV_new]
  have o1 : ∀ q : Nat, q < H.size → H1[q]? = H[q]? := fun q hq => by rw [← hH1, Array.getElem?_push, if_neg (Nat.ne_of_lt hq)]
  rw [hcl2] at e1 ⊢
  rw [hz] at z1 e1 o1 ⊢
  refine kk H1 z1 o1 ?_
  obtain ⟨t0, ht0⟩ := ref_ty2 (D := D) ht
  obtain ⟨kA', comp', k1, k2, k3, k5⟩ := (hK.2 t0 _ ht0).2
  have hcA : cA = D.2.2 (10 + kc k4) := Option.some.inj (f1.symm.trans k5)
  unfold rawOK
  rw [if_neg (by omega), if_pos ht, hn2, e1, hcA]
/-- an object is put into a row of references under way -/
theorem k_aast (hC : Kx own cc nL p s m args meth c D) (hinj : ∀ k i k' i', lawV k i → lawV k' i' → ad k i = ad k' i' → k = k' ∧ i = i') {k4 kx : Nat} {ix j : Int} {g : Nat → Value} (h4 : kt k4 = 4) (h1 : kt kx = 1) (hcc : kc k4 = kc kx) (hV : V kx ix) (j0 : 0 ≤ j) (j1 : j < kn k4) (hd : decode cc pc = .ok (.aastore, 1)) (h : KW D ad mm o i0 A H0 z V ((k4, g) :: Rw) H locs) (hrest : ∀ x ∈ Rw, x.1 ≠ k4)
    (kk : ∀ (H1 : Heap) (locs1 : List Loc), KW D ad mm o i0 A H0 z V ((k4, updV g j.toNat (.ref (ad kx ix))) :: Rw) H1 locs1 → W p l e R s m args below meth c H1 locs1 cells slots Q (F0 m (pc + 1) ls rest)) : W p l e R s m args below meth c H locs cells slots Q (F0 m pc ls (.ref (ad kx ix) :: .int (I j) :: .ref (ad k4 i0) :: rest)) := by
  have hK := hC.2.2.2.2.2.1
  obtain ⟨t0, ht0⟩ := ref_ty2 (D := D) h4
  obtain ⟨kA, comp, k1, k2, k3, -⟩ := (hK.2 t0 _ ht0).2
  obtain ⟨C, T, hc, -, hKn⟩ := kx_xc hC h1
  obtain ⟨hSl, hcls⟩ := hKn
  have hnm := kc_nm h1 hc
  rw [hcc, hnm] at k3
  have hcomp : comp = D.1 (kc kx) := Option.some.inj (k3.symm.trans hcls.1)
  subst hcomp
  obtain ⟨kC, hkC, -⟩ := hcls.2
  obtain ⟨cellV, g1, g2, g3, -⟩ := cell1 (h.1 kx ix hV) h1
  have hr := raw4 (h.2.1 _ List.mem_cons_self).2.2.2 h4
  have hkn := kn_lt k4
  have hj := I_cl (z := j) (n := kn k4) j0 j1 hkn
  have hin := in_arr (cA := D.2.2 (10 + kc k4)) (f := g) j0 j1 hkn
  refine W.aast hC.1 hC.2.1 hr (fun q h => by cases h) (fun h => by cases h) k1 k2 rfl hkC ⟨fun q => hin (Or.inl q), Nat.not_le.mp fun q => hin (Or.inr q)⟩ g1 (fun q h => by rw [g3] at h; cases h) (by rw [g2]; exact hkC) (by rw [g2]; exact va_assign hcls) rfl rfl hd fun H1 e1 z1 oq => ?_
  refine kk H1 _ (h.put hinj hrest ?_ z1 oq)
  unfold rawOK
  rw [if_neg (by omega), if_pos h4, e1, arrV_store, show (I j).toNatClampNeg = j.toNat by omega]
/-- an int is put into a row under way -/
theorem k_iast (hC : Kx own cc nL p s m args meth c D) (hinj : ∀ k i k' i', lawV k i → lawV k' i' → ad k i = ad k' i' → k = k' ∧ i = i') {k2 : Nat} {j v : Int} {g : Nat → Value} (h2 : kt k2 = 2) (j0 : 0 ≤ j) (j1 : j < kn k2) (hd : decode cc pc = .ok (.iastore, 1)) (h : KW D ad mm o i0 A H0 z V ((k2, g) :: Rw) H locs) (hrest : ∀ x ∈ Rw, x.1 ≠ k2)
    (kk : ∀ (H1 : Heap) (locs1 : List Loc), KW D ad mm o i0 A H0 z V ((k2, updV g j.toNat (.int (I v))) :: Rw) H1 locs1 → W p l e R s m args below meth c H1 locs1 cells slots Q (F0 m (pc + 1) ls rest)) : W p l e R s m args below meth c H locs cells slots Q (F0 m pc ls (.int (I v) :: .int (I j) :: .ref (ad k2 i0) :: rest)) := by
  have hK := hC.2.2.2.2.2.1
  have hr := raw2 (h.2.1 _ List.mem_cons_self).2.2.2 h2
  have hkn := kn_lt k2
  have hj := I_cl (z := j) (n := kn k2) j0 j1 hkn
  refine W.iast hC.1 hC.2.1 hr ((hK.2 0 _ rfl).1 _ _) (fun h => by cases h) (in_arr (cA := D.2.2 2) (f := g) j0 j1 hkn) rfl rfl hd fun H1 e1 z1 oq => ?_
  refine kk H1 _ (h.put hinj hrest ?_ z1 oq)
  unfold rawOK
  rw [if_neg (by omega), if_neg (by omega), h2, e1, arrV_store, show (I j).toNatClampNeg = j.toNat by omega]
/-- a method that makes is called -/
theorem k_call {b h : Nat} (hbh : b < h) (hC : Kx own cc nL p s m args meth c D) (hw : wKs s) {y : MI} {nc ns kx n idx : Nat} {ix : Int} {avs : List AV} {Vc : Nat → Int → Prop} (hM : MetK y nc ns kx ix avs mm Vc) (hlink : Cond.methodLink own idx y.1 ∈ UW ∨ (own, idx, y.1) ∈ kNw) (hy : mOK y n ∧ Cond.instanceMethod y.1 ∈ UW) (hret : y.2.2.2.1 = none) (hy1 : y.1.name = "<init>") (hrm : rmR R y = true) (hn : avs.length = n) (hsz : ls.size = nL) (hr : (rest.map fun v => v.category).sum ≤ 8) (hd : decode cc pc = .ok (.invokespecial idx, 3)) (hz : adr b h kx ix = z) (hA : ∀ q, s.heap.size ≤ q → A q) {H1 : Heap} (hK : KW D (adr b h) mm o i0 A s.heap z V Rw H locs) (h1 : H1.size = z + 1) (o1 : ∀ q : Nat, q < z → H1[q]? = H[q]?) (hbl : rawOK D z kx H1 (dfv kx)) (hVc : ∀ k i, Vc k i → lawV k i ∧ kt k ≠ 0) (hdis : ∀ x ∈ Rw, ¬ Vc x.1 i0) (hf : cells + nc ≤ R.cells ∧ slots + ns ≤ R.slots)
    (kk : ∀ (H2 : Heap) (locs2 : List Loc), KW D (adr b h) mm o i0 A s.heap (z + 1 + nc) (vor V Vc) Rw H2 locs2 → W p l e R s m args below meth c H2 locs2 (cells + nc) (slots + ns) Q (F0 m (pc + 3) ls rest)) : W p l e R s m args below meth c H1 locs cells slots Q (F0 m pc ls ((avs.map (cv (adr b h))).reverse ++ .ref z :: rest)) := by
  have hts := hC.2.2.2.2.1
  have hKK := hC.2.2.2.2.2.1
  obtain ⟨⟨hyc, hyi, hyn⟩, hyI⟩ := hy
  obtain ⟨r1, r2⟩ := Bool.and_eq_true _ _ ▸ hrm
  have hM' := hM l b h D o hbh
  have hp : PreS s H1 (va_Pc ((xr kx ix :: avs).map (cv (adr b h))) (kPre D (adr b h) kx ix)) (.ref z :: avs.map (cv (adr b h))) := ⟨kPre_blind, fun U hU hWm => ⟨by rw [← hz]; rfl, by rw [hU, hz]; exact h1, by rw [hU, hz]; exact hbl, va_K.moved hWm.alike hKK, wKs_warm hWm hw⟩⟩
  have hrun : va_Run p l e R s m args below meth c H1 locs cells slots nc ns (F0 m pc ls ((avs.map (cv (adr b h))).reverse ++ .ref z :: rest)) rest (kPost D (adr b h) mm o kx ix Vc nc (Value.ref z :: avs.map (cv (adr b h))).toArray) (fun a => adr b h kx ix ≤ a) := by
    rcases hlink with hl | hl
    · have cw : CallB R s args own idx y.1 y.2.1 y.2.2.1 none (mws y) (mrk y nc ns) nc ns n ∧ y.1.name = "<init>" ∧ (Cond.instanceMethod y.1).before args s = true :=
        cwI n hts (mws_good y hyc) (by unfold mws; rw [hret]) rfl rfl (hts _ hyi) (hts _ hl) (hts _ hyI) hy1 hyn ⟨Nat.le_of_ble_eq_true r1, Nat.le_of_ble_eq_true r2⟩
      exact va_runI (As := avs.map (cv (adr b h))) (rest := rest) ⟨hC.1, hC.2.1, hC.2.2.1, hC.2.2.2.1, hts⟩ hM' cw hp rfl (by rw [List.length_map]; exact hn) hsz rfl (lv_room hr) hd hf
    · have cw : va_CN R s args own idx y.1 RX10 y.2.1 y.2.2.1 none (mws y) (mrk y nc ns) nc ns n ∧ y.1.name = "<init>" ∧ (Cond.instanceMethod y.1).before args s = true :=
        ⟨va_cnB n hts (mws_good y hyc) (by unfold mws; rw [hret]) rfl rfl (hw.2 _ hl) (hts _ hyi) hyn ⟨Nat.le_of_ble_eq_true r1, Nat.le_of_ble_eq_true r2⟩, hy1, hts _ hyI⟩
      exact va_runIN (As := avs.map (cv (adr b h))) (rest := rest) ⟨hC.1, hC.2.1, hC.2.2.1, hC.2.2.2.1, hts⟩ hM' cw hp rfl (by rw [List.length_map]; exact hn) hsz rfl (lv_room hr) hd hf
  intro T hT X
  obtain ⟨v, st₀, t, T', L', h0, X', hL', e1, e2, ⟨⟨hoc, hW', hsz'⟩, hz9, hk9⟩, stp⟩ := hrun T hT X
  cases hoc
  rw [h0] at hz9 hk9
  rw [hz] at hsz' hk9 hL'
  have hg := hK.grow (H' := t.heap) (z' := z + 1 + nc) (by omega) hsz' (fun q hq => (hk9 q (by omega) (by show ¬ z ≤ q; omega)).trans (o1 q hq)) (locs' := L') (fun q hq => hA _ (Nat.le_trans hK.lt (hL' q hq))) hVc hW' (Rw' := []) (fun x hx => absurd hx List.not_mem_nil) (fun x hx => hdis x hx)
  obtain ⟨t2, a1, b1⟩ := kk T'.heap (locs ++ L') (by rw [e1]; exact hg) T' rfl X'
  exact ⟨t2, stp t2 a1, b1⟩
/-- a row of numbers is made and kept in a field of the object under way -/
theorem k_nf (hC : Kx own cc nL p s m args meth c D) (hin : meth.name = "<init>") (hinj : ∀ k i k' i', lawV k i → lawV k' i' → ad k i = ad k' i' → k = k' ∧ i = i') (hA : ∀ q, H0.size ≤ q → A q) {k k2 n w idx nx sl dc ty rc p1 p2 : Nat} {sj : Int} {f : Nat → Value} {at9 : ArrayType} (ht : kt k = 1) (hl0 : ls[0]? = some (.val (.ref (ad k i0)))) (d0 : decode cc pc = .ok (.aload_n 0, 1)) (hp : pushOK cc (pc + 1) n w) (d2 : decode cc (pc + 1 + w) = .ok (.newarray at9, 2)) (hat : (kt k2 = 2 ∧ at9 = .int) ∨ (kt k2 = 3 ∧ at9 = .boolean)) (hn2 : kn k2 = n) {C : CT} (hcode : C.all (cOK own cc) = true) (hg : cget C (pc + 1 + w + 2) = some (.putfield idx, nx, sl, sj, dc, ty, rc, p1, p2)) (hsub : subc (kc k) dc = true)
    (hfin : (fdT dc sl).2.2.2 = true ∧ (fdT dc sl).1 = own) {ty9 : FieldType} (hd : parseFieldDescriptor (fdT dc sl).2.2.1 = some ty9) (hnr : ∀ a : Nat, narrow ty9 (.ref a) = .ref a ∧ fits ty9 (.ref a) = true) (hk2 : lawV k2 i0) (had : ad k2 i0 = z) (hmm : ∀ j, mm k2 i0 j = 0) (h : KW D ad mm o i0 A H0 z V ((k, f) :: Rw) H locs) (hrest : ∀ x ∈ Rw, x.1 ≠ k) (hne : ∀ x ∈ (k, f) :: Rw, x.1 ≠ k2) (hf : cells + 1 ≤ R.cells ∧ slots + n ≤ R.slots)
    (kk : ∀ (H1 : Heap) (locs1 : List Loc), KW D ad mm o i0 A H0 (z + 1) (vor V (vs k2 i0)) ((k, updV f sl (.ref z)) :: Rw) H1 locs1 → W p l e R s m args below meth c H1 locs1 (cells + 1) (slots + n) Q (F0 m (pc + 1 + w + 2 + 3) ls rest)) : W p l e R s m args below meth c H locs cells slots Q (F0 m pc ls rest) := by
  refine lv_aload_n hC.1 hC.2.1 d0 rfl hl0 ?_
  refine k_push hC.1 hC.2.1 hp ?_
  refine k_arr hC hat hn2 d2 hf h.2.2.1 fun H1 z1 o1 hr => ?_
  have h5 : kt k2 ≠ 5 := by rcases hat with q | q <;> omega
  have h0 : kt k2 ≠ 0 := by rcases hat with q | q <;> omega
  have h14 : Nat.beq (kt k2) 1 = false ∧ Nat.beq (kt k2) 4 = false := by rcases hat with q | q <;> (rw [q.1]; exact ⟨rfl, rfl⟩)
  have hg1 := h.grow (H' := H1) (z' := z + 1) (by omega) z1 o1 (locs' := []) (fun q hq => absurd hq List.not_mem_nil) (V' := vs k2 i0) (by rintro k i ⟨rfl, rfl⟩; exact ⟨hk2, h0⟩) (by
    rintro k i ⟨rfl, rfl⟩
    refine raw_done (by rw [had]; exact hr) h5 fun s hs => ?_
    unfold fin_
    rw [h14.1, h14.2]
    show Value.int 0 = .int (I (mm k i s))
    rw [hmm]; rfl) (Rw' := []) (fun x hx => absurd hx List.not_mem_nil) (fun x hx q => hne x hx q.1)
  rw [List.append_nil] at hg1
  exact k_put hC hinj ht hcode hg hsub (Or.inr ⟨hin, hfin⟩) hd (hnr z).1 (hnr z).2 hg1 hrest kk
/-- a row of references is made and kept in a field of the object under way -/
theorem k_nq (hC : Kx own cc nL p s m args meth c D) (hin : meth.name = "<init>") (hinj : ∀ k i k' i', lawV k i → lawV k' i' → ad k i = ad k' i' → k = k' ∧ i = i') (hA : ∀ q, H0.size ≤ q → A q) {k k4 n w idx idx2 nx sl dc ty rc p1 p2 : Nat} {sj : Int} {f : Nat → Value} (ht : kt k = 1) (hl0 : ls[0]? = some (.val (.ref (ad k i0)))) (d0 : decode cc pc = .ok (.aload_n 0, 1)) (hp : pushOK cc (pc + 1) n w) (d2 : decode cc (pc + 1 + w) = .ok (.anewarray idx2, 3)) (h4 : kt k4 = 4) (hn2 : kn k4 = n) (hcl : Cond.classLink own idx2 (cNm.getD (kc k4) "") ∈ UW) (hov : va_AO (cNm.getD (kc k4) "") s) {C : CT} (hcode : C.all (cOK own cc) = true) (hg : cget C (pc + 1 + w + 3) = some (.putfield idx, nx, sl, sj, dc, ty, rc, p1, p2)) (hsub : subc (kc k) dc = true)
    (hfin : (fdT dc sl).2.2.2 = true ∧ (fdT dc sl).1 = own) {ty9 : FieldType} (hd : parseFieldDescriptor (fdT dc sl).2.2.1 = some ty9) (hnr : ∀ a : Nat, narrow ty9 (.ref a) = .ref a ∧ fits ty9 (.ref a) = true) (hk4 : lawV k4 i0) (hnV : ¬ V k4 i0) (had : ad k4 i0 = z) (h : KW D ad mm o i0 A H0 z V ((k, f) :: Rw) H locs) (hrest : ∀ x ∈ Rw, x.1 ≠ k) (hne : ∀ x ∈ (k, f) :: Rw, x.1 ≠ k4) (hf : cells + 1 ≤ R.cells ∧ slots + n ≤ R.slots)
    (kk : ∀ (H1 : Heap) (locs1 : List Loc), KW D ad mm o i0 A H0 (z + 1) V ((k, updV f sl (.ref z)) :: (k4, fun _ => .null) :: Rw) H1 locs1 → W p l e R s m args below meth c H1 locs1 (cells + 1) (slots + n) Q (F0 m (pc + 1 + w + 3 + 3) ls rest)) : W p l e R s m args below meth c H locs cells slots Q (F0 m pc ls rest) := by
  refine lv_aload_n hC.1 hC.2.1 d0 rfl hl0 ?_
  refine k_push hC.1 hC.2.1 hp ?_
  refine k_anew hC h4 hn2 hcl hov d2 hf h.2.2.1 fun H1 z1 o1 hr => ?_
  have hg1 := h.grow (H' := H1) (z' := z + 1) (by omega) z1 o1 (locs' := []) (fun q hq => absurd hq List.not_mem_nil) (V' := fun _ _ => False) (fun _ _ q => q.elim) (fun _ _ q => q.elim) (Rw' := [(k4, fun _ => .null)]) (fun x hx => by
    rw [List.mem_singleton.mp hx]
    exact ⟨hk4, hA _ (by rw [had]; exact h.lt), hnV, by rw [had]; exact hr⟩) (fun x hx q => q)
  rw [List.append_nil] at hg1
  have hg2 : KW D ad mm o i0 A H0 (z + 1) V ((k, f) :: (k4, fun _ => .null) :: Rw) H1 locs := by
    obtain ⟨a1, a2, a3, a4, a5⟩ := hg1
    refine ⟨fun k i hv => a1 k i (Or.inl hv), fun x hx => ?_, a3, fun k i hv => a4 k i (Or.inl hv), a5⟩
    obtain ⟨b1, b2, b3, b4⟩ := a2 x (by
      rcases List.mem_cons.mp hx with rfl | hx
      · exact List.mem_append_right _ List.mem_cons_self
      · rcases List.mem_cons.mp hx with rfl | hx
        · exact List.mem_append_left _ List.mem_cons_self
        · exact List.mem_append_right _ (List.mem_cons_of_mem _ hx))
    exact ⟨b1, b2, fun q => b3 (Or.inl q), b4⟩
  exact k_put hC hinj ht hcode hg hsub (Or.inr ⟨hin, hfin⟩) hd (hnr z).1 (hnr z).2 hg2 (fun x hx => by
    rcases List.mem_cons.mp hx with rfl | hx
    · exact (hne _ List.mem_cons_self).symm
    · exact hrest x hx) kk
end CTX
/-- a contract out of a body -/
theorem MetK.of {y : MI} {nc ns kx : Nat} {ix : Int} {avs : List AV} {mm : Mm} {Vc : Nat → Int → Prop} (hy : plainName y.1.cls = true) (hret : y.2.2.2.1 = none) (hy1 : y.1.name = "<init>") (hlen : (xr kx ix :: avs).length ≤ y.2.2.1) (hok : ∀ v ∈ xr kx ix :: avs, okl (fun _ _ => True) v) (hlv : lawV kx ix) (hk0 : kt kx ≠ 0)
    (body : ∀ (p : Program) (l : Launch) (e : Env) (s : State) (m : MethodId) (args : Array Value) (below : List Frame) (meth : Method) (c : Code) (Q : State → Prop) (b h : Nat) (D : DD) (o : Int64) (ls : Array Slot), b < h → Kx y.1.cls y.2.1 y.2.2.1 p s m args meth c D → meth.name = "<init>" → wKs s → KW D (adr b h) mm o ix (fun a => adr b h kx ix ≤ a) s.heap (adr b h kx ix + 1) (fun _ _ => False) [(kx, dfv kx)] s.heap [] → (∀ q, s.heap.size ≤ q → adr b h kx ix ≤ q) → lv_has ls y.2.2.1 ((lent 0 (xr kx ix :: avs)).map fun q => (q.1, cv (adr b h) q.2)) →
      (∀ (H : Heap) (locs : List Loc) (pc : Nat) (ls : Array Slot), wOK Vc D (adr b h) mm o H → H.size = adr b h kx ix + 1 + nc → va_S (fun a => adr b h kx ix ≤ a) s.heap H locs → decode y.2.1 pc = .ok (.return_, 1) → W p l e (mrk y nc ns) s m args below meth c H locs nc ns Q (F0 m pc ls [])) →
      W p l e (mrk y nc ns) s m args below meth c s.heap [] 0 0 Q (F0 m 0 ls [])) : MetK y nc ns kx ix avs mm Vc := by
  intro l b h D o hbh
  refine Met.ofW (cc := y.2.1) (maxL := y.2.2.1) (ret := y.2.2.2.1) hy rfl ?_
  intro p e s m args below meth c s₁ B hml hv
  obtain ⟨rfl, hsz, hbl, hK, hw⟩ := hv
  have hx := B.exec
  have hb := B.bytes
  have hr := B.returns
  have hts := atoms_spec (ws := mws y) B.pre
  have hown : s.vm.findClass y.1.cls = some m.cls := findClass_of_methodNamed B.named
  have hlocks := B.notSynchronized
  have hin : meth.name = "<init>" := (name_of_methodNamed B.named B.method).1.trans hy1
  have hC : Kx y.1.cls y.2.1 y.2.2.1 p s m (((xr kx ix :: avs).map (cv (adr b h))).toArray) meth c D := ⟨hx, hb, hml, hown, fun w hw => hts w (List.mem_cons_of_mem _ hw), hK, hlocks⟩
  have hA : ∀ q, s.heap.size ≤ q → adr b h kx ix ≤ q := fun q hq => by omega
  have hKW : KW D (adr b h) mm o ix (fun a => adr b h kx ix ≤ a) s.heap (adr b h kx ix + 1) (fun _ _ => False) [(kx, dfv kx)] s.heap [] :=
    ⟨fun _ _ q => q.elim, fun x hx => by rw [List.mem_singleton.mp hx]; exact ⟨hlv, Nat.le_refl _, fun q => q, hbl⟩, hsz, fun _ _ q => q.elim, va_S.rf⟩
  have hl := lv_entry ((xr kx ix :: avs).map (cv (adr b h))) (n := y.2.2.1) (by rw [lent_len (V := fun _ _ => True) _ hok]; exact hlen)
  rw [lent_args (V := fun _ _ => True) _ 0 hok] at hl
  rw [lg_entry_eq]
  refine body p l e s m (((xr kx ix :: avs).map (cv (adr b h))).toArray) below meth c (MQ below (kPost D (adr b h) mm o kx ix Vc nc) (((xr kx ix :: avs).map (cv (adr b h))).toArray) s nc ns (fun a => adr b h kx ix ≤ a)) b h D o _ hbh hC hin hw hKW hA hl ?_
  intro H locs pc ls hW' hsz' hS' hd
  have hret2 : meth.sig.returnType = none := by rw [hr, hret]
  exact W.vret hx hb hret2 (fun t ht hWt => ⟨⟨rfl, by rw [ht]; exact hW', by rw [ht]; exact hsz'⟩, hS'.F ht⟩) hS'.2.2 hd
