/-! ===== the objects are made: a world under way ===== -/
def adr (b h : Nat) (k : Nat) (i : Int) : Nat := bif Nat.beq k 0 then b else h + off k i
theorem off_inv : ((List.range 102).all fun k => (List.range (km k)).all fun i => decide (offI.getD (off k (i : Int)) (0, 0) = (k, (i : Int)))) = true := by decide +kernel
theorem km_lt {k : Nat} {i : Int} (h0 : 0 ≤ i) (h1 : i < km k) : k < 102 := by
  rcases Nat.lt_or_ge k 102 with q | q
  · exact q
  · have : km k = 0 := by
      show kmL.getD k 0 = 0
      rw [List.getD_eq_getElem?_getD, List.getElem?_eq_none (by exact q)]; rfl
    omega
theorem off_inj {k k' : Nat} {i i' : Int} (h0 : 0 ≤ i) (h1 : i < km k) (g0 : 0 ≤ i') (g1 : i' < km k') (h : off k i = off k' i') : k = k' ∧ i = i' := by
  have f : ∀ {k : Nat} {i : Int}, 0 ≤ i → i < km k → offI.getD (off k i) (0, 0) = (k, i) := fun {k i} h0 h1 => by
    have q1 := List.all_eq_true.mp off_inv k (List.mem_range.mpr (km_lt h0 h1))
    have q2 := List.all_eq_true.mp q1 i.toNat (List.mem_range.mpr (by omega))
    have q3 := of_decide_eq_true q2
    rw [Int.toNat_of_nonneg h0] at q3
    exact q3
  have e1 := f h0 h1
  rw [h, f g0 g1] at e1
  cases e1
  exact ⟨rfl, rfl⟩
theorem adr_0 (b h : Nat) (i : Int) : adr b h 0 i = b := rfl
theorem adr_k {b h k : Nat} {i : Int} (hk : k ≠ 0) : adr b h k i = h + off k i := by
  unfold adr
  have : Nat.beq k 0 = false := by rw [← Bool.not_eq_true, Nat.beq_eq]; exact hk
  rw [this]; rfl
theorem adr_inj {b h : Nat} (hb : b < h) : ∀ k i k' i', lawV k i → lawV k' i' → adr b h k i = adr b h k' i' → k = k' ∧ i = i' := by
  have nz : ∀ {k : Nat} {i : Int}, 0 ≤ i → i < km k → k ≠ 0 := fun {k i} h0 h1 hk => by
    subst hk
    have : km 0 = 0 := rfl
    omega
  rintro k i k' i' (⟨rfl, rfl⟩ | ⟨h0, h1⟩) (⟨rfl, rfl⟩ | ⟨g0, g1⟩) he
  · exact ⟨rfl, rfl⟩
  · rw [adr_0, adr_k (nz g0 g1)] at he; omega
  · rw [adr_0, adr_k (nz h0 h1)] at he; omega
  · rw [adr_k (nz h0 h1), adr_k (nz g0 g1)] at he
    exact off_inj h0 h1 g0 g1 (by omega)
def dfv (k : Nat) : Nat → Value := fun s => match rfo k 0 s with
  | some _ => .null
  | none => .int 0
/-- a cell under way, with the values f -/
def rawOK (D : DD) (a k : Nat) (H : Heap) (f : Nat → Value) : Prop :=
  if kt k = 1 then t_OB a (D.1 (kc k)) (kn k) (D.2.1 (kc k)) H f
  else if kt k = 4 then H[a]? = some (arrV (D.2.2 (10 + kc k)) (kn k) f)
  else H[a]? = some (arrV (D.2.2 (kt k)) (kn k) f)
theorem raw1 {D : DD} {a k : Nat} {H : Heap} {f : Nat → Value} (h : rawOK D a k H f) (ht : kt k = 1) : t_OB a (D.1 (kc k)) (kn k) (D.2.1 (kc k)) H f := by
  unfold rawOK at h; rw [if_pos ht] at h; exact h
theorem raw4 {D : DD} {a k : Nat} {H : Heap} {f : Nat → Value} (h : rawOK D a k H f) (ht : kt k = 4) : H[a]? = some (arrV (D.2.2 (10 + kc k)) (kn k) f) := by
  unfold rawOK at h; rw [if_neg (by omega), if_pos ht] at h; exact h
theorem raw2 {D : DD} {a k : Nat} {H : Heap} {f : Nat → Value} (h : rawOK D a k H f) (ht : kt k = 2) : H[a]? = some (arrV (D.2.2 2) (kn k) f) := by
  unfold rawOK at h; rw [if_neg (by omega), if_neg (by omega), ht] at h; exact h
theorem rawOK.kept {D : DD} {a k : Nat} {H H' : Heap} {f : Nat → Value} (h : rawOK D a k H f) (hq : H'[a]? = H[a]?) : rawOK D a k H' f := by
  unfold rawOK at h ⊢
  by_cases h1 : kt k = 1
  · rw [if_pos h1] at h ⊢; exact h.kept hq
  · rw [if_neg h1] at h ⊢
    by_cases h4 : kt k = 4
    · rw [if_pos h4] at h ⊢; rw [hq]; exact h
    · rw [if_neg h4] at h ⊢; rw [hq]; exact h
theorem rawOK.lt {D : DD} {a k : Nat} {H : Heap} {f : Nat → Value} (h : rawOK D a k H f) : a < H.size := by
  unfold rawOK at h
  by_cases h1 : kt k = 1
  · rw [if_pos h1] at h
    obtain ⟨cell, q, -⟩ := h
    exact (Array.getElem?_eq_some_iff.mp q).1
  · rw [if_neg h1] at h
    by_cases h4 : kt k = 4
    · rw [if_pos h4] at h; exact (Array.getElem?_eq_some_iff.mp h).1
    · rw [if_neg h4] at h; exact (Array.getElem?_eq_some_iff.mp h).1
theorem arrV_ext {cA : ClassId} {n : Nat} {f g : Nat → Value} (h : ∀ j, j < n → f j = g j) : arrV cA n f = arrV cA n g := by
  unfold arrV
  congr 2
  funext j
  exact h j j.isLt
/-- what a cell holds in the end -/
def fin_ (ad : Nat → Int → Nat) (mm : Mm) (k : Nat) (i : Int) : Nat → Value := fun s => bif Nat.beq (kt k) 1 then vo ad mm k i s else bif Nat.beq (kt k) 4 then va_rf ((rfa k i s).map fun q => ad q.1 q.2) else .int (I (mm k i s))
theorem raw_done {D : DD} {ad : Nat → Int → Nat} {mm : Mm} {o : Int64} {k : Nat} {i : Int} {H : Heap} {f : Nat → Value} (h : rawOK D (ad k i) k H f) (h5 : kt k ≠ 5) (hf : ∀ s, s < kn k → f s = fin_ ad mm k i s) : cellOK D ad mm o H k i := by
  unfold rawOK at h
  unfold cellOK
  unfold fin_ at hf
  by_cases h1 : kt k = 1
  · rw [if_pos h1] at h ⊢
    rw [h1] at hf
    exact h.to hf
  · have b1 : Nat.beq (kt k) 1 = false := by rw [← Bool.not_eq_true, Nat.beq_eq]; exact h1
    rw [b1] at hf
    rw [if_neg h1] at h ⊢
    by_cases h4 : kt k = 4
    · rw [if_pos h4] at h ⊢
      rw [h4] at hf
      rw [h, arrV_ext hf]; rfl
    · have b4 : Nat.beq (kt k) 4 = false := by rw [← Bool.not_eq_true, Nat.beq_eq]; exact h4
      rw [b4] at hf
      rw [if_neg h4] at h ⊢
      rw [if_neg h5]
      by_cases h23 : kt k = 2 ∨ kt k = 3
      · rw [if_pos h23, h, arrV_ext hf]; rfl
      · rw [if_neg h23]; trivial
def vor (V V' : Nat → Int → Prop) : Nat → Int → Prop := fun k i => V k i ∨ V' k i
def vs (k0 : Nat) (i0 : Int) : Nat → Int → Prop := fun k i => k = k0 ∧ i = i0
abbrev RW : Type := List (Nat × (Nat → Value))
/-- a world under way: done cells V, cells under way Rw (all of the number i0), all that comes lies from z on -/
def KW (D : DD) (ad : Nat → Int → Nat) (mm : Mm) (o : Int64) (i0 : Int) (A : Nat → Prop) (H0 : Heap) (z : Nat) (V : Nat → Int → Prop) (Rw : RW) (H : Heap) (locs : List Loc) : Prop :=
  wOK V D ad mm o H ∧ (∀ x ∈ Rw, lawV x.1 i0 ∧ A (ad x.1 i0) ∧ ¬ V x.1 i0 ∧ rawOK D (ad x.1 i0) x.1 H x.2) ∧ H.size = z ∧ (∀ k i, V k i → lawV k i ∧ kt k ≠ 0) ∧ va_S A H0 H locs
section KWS
variable {D : DD} {ad : Nat → Int → Nat} {mm : Mm} {o : Int64} {i0 : Int} {A : Nat → Prop} {H0 : Heap} {z : Nat} {V : Nat → Int → Prop} {Rw : RW} {H H' : Heap} {locs : List Loc}
theorem KW.sub (h : KW D ad mm o i0 A H0 z V Rw H locs) {Rw' : RW} (hs : ∀ x ∈ Rw', x ∈ Rw) : KW D ad mm o i0 A H0 z V Rw' H locs :=
  ⟨h.1, fun x hx => h.2.1 x (hs x hx), h.2.2⟩
theorem KW.put {k k2 : Nat} {f f' : Nat → Value} (hinj : ∀ k i k' i', lawV k i → lawV k' i' → ad k i = ad k' i' → k = k' ∧ i = i') (h : KW D ad mm o i0 A H0 z V ((k, f) :: Rw) H locs) (hrest : ∀ x ∈ Rw, x.1 ≠ k) (e : rawOK D (ad k i0) k H' f') (zz : H'.size = H.size) (oq : ∀ q : Nat, q ≠ ad k i0 → H'[q]? = H[q]?) : KW D ad mm o i0 A H0 z V ((k, f') :: Rw) H' (locs ++ [⟨ad k i0, k2⟩]) := by
  obtain ⟨hW, hR, hz, hV, hS⟩ := h
  obtain ⟨r1, r2, r3, r4⟩ := hR _ List.mem_cons_self
  refine ⟨fun k' i' hv => cell_keep (hW k' i' hv) (oq _ (fun he => ?_)) (fun _ => rfl) (fun _ => rfl), fun x hx => ?_, zz.trans hz, hV, hS.put zz oq r2⟩
  · obtain ⟨rfl, rfl⟩ := hinj _ _ _ _ (hV _ _ hv).1 r1 he
    exact r3 hv
  · rcases List.mem_cons.mp hx with rfl | hx
    · exact ⟨r1, r2, r3, e⟩
    · obtain ⟨s1, s2, s3, s4⟩ := hR x (List.mem_cons_of_mem _ hx)
      exact ⟨s1, s2, s3, s4.kept (oq _ fun he => hrest x hx (hinj _ _ _ _ s1 r1 he).1)⟩
theorem KW.grow (h : KW D ad mm o i0 A H0 z V Rw H locs) {z' : Nat} (hz' : z ≤ z') (hsz : H'.size = z') (oq : ∀ q : Nat, q < z → H'[q]? = H[q]?) {locs' : List Loc} (hl : ∀ q ∈ locs', A q.base) {V' : Nat → Int → Prop} (hV' : ∀ k i, V' k i → lawV k i ∧ kt k ≠ 0) (hW' : wOK V' D ad mm o H') {Rw' : RW} (hR' : ∀ x ∈ Rw', lawV x.1 i0 ∧ A (ad x.1 i0) ∧ ¬ V x.1 i0 ∧ rawOK D (ad x.1 i0) x.1 H' x.2) (hd : ∀ x ∈ Rw' ++ Rw, ¬ V' x.1 i0) : KW D ad mm o i0 A H0 z' (vor V V') (Rw' ++ Rw) H' (locs ++ locs') := by
  obtain ⟨hW, hR, hz, hV, hS⟩ := h
  refine ⟨fun k i hv => ?_, fun x hx => ?_, hsz, fun k i hv => ?_, ?_⟩
  · rcases hv with hv | hv
    · exact cell_keep (hW k i hv) (oq _ (by rw [← hz]; exact lt_of_wOK hW hv (hV _ _ hv).2)) (fun _ => rfl) (fun _ => rfl)
    · exact hW' k i hv
  · have hd' := hd x hx
    rcases List.mem_append.mp hx with hx | hx
    · obtain ⟨s1, s2, s3, s4⟩ := hR' x hx
      exact ⟨s1, s2, fun c => c.elim s3 hd', s4⟩
    · obtain ⟨s1, s2, s3, s4⟩ := hR x hx
      exact ⟨s1, s2, fun c => c.elim s3 hd', s4.kept (oq _ (by rw [← hz]; exact s4.lt))⟩
  · exact hv.elim (hV k i) (hV' k i)
  · refine ⟨Nat.le_trans hS.1 (by omega), fun q h1 h2 => ?_, fun q hq => ?_⟩
    · rw [oq q (by have := hS.1; omega)]; exact hS.2.1 q h1 h2
    · rcases List.mem_append.mp hq with g | g
      · exact hS.2.2 q g
      · exact hl q g
theorem KW.done {k : Nat} {f : Nat → Value} (h : KW D ad mm o i0 A H0 z V ((k, f) :: Rw) H locs) (hrest : ∀ x ∈ Rw, x.1 ≠ k) (h0 : kt k ≠ 0) (h5 : kt k ≠ 5) (hf : ∀ s, s < kn k → f s = fin_ ad mm k i0 s) : KW D ad mm o i0 A H0 z (vor V (vs k i0)) Rw H locs := by
  obtain ⟨hW, hR, hz, hV, hS⟩ := h
  obtain ⟨r1, r2, r3, r4⟩ := hR _ List.mem_cons_self
  refine ⟨fun k' i' hv => ?_, fun x hx => ?_, hz, fun k' i' hv => ?_, hS⟩
  · rcases hv with hv | ⟨rfl, rfl⟩
    · exact hW k' i' hv
    · exact raw_done r4 h5 hf
  · obtain ⟨s1, s2, s3, s4⟩ := hR x (List.mem_cons_of_mem _ hx)
    exact ⟨s1, s2, fun c => c.elim s3 (fun q => hrest x hx q.1), s4⟩
  · rcases hv with hv | ⟨rfl, rfl⟩
    · exact hV k' i' hv
    · exact ⟨r1, h0⟩
theorem KW.lt (h : KW D ad mm o i0 A H0 z V Rw H locs) : H0.size ≤ z := by rw [← h.2.2.1]; exact h.2.2.2.2.1
end KWS
/-- what making asks of the tables, beside the good words -/
def kA : List String := [RX1, RX3, RX6, RX7, RX8, RX9]
def kNw : List (String × Nat × MethodName) := [(RX5, 42, yX6_init), (RX5, 43, yX8_init), (RX8, 1, yX0_init), (RX5, 44, yX1_init), (RX1, 1, yX0_init), (RX4, 11, yX3_init), (RX4, 20, yX2_init), (RX4, 48, yX9_init), (RX10, 34, yX3_init)]
def wKs (U : State) : Prop := (∀ C ∈ kA, va_AO C U) ∧ ∀ w ∈ kNw, va_Nw (.methodLinkNest w.1 w.2.1 w.2.2 RX10) U
theorem wKs_warm {s U : State} (hW : s.WarmedH U.vm) (h : wKs s) : wKs U := ⟨fun C hC => (h.1 C hC).moved hW.alike, fun w hw => (h.2 w hw).warmM hW⟩
def mrk (y : MI) (nc ns : Nat) : Room := { frames := y.2.2.2.2.2.1, cells := nc, slots := ns, locals := y.2.2.2.2.2.2 }
/-- the contract of a method that makes the rest of an object, whose cell lies at the heap's end -/
def kPre (D : DD) (ad : Nat → Int → Nat) (kx : Nat) (ix : Int) (U : State) : Prop := U.heap.size = ad kx ix + 1 ∧ rawOK D (ad kx ix) kx U.heap (dfv kx) ∧ va_K (D.1, D.2.1) xCl (tysOf D) U ∧ wKs U
def kPost (D : DD) (ad : Nat → Int → Nat) (mm : Mm) (o : Int64) (kx : Nat) (ix : Int) (Vc : Nat → Int → Prop) (nc : Nat) : Array Value → State → Outcome → State → Prop := fun _ st oc t => (oc = .returned none ∧ wOK Vc D ad mm o t.heap ∧ t.heap.size = ad kx ix + 1 + nc) ∧ va_F (fun a => ad kx ix ≤ a) st t
def MetK (y : MI) (nc ns : Nat) (kx : Nat) (ix : Int) (avs : List AV) (mm : Mm) (Vc : Nat → Int → Prop) : Prop := ∀ (l : Launch) (b h : Nat) (D : DD) (o : Int64), b < h → Met l y.1 (mws y) (mrk y nc ns) (va_Pc ((xr kx ix :: avs).map (cv (adr b h))) (kPre D (adr b h) kx ix)) (kPost D (adr b h) mm o kx ix Vc nc) nc ns (fun a => adr b h kx ix ≤ a)
theorem kPre_blind {D : DD} {ad : Nat → Int → Nat} {kx : Nat} {ix : Int} {As : List Value} : FrameBlind (va_Pc As (kPre D ad kx ix)) := by
  intro a U g mk h
  obtain ⟨h0, h1, h2, h3, h4⟩ := h
  exact ⟨h0, h1, h2, va_K.moved (u := U) (U := U.calling g mk a) (Vm.Alike.refl U.vm) h3, fun C hC => va_AO.moved (u := U) (U := U.calling g mk a) (Vm.Alike.refl U.vm) (h4.1 C hC), fun w hw => (h4.2 w hw).same rfl rfl⟩
/-- where a making method runs -/
def Kx (own : String) (cc : ByteArray) (nL : Nat) (p : Program) (s : State) (m : MethodId) (args : Array Value) (meth : Method) (c : Code) (D : DD) : Prop :=
  p.tables.exec = Jvm.exec ∧ c.code = cc ∧ c.maxLocals = nL ∧ s.vm.findClass own = some m.cls ∧ (∀ w ∈ UW, w.before args s = true) ∧ va_K (D.1, D.2.1) xCl (tysOf D) s ∧ meth.locks = false
section CTX
variable {p : Program} {l : Launch} {e : Env} {R : Room} {s : State} {m : MethodId} {args : Array Value} {below : List Frame} {meth : Method} {c : Code} {cells slots : Nat} {Q : State → Prop} {D : DD} {ad : Nat → Int → Nat} {A : Nat → Prop} {nL : Nat} {own : String} {cc : ByteArray} {mm : Mm} {o : Int64} {i0 : Int} {H0 : Heap} {z : Nat} {V : Nat → Int → Prop} {Rw : RW} {H : Heap} {locs : List Loc} {pc : Nat} {ls : Array Slot} {rest : List Value}
theorem kx_xc (hC : Kx own cc nL p s m args meth c D) {k : Nat} (ht : kt k = 1) : ∃ (C : String) (T : u_T), xCl[kc k]? = some (C, T, kn k) ∧ xcOK C T (kn k) ∧ u_Kn s C T (kn k) (D.1 (kc k)) (D.2.1 (kc k)) := by
  obtain ⟨C, T, h⟩ := xc_ok ht
  exact ⟨C, T, h, xcl_ok _ _ _ _ h, hC.2.2.2.2.2.1.1 _ _ h⟩
/-- a field of a cell under way is set -/
theorem k_put (hC : Kx own cc nL p s m args meth c D) (hinj : ∀ k i k' i', lawV k i → lawV k' i' → ad k i = ad k' i' → k = k' ∧ i = i') {k idx nx sl dc ty rc p1 p2 : Nat} {sj : Int} {f : Nat → Value} {v : Value} (ht : kt k = 1) {C : CT} (hcode : C.all (cOK own cc) = true) (hg : cget C pc = some (.putfield idx, nx, sl, sj, dc, ty, rc, p1, p2)) (hsub : subc (kc k) dc = true)
    (hfin : ((fdT dc sl).2.2.2 = false) ∨ (meth.name = "<init>" ∧ (fdT dc sl).2.2.2 = true ∧ (fdT dc sl).1 = own)) {ty9 : FieldType} (hd : parseFieldDescriptor (fdT dc sl).2.2.1 = some ty9) (hn : narrow ty9 v = v) (hfit : fits ty9 v = true) (h : KW D ad mm o i0 A H0 z V ((k, f) :: Rw) H locs) (hrest : ∀ x ∈ Rw, x.1 ≠ k)
    (kk : ∀ (H1 : Heap) (locs1 : List Loc), KW D ad mm o i0 A H0 z V ((k, updV f sl v) :: Rw) H1 locs1 → W p l e R s m args below meth c H1 locs1 cells slots Q (F0 m (pc + 3) ls rest)) : W p l e R s m args below meth c H locs cells slots Q (F0 m pc ls (v :: .ref (ad k i0) :: rest)) := by
  have he := List.all_eq_true.mp hcode _ (cget_mem hg)
  obtain ⟨hdg, hnx⟩ := cOK_spec he 3 rfl (by decide)
  have hf : fldOK own idx sl sj dc rc p1 p2 = true := by
    unfold cOK at he
    simp only [Bool.and_eq_true] at he
    exact he.2.1
  obtain ⟨C, T, hc, ⟨hin, ⟨ty0, hty⟩, hnm⟩, hKn⟩ := kx_xc hC ht
  obtain ⟨hx, hb, -, hown, hts, hK, -⟩ := hC
  obtain ⟨ref, hlink, hsame, hsj, hsl⟩ := fld_words hts hf
  obtain ⟨hN, hT⟩ := fd_eq hc hsub hsl
  rw [hT] at hlink hsame hfin hd
  have hap := va_apart (own := own) hts hin ty0 hty hnm hK hc
  obtain ⟨cell, q1, q2, q3, q4⟩ := raw1 (h.2.1 _ List.mem_cons_self).2.2.2 ht
  obtain ⟨hS, hfc, kC, hkC, hkind⟩ := hKn
  obtain ⟨cf, kf, fi, f9, hi, hsl⟩ := hS sl hN
  have hlay := hts _ (hin _ (u_in_lay hN))
  unfold u_lay at hlay
  have hst := (u_facts hfc hkC (u_lays hts hin hN) hi).1
  have hfinal : ∀ (H' : Heap), H'[ad k i0]? = some (cell.setSlot (D.2.1 (kc k) sl) v) → H'.size = H.size → (∀ q, q ≠ ad k i0 → H'[q]? = H[q]?) → ∀ j9 : Nat, W p l e R s m args below meth c H' (locs ++ [⟨ad k i0, j9⟩]) cells slots Q (F0 m (pc + 3) ls rest) := fun H' e1 e2 e3 j9 =>
    kk H' _ (h.put hinj hrest (by
      unfold rawOK
      rw [if_pos ht]
      exact ⟨_, e1, q2, q3, t_set q4 hap hN _⟩) e2 e3)
  rcases hfin with hfin | ⟨hin2, hfin, hdecl⟩
  · rw [if_neg (by rw [hfin]; decide)] at hlay
    have h6 := u_store hfc hkC hkind hlay hi hd hn hfit
    refine W.putK hx hb (f := f9) ⟨hown, hlink, ⟨_, _, _, hsame _ hi⟩, hst⟩ (by rw [q2]; exact h6) q1 q3 (by rw [hsl]; exact k2_hasslot (q4 sl hN)) rfl rfl hdg fun H' e1 e2 e3 => ?_
    rw [hsl] at e1
    exact hfinal H' e1 e2 e3 _
  · rw [if_pos hfin] at hlay
    have hcf : m.cls = cf := by
      obtain ⟨_, _, c', _, _, _, -, -, hf', -, -, -, hown2, -⟩ := Cond.laysFinal_spec hlay
      have e1 : c' = cf := by have := hi.symm.trans hf'; simp at this; exact this.1.symm
      rw [hdecl] at hown2
      rw [← e1]; exact Option.some.inj (hown.symm.trans hown2)
    have h6 := u_fits hfc hkC hkind (Or.inr hlay) hi hd hn hfit
    refine W.putFinK hx hb hown hlink (hsame _ hi) hst hcf hin2 (by rw [q2]; exact h6) q1 q3 (by rw [hsl]; exact k2_hasslot (q4 sl hN)) rfl rfl hdg fun H' e1 e2 e3 => ?_
    rw [hsl] at e1
    exact hfinal H' e1 e2 e3 _
/-- a field of a cell under way is read -/
theorem k_get (hC : Kx own cc nL p s m args meth c D) {k idx nx sl dc ty rc p1 p2 : Nat} {sj : Int} {f : Nat → Value} (ht : kt k = 1) {C : CT} (hcode : C.all (cOK own cc) = true) (hg : cget C pc = some (.getfield idx, nx, sl, sj, dc, ty, rc, p1, p2)) (hsub : subc (kc k) dc = true) {a : Nat} (h : rawOK D a k H f)
    (kk : W p l e R s m args below meth c H locs cells slots Q (F0 m (pc + 3) ls (f sl :: rest))) : W p l e R s m args below meth c H locs cells slots Q (F0 m pc ls (.ref a :: rest)) := by
  have he := List.all_eq_true.mp hcode _ (cget_mem hg)
  obtain ⟨hdg, hnx⟩ := cOK_spec he 3 rfl (by decide)
  have hf : fldOK own idx sl sj dc rc p1 p2 = true := by
    unfold cOK at he
    simp only [Bool.and_eq_true] at he
    exact he.2
  obtain ⟨C, T, hc, ⟨hin, -, -⟩, hKn⟩ := kx_xc hC ht
  obtain ⟨hx, hb, -, hown, hts, -⟩ := hC
  obtain ⟨ref, hlink, hsame, -, hsl⟩ := fld_words hts hf
  obtain ⟨hN, hT⟩ := fd_eq hc hsub hsl
  rw [hT] at hlink hsame
  obtain ⟨cell, q1, q2, q3, q4⟩ := raw1 h ht
  obtain ⟨hS, hfc, kC, hkC, hkind⟩ := hKn
  obtain ⟨cf, kf, fi, f9, hi, hsl⟩ := hS sl hN
  refine W.getf hx hb hown hlink (hsame _ hi) (u_facts hfc hkC (u_lays hts hin hN) hi).1 q1 (by rw [q3]; exact fun h => by cases h) (v := f sl) ?_ rfl rfl hdg kk
  rw [hsl, q4 sl hN]
end CTX
