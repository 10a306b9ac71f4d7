section CTX
/-- what stands fast while a method runs -/
def Cx (V : Nat → Int → Prop) (own : String) (cc : ByteArray) (nL : Nat) (p : Program) (R : Room) (s : State) (m : MethodId) (args : Array Value) (meth : Method) (c : Code) (D : DD) (ad : Nat → Int → Nat) (A : Nat → Prop) : Prop :=
  p.tables.exec = Jvm.exec ∧ c.code = cc ∧ c.maxLocals = nL ∧ s.vm.findClass own = some m.cls ∧ (∀ w ∈ UW, w.before args s = true) ∧ va_K (D.1, D.2.1) xCl (tysOf D) s ∧ (∀ k i, V k i → kt k ≠ 0 → A (ad k i)) ∧ (∀ q : Nat, s.heap.size ≤ q → A q) ∧ (∀ k i k' i', V k i → V k' i' → ad k i = ad k' i' → k = k' ∧ i = i') ∧
  ((∀ k i sl q, V k i → kt k = 1 → sl < kn k → rfo k i sl = some q → V q.1 q.2) ∧ (∀ (k : Nat) (i z : Int) (q : Nat × Int), V k i → kt k = 4 → 0 ≤ z → z < (kn k : Int) → rfa k i z = some q → V q.1 q.2) ∧ (∀ k i, V k i → kt k ≠ 0 → 0 ≤ i ∧ i < km k)) ∧ (meth.locks = false ∧ 1 ≤ R.frames ∧ 21 ≤ R.locals)
variable {p : Program} {l : Launch} {e : Env} {R : Room} {s : State} {m : MethodId} {args : Array Value} {below : List Frame} {meth : Method} {c : Code} {cells slots : Nat} {Q : State → Prop} {V : Nat → Int → Prop} {D : DD} {ad : Nat → Int → Nat} {A : Nat → Prop} {nL : Nat} {own : String} {cc : ByteArray}
def Wx (p : Program) (l : Launch) (e : Env) (R : Room) (s : State) (m : MethodId) (args : Array Value) (below : List Frame) (meth : Method) (c : Code) (cells slots : Nat) (Q : State → Prop) (V : Nat → Int → Prop) (D : DD) (ad : Nat → Int → Nat) (A : Nat → Prop) (nL : Nat) : KT := fun pc L S mm o =>
  ∀ (H : Heap) (locs : List Loc) (ls : Array Slot), wOK V D ad mm o H → va_S A s.heap H locs → lv_has ls nL (L.map fun q => (q.1, cv ad q.2)) → (∀ q ∈ L, okl V q.2) → (∀ v ∈ S, okv V v) → W p l e R s m args below meth c H locs cells slots Q (F0 m pc ls (S.map (cv ad)))
theorem okl_okv {v : AV} (h : okl V v) : okv V v := by
  rcases v with z | z | q
  · trivial
  · trivial
  · exact h
theorem cv_cat {v : AV} (h : okl V v) : (cv ad v).category = 1 := by
  rcases v with z | z | q
  · rfl
  · cases h
  · rfl
/-- a local is read -/
theorem has_get {ls : Array Slot} {L : List (Nat × AV)} {j : Nat} {v : AV} (hl : lv_has ls nL (L.map fun q => (q.1, cv ad q.2))) (h : lget L j = some v) : ls[j]? = some (.val (cv ad v)) :=
  hl.2.2 (j, cv ad v) (List.mem_map.mpr ⟨(j, v), lget_mem h, rfl⟩)
/-- a local is written: out of the kit's list -/
theorem has_set {ls : Array Slot} {L : List (Nat × AV)} {j : Nat} {v : AV} (hL : ∀ q ∈ L, okl V q.2) (h : lv_has ls nL ((j, cv ad v) :: (L.map fun q => (q.1, cv ad q.2)).filter (fun q => !(q.1 == j) && !(q.1 + 1 == j && q.2.category == 2)))) : lv_has ls nL ((lset L j v).map fun q => (q.1, cv ad q.2)) := by
  refine ⟨h.1, h.2.1, fun q hq => ?_⟩
  obtain ⟨x, hx, rfl⟩ := List.mem_map.mp hq
  rcases lset_mem hx with rfl | ⟨h1, h2⟩
  · exact h.2.2 _ List.mem_cons_self
  · refine h.2.2 _ (List.mem_cons_of_mem _ (List.mem_filter.mpr ⟨List.mem_map.mpr ⟨x, h1, rfl⟩, ?_⟩))
    have h3 := cv_cat (ad := ad) (hL x h1)
    simp [h2, h3]
theorem okl_set {L : List (Nat × AV)} {j : Nat} {v : AV} (hL : ∀ q ∈ L, okl V q.2) (hv : okl V v) : ∀ q ∈ lset L j v, okl V q.2 := by
  intro q hq
  rcases lset_mem hq with rfl | h
  · exact hv
  · exact hL q h.1
/-- fewer locals -/
theorem Wx.sub {pc : Nat} {L L' : List (Nat × AV)} {S : List AV} {mm : Mm} {o : Int64} (h : Wx p l e R s m args below meth c cells slots Q V D ad A nL pc L' S mm o) (hs : ∀ q ∈ L', q ∈ L) : Wx p l e R s m args below meth c cells slots Q V D ad A nL pc L S mm o := by
  intro H locs ls h1 h2 h3 h4 h5
  refine h H locs ls h1 h2 ⟨h3.1, h3.2.1, fun q hq => ?_⟩ (fun q hq => h4 q (hs q hq)) h5
  obtain ⟨x, hx, rfl⟩ := List.mem_map.mp hq
  exact h3.2.2 _ (List.mem_map.mpr ⟨x, hs x hx, rfl⟩)
/-! the world, cell by cell -/
theorem cell1 {mm : Mm} {o : Int64} {H : Heap} {k : Nat} {i : Int} (h : cellOK D ad mm o H k i) (ht : kt k = 1) : t_OB (ad k i) (D.1 (kc k)) (kn k) (D.2.1 (kc k)) H (vo ad mm k i) := by
  unfold cellOK at h; rw [if_pos ht] at h; exact h
theorem cell4 {mm : Mm} {o : Int64} {H : Heap} {k : Nat} {i : Int} (h : cellOK D ad mm o H k i) (ht : kt k = 4) : H[ad k i]? = some (arrV (D.2.2 (10 + kc k)) (kn k) (fun z => va_rf ((rfa k i z).map fun q => ad q.1 q.2))) := by
  unfold cellOK at h; rw [if_neg (by omega), if_pos ht] at h; exact h
theorem cell5 {mm : Mm} {o : Int64} {H : Heap} {k : Nat} {i : Int} (h : cellOK D ad mm o H k i) (ht : kt k = 5) : H[ad k i]? = some (arrV (D.2.2 5) (kn k) (fun _ => .long o)) := by
  unfold cellOK at h; rw [if_neg (by omega), if_neg (by omega), if_pos ht] at h; exact h
theorem cell23 {mm : Mm} {o : Int64} {H : Heap} {k : Nat} {i : Int} (h : cellOK D ad mm o H k i) (ht : kt k = 2 ∨ kt k = 3) : H[ad k i]? = some (arrV (D.2.2 (kt k)) (kn k) (fun z => .int (I (mm k i z)))) := by
  unfold cellOK at h; rw [if_neg (by omega), if_neg (by omega), if_neg (by omega), if_pos ht] at h; exact h
/-- a cell stays, where heap and numbers stay -/
theorem cell_keep {mm mm' : Mm} {o o' : Int64} {H H' : Heap} {k : Nat} {i : Int} (h : cellOK D ad mm o H k i) (hq : H'[ad k i]? = H[ad k i]?) (hm : ∀ j, I (mm' k i j) = I (mm k i j)) (ho : kt k = 5 → o' = o) : cellOK D ad mm' o' H' k i := by
  unfold cellOK at h ⊢
  by_cases h1 : kt k = 1
  · rw [if_pos h1] at h ⊢
    refine (h.kept hq).to fun j _ => ?_
    unfold vo
    split
    · rfl
    · rw [hm]
  · rw [if_neg h1] at h ⊢
    by_cases h4 : kt k = 4
    · rw [if_pos h4] at h ⊢
      rw [hq]; exact h
    · rw [if_neg h4] at h ⊢
      by_cases h5 : kt k = 5
      · rw [if_pos h5] at h ⊢
        rw [hq, ho h5]; exact h
      · rw [if_neg h5] at h ⊢
        by_cases h23 : kt k = 2 ∨ kt k = 3
        · rw [if_pos h23] at h ⊢
          rw [hq, h]
          congr 2
          funext z
          rw [hm]
        · rw [if_neg h23]; trivial
theorem st_ne {mm : Mm} {k k' : Nat} {i j v i' : Int} (h : ¬ (k' = k ∧ i' = i)) (j' : Int) : I (st mm k i j v k' i' j') = I (mm k' i' j') := by
  unfold st
  rw [if_neg (fun q => h ⟨q.1, q.2.1⟩)]

theorem cx_xc (hC : Cx V own cc nL p R s m args meth c D ad A) {k : Nat} (ht : kt k = 1) : ∃ (C : String) (T : u_T), xCl[kc k]? = some (C, T, kn k) ∧ xcOK C T (kn k) ∧ u_Kn s C T (kn k) (D.1 (kc k)) (D.2.1 (kc k)) := by
  obtain ⟨C, T, h⟩ := xc_ok ht
  exact ⟨C, T, h, xcl_ok _ _ _ _ h, hC.2.2.2.2.2.1.1 _ _ h⟩
theorem fld_words (hts : ∀ w ∈ UW, w.before args s = true) {idx sl : Nat} {sj : Int} {dc rc p1 p2 : Nat} (h : fldOK own idx sl sj dc rc p1 p2 = true) : ∃ ref : String, (Cond.fieldLink own idx ref (fdT dc sl).2.1 (fdT dc sl).2.2.1).before args s = true ∧ (∀ x, s.fieldFound? (fdT dc sl).1 (fdT dc sl).2.1 (fdT dc sl).2.2.1 = some x → s.fieldFound? ref (fdT dc sl).2.1 (fdT dc sl).2.2.1 = some x) ∧ sj = (sl : Int) ∧ sl < fdN dc := by
  unfold fldOK at h
  simp only [Bool.and_eq_true, decide_eq_true_eq] at h
  obtain ⟨⟨⟨⟨⟨h1, h2⟩, h3⟩, h4⟩, h5⟩, h6⟩ := h
  refine ⟨cNm.getD rc "", hts _ (uw p1 h1 h2), ?_, h3, Nat.blt_eq.mp h4⟩
  intro x hx
  cases hb : Nat.beq rc dc with
  | true =>
    rw [hb] at h6
    have h7 : (fdT dc sl).1 = cNm.getD rc "" := of_decide_eq_true h6
    rw [← h7]; exact hx
  | false =>
    rw [hb] at h6
    simp only [cond_false, Bool.and_eq_true, decide_eq_true_eq] at h6
    exact u_same (hts _ (uw p2 h6.1 h6.2)) x hx
theorem x_get (hC : Cx V own cc nL p R s m args meth c D ad A) {k idx sl dc rc p1 p2 : Nat} {sj i : Int} {mm : Mm} {o : Int64} {H : Heap} {locs : List Loc} {pc : Nat} {ls : Array Slot} {rest : List Value} (hV : V k i) (hW : wOK V D ad mm o H) (ht : kt k = 1) (hsub : subc (kc k) dc = true) (hf : fldOK own idx sl sj dc rc p1 p2 = true) (hdg : decode cc pc = .ok (.getfield idx, 3))
    (kk : W p l e R s m args below meth c H locs cells slots Q (F0 m (pc + 3) ls (vo ad mm k i sl :: rest))) : W p l e R s m args below meth c H locs cells slots Q (F0 m pc ls (.ref (ad k i) :: rest)) := by
  obtain ⟨C, T, hc, ⟨hin, -, -⟩, hKn⟩ := cx_xc hC ht
  obtain ⟨hx, hb, -, hown, hts, -⟩ := hC
  obtain ⟨ref, hlink, hsame, -, hsl⟩ := fld_words hts hf
  obtain ⟨hN, hT⟩ := fd_eq hc hsub hsl
  rw [hT] at hlink hsame
  obtain ⟨cell, q1, q2, q3, q4⟩ := cell1 (hW k i hV) ht
  obtain ⟨hS, hfc, kC, hkC, hkind⟩ := hKn
  obtain ⟨cf, kf, fi, f, hi, hsl⟩ := hS sl hN
  refine W.getf hx hb hown hlink (hsame _ hi) (u_facts hfc hkC (u_lays hts hin hN) hi).1 q1 (by rw [q3]; exact fun h => by cases h) (v := vo ad mm k i sl) ?_ rfl rfl hdg kk
  rw [hsl, q4 sl hN]
theorem wOK_st {mm : Mm} {o : Int64} {H H' : Heap} {k : Nat} {i j v : Int} (hinj : ∀ k i k' i', V k i → V k' i' → ad k i = ad k' i' → k = k' ∧ i = i') (hV : V k i) (hW : wOK V D ad mm o H) (oq : ∀ q, q ≠ ad k i → H'[q]? = H[q]?) (hc : cellOK D ad (st mm k i j v) o H' k i) : wOK V D ad (st mm k i j v) o H' := by
  intro k' i' hV'
  by_cases he : k' = k ∧ i' = i
  · obtain ⟨rfl, rfl⟩ := he
    exact hc
  · exact cell_keep (hW k' i' hV') (oq _ (fun h => he (hinj _ _ _ _ hV' hV h))) (fun j' => st_ne he j') (fun _ => rfl)
theorem x_put (hC : Cx V own cc nL p R s m args meth c D ad A) {k idx sl dc rc p1 p2 : Nat} {sj i v : Int} {mm : Mm} {o : Int64} {H : Heap} {locs : List Loc} {pc : Nat} {ls : Array Slot} {rest : List Value} (hV : V k i) (hW : wOK V D ad mm o H) (hS0 : va_S A s.heap H locs) (ht : kt k = 1) (hsub : subc (kc k) dc = true) (hr : rfo k i sl = none) (hf : fldOK own idx sl sj dc rc p1 p2 = true) (hfin : (fdT dc sl).2.2.2 = false) {ty : FieldType} (hd : parseFieldDescriptor (fdT dc sl).2.2.1 = some ty) (hn : narrow ty (.int (I v)) = .int (I v)) (hfit : fits ty (.int (I v)) = true) (hdg : decode cc pc = .ok (.putfield idx, 3))
    (kk : ∀ (H1 : Heap) (locs1 : List Loc), wOK V D ad (st mm k i sj v) o H1 → va_S A s.heap H1 locs1 → W p l e R s m args below meth c H1 locs1 cells slots Q (F0 m (pc + 3) ls rest)) : W p l e R s m args below meth c H locs cells slots Q (F0 m pc ls (.int (I v) :: .ref (ad k i) :: rest)) := by
  obtain ⟨C, T, hc, ⟨hin, ⟨ty0, hty⟩, hnm⟩, hKn⟩ := cx_xc hC ht
  obtain ⟨hx, hb, -, hown, hts, hK, hA, -, hinj, -⟩ := hC
  obtain ⟨ref, hlink, hsame, hsj, hsl⟩ := fld_words hts hf
  obtain ⟨hN, hT⟩ := fd_eq hc hsub hsl
  rw [hT] at hlink hsame hfin hd
  have hap := va_apart (own := own) hts hin ty0 hty hnm hK hc
  obtain ⟨cell, q1, q2, q3, q4⟩ := cell1 (hW k i hV) ht
  obtain ⟨hS, hfc, kC, hkC, hkind⟩ := hKn
  obtain ⟨cf, kf, fi, f, hi, hsl⟩ := hS sl hN
  have hlay := hts _ (hin _ (u_in_lay hN))
  unfold u_lay at hlay
  rw [if_neg (by rw [hfin]; decide)] at hlay
  have hst := (u_facts hfc hkC (u_lays hts hin hN) hi).1
  have h6 := u_store hfc hkC hkind hlay hi hd hn hfit
  refine W.putK hx hb (f := f) ⟨hown, hlink, ⟨_, _, _, hsame _ hi⟩, hst⟩ (by rw [q2]; exact h6) q1 q3 (by rw [hsl]; exact k2_hasslot (q4 sl hN)) rfl rfl hdg fun H' e1 e2 e3 => ?_
  rw [hsl] at e1 ⊢
  refine kk H' _ (wOK_st hinj hV hW e3 ?_) (hS0.put e2 e3 (hA k i hV (by rw [ht]; decide)))
  unfold cellOK
  rw [if_pos ht]
  refine t_OB.to (V := updV (vo ad mm k i) sl (.int (I v))) ⟨_, e1, q2, q3, t_set q4 hap hN _⟩ fun j _ => ?_
  unfold updV
  by_cases hj : j = sl
  · subst hj
    rw [if_pos rfl]
    unfold vo st
    rw [hr, hsj]
    simp
  · rw [if_neg hj]
    unfold vo
    split
    · rfl
    · congr 1
      unfold st
      rw [if_neg (fun q => hj (by have := q.2.2; omega))]
theorem arr_upd {z v : Int} {mm : Mm} {k : Nat} {i : Int} {n : Nat} (h0 : 0 ≤ z) (h1 : z < n) (hn : n < 2147483648) (cA : ClassId) : (arrV cA n (fun j => .int (I (mm k i j)))).setSlot (I z).toNatClampNeg (.int (I v)) = arrV cA n (fun j => .int (I (st mm k i z v k i j))) := by
  rw [arrV_store]
  congr 1
  funext j
  have hz := I_cl h0 h1 hn
  unfold updV st
  by_cases hj : j = (I z).toNatClampNeg
  · rw [if_pos hj, if_pos ⟨rfl, rfl, by omega⟩]
  · rw [if_neg hj, if_neg (fun q => hj (by have := q.2.2; omega))]
theorem kn_lt (k : Nat) : kn k < 2147483648 := by
  rcases Nat.lt_or_ge k 102 with q | q
  · have h : ∀ k, k < 102 → kn k < 2147483648 := by decide +kernel
    exact h k q
  · show knL.getD k 0 < _
    rw [List.getD_eq_getElem?_getD, List.getElem?_eq_none (by exact q)]; decide
theorem cx_arr (hC : Cx V own cc nL p R s m args meth c D ad A) (t0 : Nat) {ci : ClassId} {ty : FieldType} (h : (tysOf D)[t0]? = some (ci, ty)) (n : Nat) (f : Nat → Value) : s.isArrayOf (arrV ci n f) ty := (hC.2.2.2.2.2.1.2 t0 _ h).1 n f
theorem in_arr {cA : ClassId} {n : Nat} {f : Nat → Value} {z : Int} (h0 : 0 ≤ z) (h1 : z < n) (hn : n < 2147483648) : ¬ (I z < 0 ∨ (arrV cA n f).slots.size ≤ (I z).toNatClampNeg) := by
  rw [arrV_size]; exact I_in h0 h1 hn
theorem rd_arr {cA : ClassId} {n : Nat} {f : Nat → Value} {z : Int} (h0 : 0 ≤ z) (h1 : z < n) (hn : n < 2147483648) : (arrV cA n f).slots[(I z).toNatClampNeg]? = some (f (I z).toNatClampNeg) := arrV_read _ _ (by have := I_cl h0 h1 hn; omega)
end CTX
