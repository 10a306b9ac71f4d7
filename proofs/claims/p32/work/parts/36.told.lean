/-! ===== the arrays that the law makes: cells come and go ===== -/
def vU (V : Nat → Int → Prop) (j : Int) : Nat → Int → Prop := fun k i => V k i ∨ (k = 41 ∧ i = j)
def adU (ad : Nat → Int → Nat) (j : Int) (q : Nat) : Nat → Int → Nat := fun k i => if k = 41 ∧ i = j then q else ad k i
def fill (w : Mm) (j : Int) (f : Int → Int) : Mm := fun k i z => if k = 41 ∧ i = j then f z else w k i z
theorem adU_old {V : Nat → Int → Prop} {ad : Nat → Int → Nat} {j : Int} {q : Nat} (hn : ¬ V 41 j) {k : Nat} {i : Int} (h : V k i) : adU ad j q k i = ad k i := if_neg (fun z => hn (by rw [← z.1, ← z.2]; exact h))
theorem adU_new {ad : Nat → Int → Nat} {j : Int} {q : Nat} : adU ad j q 41 j = q := if_pos ⟨rfl, rfl⟩
theorem fill_ne (w : Mm) (j : Int) (f : Int → Int) {k : Nat} {i : Int} (h : ¬ (k = 41 ∧ i = j)) (z : Int) : fill w j f k i z = w k i z := if_neg h
theorem fill_at (w : Mm) (j : Int) (f : Int → Int) (z : Int) : fill w j f 41 j z = f z := if_pos ⟨rfl, rfl⟩
theorem st_fill (w : Mm) (j : Int) (f : Int → Int) (z v : Int) : st (fill w j f) 41 j z v = fill w j (fun y => if y = z then v else f y) := by
  funext k i y
  unfold st fill
  by_cases h : k = 41 ∧ i = j
  · rw [if_pos h, if_pos h]
    by_cases hy : y = z
    · rw [if_pos ⟨h.1, h.2, hy⟩]; exact (if_pos hy).symm
    · rw [if_neg (fun q => hy q.2.2)]; exact (if_neg hy).symm
  · rw [if_neg h, if_neg h, if_neg (fun q => h ⟨q.1, q.2.1⟩)]
theorem arrV_xt {cA : ClassId} {n : Nat} {f g : Nat → Value} (h : ∀ j, j < n → f j = g j) : arrV cA n f = arrV cA n g := by
  unfold arrV
  congr 2
  funext j
  exact h j j.isLt
theorem cell_ad {D : DD} {ad ad' : Nat → Int → Nat} {mm mm' : Mm} {o : Int64} {H : Heap} {k : Nat} {i : Int} (h : cellOK D ad mm o H k i) (e : ad' k i = ad k i) (h1 : ∀ (s : Nat) (q : Nat × Int), kt k = 1 → s < kn k → rfo k i s = some q → ad' q.1 q.2 = ad q.1 q.2) (h4 : ∀ (z : Nat) (q : Nat × Int), kt k = 4 → z < kn k → rfa k i z = some q → ad' q.1 q.2 = ad q.1 q.2) (hm : ∀ z, I (mm' k i z) = I (mm k i z)) : cellOK D ad' mm' o H k i := by
  unfold cellOK at h ⊢
  by_cases c1 : kt k = 1
  · rw [if_pos c1] at h ⊢
    rw [e]
    refine h.to fun s hs => ?_
    unfold vo
    cases hr : rfo k i s with
    | none => exact congrArg Value.int (hm s).symm
    | some q => exact congrArg Value.ref (h1 s q c1 hs hr).symm
  · rw [if_neg c1] at h ⊢
    by_cases c4 : kt k = 4
    · rw [if_pos c4] at h ⊢
      rw [e, h]
      congr 1
      refine arrV_xt fun z hz => ?_
      cases hr : rfa k i z with
      | none => rfl
      | some q =>
        show va_rf (some (ad q.1 q.2)) = va_rf (some (ad' q.1 q.2))
        rw [h4 z q c4 hz hr]
    · rw [if_neg c4] at h ⊢
      by_cases c5 : kt k = 5
      · exact (kt5 c5).elim
      · rw [if_neg c5] at h ⊢
        by_cases c23 : kt k = 2 ∨ kt k = 3
        · rw [if_pos c23] at h ⊢
          rw [e, h]
          congr 2
          funext z
          rw [hm]
        · rw [if_neg c23]; trivial
/-- cells of a part V, seen with other addresses and numbers -/
theorem wOK_ad {V : Nat → Int → Prop} {D : DD} {ad ad' : Nat → Int → Nat} {mm mm' : Mm} {o : Int64} {H : Heap} (hcl : WF V ad) (hW : wOK V D ad mm o H) (e : ∀ k i, V k i → ad' k i = ad k i) (hm : ∀ k i, V k i → ∀ z, I (mm' k i z) = I (mm k i z)) : wOK V D ad' mm' o H := fun k i hV =>
  cell_ad (hW k i hV) (e k i hV) (fun s q hk hs hr => e _ _ (hcl.2.1 k i s q hV hk hs hr)) (fun z q hk hz hr => e _ _ (hcl.2.2.1 k i z q hV hk (by omega) (by omega) hr)) (hm k i hV)
theorem cv_old {V : Nat → Int → Prop} {ad ad' : Nat → Int → Nat} (e : ∀ k i, V k i → ad' k i = ad k i) {v : AV} (h : okv V v) : cv ad' v = cv ad v := by
  rcases v with z | z | q
  · rfl
  · rfl
  · exact congrArg Value.ref (e _ _ h)
section CTX
variable {p : Program} {l : Launch} {e : Env} {R : Room} {s : State} {m : MethodId} {args : Array Value} {below : List Frame} {meth : Method} {c : Code} {cells slots : Nat} {Q : State → Prop} {V : Nat → Int → Prop} {D : DD} {ad : Nat → Int → Nat} {A : Nat → Prop} {nL : Nat} {own : String} {cc : ByteArray}
/-- one cell more -/
theorem Cx.add {j : Int} {q : Nat} (hC : Cx V own cc nL p R s m args meth c D ad A) (hn : ¬ V 41 j) (j0 : 0 ≤ j) (j1 : j < 2) (hfr : ∀ k i, V k i → ad k i < q) (hq : s.heap.size ≤ q) : Cx (vU V j) own cc nL p R s m args meth c D (adU ad j q) A := by
  obtain ⟨h1, h2, h3, h4, h5, h6, h7, h8, h9, ⟨ha, hb, hc⟩, h10⟩ := hC
  refine ⟨h1, h2, h3, h4, h5, h6, fun k i hV hk => ?_, h8, fun k i k' i' hV hV' he => ?_, ⟨fun k i sl q' hV hk hs hr => ?_, fun k i z q' hV hk z0 z1 hr => ?_, fun k i hV hk => ?_⟩, h10⟩
  · rcases hV with hV | ⟨rfl, rfl⟩
    · rw [adU_old hn hV]; exact h7 k i hV hk
    · rw [adU_new]; exact h8 q hq
  · rcases hV with hV | ⟨rfl, rfl⟩ <;> rcases hV' with hV' | ⟨rfl, rfl⟩
    · rw [adU_old hn hV, adU_old hn hV'] at he; exact h9 _ _ _ _ hV hV' he
    · rw [adU_old hn hV, adU_new] at he
      exact absurd he (Nat.ne_of_lt (hfr _ _ hV))
    · rw [adU_new, adU_old hn hV'] at he
      exact absurd he.symm (Nat.ne_of_lt (hfr _ _ hV'))
    · exact ⟨rfl, rfl⟩
  · rcases hV with hV | ⟨rfl, rfl⟩
    · exact Or.inl (ha k i sl q' hV hk hs hr)
    · exact absurd hk (by decide)
  · rcases hV with hV | ⟨rfl, rfl⟩
    · exact Or.inl (hb k i z q' hV hk z0 z1 hr)
    · exact absurd hk (by decide)
  · rcases hV with hV | ⟨rfl, rfl⟩
    · exact hc k i hV hk
    · exact ⟨j0, j1⟩
theorem Cx.wf (hC : Cx V own cc nL p R s m args meth c D ad A) : WF V ad := ⟨hC.2.2.2.2.2.2.2.2.1, hC.2.2.2.2.2.2.2.2.2.1⟩
/-- fewer cells, other numbers elsewhere -/
theorem Wx.drop {V' : Nat → Int → Prop} {ad' : Nat → Int → Nat} {pc : Nat} {L : List (Nat × AV)} {S : List AV} {mm mm' : Mm} {o : Int64} (hcl : WF V ad) (hs : ∀ k i, V k i → V' k i ∧ ad' k i = ad k i ∧ ∀ z, I (mm k i z) = I (mm' k i z)) (hL : ∀ q ∈ L, okl V q.2) (hv : ∀ v ∈ S, okv V v) (h : Wx p l e R s m args below meth c cells slots Q V D ad A nL pc L S mm o) : Wx p l e R s m args below meth c cells slots Q V' D ad' A nL pc L S mm' o := by
  intro H locs ls hW hS hl hL' hv'
  have e0 : ∀ k i, V k i → ad' k i = ad k i := fun k i hV => (hs k i hV).2.1
  have h9 := h H locs ls (fun k i hV => cell_ad (hW k i (hs k i hV).1) (e0 k i hV).symm (fun s q hk hs' hr => (e0 _ _ (hcl.2.1 k i s q hV hk hs' hr)).symm) (fun z q hk hz hr => (e0 _ _ (hcl.2.2.1 k i z q hV hk (by omega) (by omega) hr)).symm) (fun z => (hs k i hV).2.2 z)) hS (by
    rw [show L.map (fun q => (q.1, cv ad q.2)) = L.map (fun q => (q.1, cv ad' q.2)) from List.map_congr_left fun q hq => by rw [cv_old e0 (okl_okv (hL q hq))]]
    exact hl) hL hv
  rw [show S.map (cv ad') = S.map (cv ad) from List.map_congr_left fun v hq => cv_old e0 (hv v hq)]
  exact h9
theorem acI : Cond.arrayClass (.int) ∈ UW := uw1 (List.mem_of_getElem? (i := 75) rfl) rfl
theorem fresh_lt {mm : Mm} {o : Int64} {H : Heap} {locs : List Loc} (hW : wOK V D ad mm o H) (hS : va_S A s.heap H locs) (hb : ∀ k i, V k i → kt k = 0 → ad k i < s.heap.size) : ∀ k i, V k i → ad k i < H.size := fun k i hV => by
  by_cases h : kt k = 0
  · exact Nat.lt_of_lt_of_le (hb k i hV h) hS.1
  · exact lt_of_wOK hW hV h
/-- 'newarray' of forty ints -/
theorem Wx.newN {j : Int} {a w : Mm} {o : Int64} {pc : Nat} {L : List (Nat × AV)} {S : List AV} (hC : Cx V own cc nL p R s m args meth c D ad A) (hn : ¬ V 41 j) (hb : ∀ k i, V k i → kt k = 0 → ad k i < s.heap.size) (hd : decode cc pc = .ok (.newarray .int, 2)) (hf : cells + 1 ≤ R.cells ∧ slots + 40 ≤ R.slots)
    (kk : ∀ q : Nat, s.heap.size ≤ q → (∀ k i, V k i → ad k i < q) → Wx p l e R s m args below meth c (cells + 1) (slots + 40) Q (vU V j) D (adU ad j q) A nL (pc + 2) L (xr 41 j :: S) (mix a (fill w j (fun _ => 0))) o) (hL : ∀ q ∈ L, okl V q.2) (hv : ∀ v ∈ S, okv V v) : Wx p l e R s m args below meth c cells slots Q V D ad A nL pc L (xi 40 :: S) (mix a w) o := by
  intro H locs ls hW hS hl hL' hv'
  refine va_newaK (atype := .int) (N := 40) hC.1 hC.2.1 (hC.2.2.2.2.1 _ acI) rfl hd rfl (by decide) (by decide) (by decide) hf.1 hf.2 rfl fun H1 cA g1 g2 g3 hAr hNm => ?_
  have hcA : cA = D.2.2 2 := Option.some.inj (hNm.symm.trans (hC.2.2.2.2.2.1.2 0 _ rfl).2)
  subst hcA
  have hfr := fresh_lt hW hS hb
  have e0 : ∀ k i, V k i → adU ad j H.size k i = ad k i := fun k i hV => adU_old hn hV
  have hk := kk H.size hS.1 hfr
  have h9 := hk H1 locs ls (fun k i hV => by
    rcases hV with hV | ⟨rfl, rfl⟩
    · refine wOK_ad hC.wf (H := H1) (fun k i hV => cell_keep (hW k i hV) (g3 _ (hfr k i hV)) (fun _ => rfl) (fun _ => rfl)) e0 (fun k i hV z => ?_) k i hV
      by_cases hk4 : k < 40
      · rw [mixL _ _ hk4, mixL _ _ hk4]
      · rw [mixR _ _ hk4, mixR _ _ hk4, fill_ne _ _ _ (fun q => hn (by rw [← q.1, ← q.2]; exact hV))]
    · unfold cellOK
      rw [if_neg (by decide), if_neg (by decide), if_neg (by decide), if_pos (Or.inl (by decide)), adU_new, g1]
      refine congrArg some (arrV_xt fun z _ => ?_)
      rw [mixR _ _ (by decide), fill_at]
      rfl) ⟨by rw [g2]; exact Nat.le_succ_of_le hS.1, fun q h1 h2 => (g3 q (Nat.lt_of_lt_of_le h1 hS.1)).trans (hS.2.1 q h1 h2), hS.2.2⟩ (by
    rw [show L.map (fun q => (q.1, cv (adU ad j H.size) q.2)) = L.map (fun q => (q.1, cv ad q.2)) from List.map_congr_left fun q hq => by rw [cv_old e0 (okl_okv (hL q hq))]]
    exact hl) (fun q hq => by
      have h := hL q hq
      rcases q with ⟨n, v⟩
      rcases v with z | z | r
      · trivial
      · exact h
      · exact Or.inl h) (fun v hq => by
      rcases List.mem_cons.mp hq with rfl | hq
      · exact Or.inr ⟨rfl, rfl⟩
      · have h := hv v hq
        rcases v with z | z | r
        · trivial
        · trivial
        · exact Or.inl h)
  rw [show (xr 41 j :: S).map (cv (adU ad j H.size)) = .ref H.size :: S.map (cv ad) by
    show Value.ref (adU ad j H.size 41 j) :: _ = _
    rw [adU_new]
    exact congrArg _ (List.map_congr_left fun v hq => cv_old e0 (hv v hq))] at h9
  exact h9
end CTX
