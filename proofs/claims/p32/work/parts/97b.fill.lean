/-! ===== the objects are made: a row is filled ===== -/
theorem lv_two {ls : Array Slot} {nL a v : Nat} {x y : Int32} (hv : v ≠ 0) (h : lv_has ls nL ((v, Value.int y) :: ([(0, Value.ref a), (v, Value.int x)] : List (Nat × Value)).filter (fun q => !(q.1 == v) && !(q.1 + 1 == v && q.2.category == 2)))) : lv_has ls nL [(0, Value.ref a), (v, Value.int y)] := by
  refine ⟨h.1, h.2.1, fun q hq => ?_⟩
  rcases List.mem_cons.mp hq with rfl | hq
  · refine h.2.2 _ (List.mem_cons_of_mem _ (List.mem_filter.mpr ⟨List.mem_cons_self, ?_⟩))
    have e1 : ((0 : Nat) == v) = false := beq_eq_false_iff_ne.mpr (Ne.symm hv)
    have e2 : ((Value.ref a).category == 2) = false := rfl
    show (!((0 : Nat) == v) && !((0 + 1 == v) && ((Value.ref a).category == 2))) = true
    rw [e1, e2, Bool.and_false]; rfl
  · rw [List.mem_singleton.mp hq]
    exact h.2.2 _ List.mem_cons_self
theorem KW.eqV {D : DD} {ad : Nat → Int → Nat} {mm : Mm} {o : Int64} {i0 : Int} {A : Nat → Prop} {H0 : Heap} {z : Nat} {V V' : Nat → Int → Prop} {Rw : RW} {H : Heap} {locs : List Loc} (h : KW D ad mm o i0 A H0 z V Rw H locs) (he : ∀ k i, V' k i ↔ V k i) : KW D ad mm o i0 A H0 z V' Rw H locs := by
  have : V' = V := funext fun k => funext fun i => propext (he k i)
  rw [this]; exact h
def fiV (Vf : Nat → Nat → Int → Prop) (n : Nat) : Nat → Int → Prop := fun k i => ∃ j, j < n ∧ Vf j k i
def fiG (ad : Nat → Int → Nat) (kx : Nat) (ixf : Nat → Int) (n : Nat) : Nat → Value := fun q => if q < n then .ref (ad kx (ixf q)) else .null
section CTX
variable {p : Program} {l : Launch} {e : Env} {R : Room} {s : State} {m : MethodId} {args : Array Value} {below : List Frame} {meth : Method} {c : Code} {Q : State → Prop} {D : DD} {A : Nat → Prop} {nL : Nat} {own : String} {cc : ByteArray} {mm : Mm} {o : Int64} {i0 : Int} {V : Nat → Int → Prop} {Rw : RW}
theorem k_fill {b h : Nat} (hbh : b < h) (hC : Kx own cc nL p s m args meth c D) (hw : wKs s) (hA : ∀ q, s.heap.size ≤ q → A q) {P E PI w N k k4 kx nc ns idxg nx sl dc ty rc p1 p2 idxn idxi na z0 c0 s0 : Nat} {sj off1 off2 : Int} {vf : Fin 4} {ixf : Nat → Int} {avsf : Nat → List AV} {y : MI} {f : Nat → Value} {Vf : Nat → Nat → Int → Prop} {rest : List Value} {C : CT} (hcode : C.all (cOK own cc) = true)
    (hv : (vf : Nat) ≠ 0) (hvn : (vf : Nat) < nL) (d0 : decode cc P = .ok (.iload_n vf, 1)) (hp : pushOK cc (P + 1) N w) (d1 : decode cc (P + 1 + w) = .ok (.if_icmp .ge off1, 3)) (t1 : ((P + 1 + w : Nat) : Int) + off1 = (E : Int))
    (d2 : decode cc (P + 1 + w + 3) = .ok (.aload_n 0, 1)) (g3 : cget C (P + 1 + w + 3 + 1) = some (.getfield idxg, nx, sl, sj, dc, ty, rc, p1, p2)) (hsub : subc (kc k) dc = true) (d4 : decode cc (P + 1 + w + 3 + 1 + 3) = .ok (.iload_n vf, 1)) (d5 : decode cc (P + 1 + w + 3 + 1 + 3 + 1) = .ok (.new idxn, 3)) (hcl : Cond.classLink own idxn (cNm.getD (kc kx) "") ∈ UW) (hins : Cond.instantiable (cNm.getD (kc kx) "") (kn kx) ∈ UW ∧ Cond.initialized (cNm.getD (kc kx) "") ∈ UW) (d6 : decode cc (P + 1 + w + 3 + 1 + 3 + 1 + 3) = .ok (.dup, 1))
    (hargs : ∀ (j : Nat) (H1 : Heap) (locs1 : List Loc) (ls1 : Array Slot) (c1 s1 z1 : Nat), lv_has ls1 nL [(0, .ref (adr b h k i0)), ((vf : Nat), .int (I (j : Int)))] → W p l e R s m args below meth c H1 locs1 c1 s1 Q (F0 m PI ls1 (((avsf j).map (cv (adr b h))).reverse ++ .ref z1 :: .ref z1 :: .int (I (j : Int)) :: .ref (adr b h k4 i0) :: rest)) → W p l e R s m args below meth c H1 locs1 c1 s1 Q (F0 m (P + 1 + w + 3 + 1 + 3 + 1 + 3 + 1) ls1 (.ref z1 :: .ref z1 :: .int (I (j : Int)) :: .ref (adr b h k4 i0) :: rest)))
    (d7 : decode cc PI = .ok (.invokespecial idxi, 3)) (d8 : decode cc (PI + 3) = .ok (.aastore, 1)) (d9 : decode cc (PI + 3 + 1) = .ok (.iinc (vf : Nat) 1, 3)) (d10 : decode cc (PI + 3 + 1 + 3) = .ok (.goto off2, 3)) (t2 : ((PI + 3 + 1 + 3 : Nat) : Int) + off2 = (P : Int))
    (hM : ∀ j, j < N → MetK y nc ns kx (ixf j) (avsf j) mm (Vf j)) (hlink : Cond.methodLink own idxi y.1 ∈ UW ∨ (own, idxi, y.1) ∈ kNw) (hy : mOK y na ∧ Cond.instanceMethod y.1 ∈ UW) (hret : y.2.2.2.1 = none) (hy1 : y.1.name = "<init>") (hrm : rmR R y = true) (hna : ∀ j, (avsf j).length = na) (hr : (rest.map fun v => v.category).sum ≤ 5)
    (haz : ∀ j, j < N → adr b h kx (ixf j) = z0 + j * (1 + nc)) (hVf : ∀ j, j < N → ∀ k i, Vf j k i → lawV k i ∧ kt k ≠ 0) (hself : ∀ j, j < N → Vf j kx (ixf j)) (hdis : ∀ j, j < N → ∀ q ∈ k4 :: k :: Rw.map Prod.fst, ¬ Vf j q i0) (h4 : kt k4 = 4) (hn4 : kn k4 = N) (hk : kt k = 1) (hkx : kt kx = 1) (hcc : kc k4 = kc kx) (hfA : f sl = .ref (adr b h k4 i0)) (hrA : ∀ x ∈ (k, f) :: Rw, x.1 ≠ k4) (hf : c0 + N * (1 + nc) ≤ R.cells ∧ s0 + N * (kn kx + ns) ≤ R.slots)
    (exit : ∀ (H : Heap) (locs : List Loc) (ls : Array Slot), KW D (adr b h) mm o i0 A s.heap (z0 + N * (1 + nc)) (vor V (fiV Vf N)) ((k4, fiG (adr b h) kx ixf N) :: (k, f) :: Rw) H locs → lv_has ls nL [(0, .ref (adr b h k i0)), ((vf : Nat), .int (I (N : Int)))] → W p l e R s m args below meth c H locs (c0 + N * (1 + nc)) (s0 + N * (kn kx + ns)) Q (F0 m E ls rest)) :
    ∀ (n j : Nat), j + n = N → ∀ (H : Heap) (locs : List Loc) (ls : Array Slot), KW D (adr b h) mm o i0 A s.heap (z0 + j * (1 + nc)) (vor V (fiV Vf j)) ((k4, fiG (adr b h) kx ixf j) :: (k, f) :: Rw) H locs → lv_has ls nL [(0, .ref (adr b h k i0)), ((vf : Nat), .int (I (j : Int)))] → W p l e R s m args below meth c H locs (c0 + j * (1 + nc)) (s0 + j * (kn kx + ns)) Q (F0 m P ls rest) := by
  have hx := hC.1
  have hb := hC.2.1
  have q2 : ∀ k, k < 102 → kn k < 10000 := by decide +kernel
  have hNs := q2 k4 (kt_lt h4 (by decide))
  rw [hn4] at hNs
  intro n
  induction n with
  | zero =>
    intro j hj H locs ls hKW hl
    have hjN : j = N := by omega
    subst hjN
    refine lv_iload_n hx hb d0 rfl (lv_at hl 1 rfl) ?_
    refine k_push hx hb hp ?_
    exact lv_icmp_ge hx hb d1 t1 (fun _ => exit H locs ls hKW hl) (fun q => absurd (Int32.le_refl _) q)
  | succ n ih =>
    intro j hj H locs ls hKW hl
    have hjN : j < N := by omega
    have hmul : (j + 1) * (1 + nc) ≤ N * (1 + nc) := Nat.mul_le_mul_right _ (by omega)
    have hmul2 : (j + 1) * (kn kx + ns) ≤ N * (kn kx + ns) := Nat.mul_le_mul_right _ (by omega)
    have e1 : (j + 1) * (1 + nc) = j * (1 + nc) + 1 + nc := by rw [Nat.succ_mul]; omega
    have e2 : (j + 1) * (kn kx + ns) = j * (kn kx + ns) + kn kx + ns := by rw [Nat.succ_mul]; omega
    refine lv_iload_n hx hb d0 rfl (lv_at hl 1 rfl) ?_
    refine k_push hx hb hp ?_
    refine lv_icmp_ge hx hb d1 t1 (fun q => ?_) (fun _ => ?_)
    · rw [I_le, wr_of (by omega) (by omega), wr_of (by omega) (by omega)] at q
      omega
    refine lv_aload_n hx hb d2 rfl (lv_at hl 0 rfl) ?_
    have hraw := (hKW.2.1 (k, f) (List.mem_cons_of_mem _ List.mem_cons_self)).2.2.2
    refine k_get (f := f) hC hk hcode g3 hsub hraw ?_
    rw [hfA]
    refine lv_iload_n hx hb d4 rfl (lv_at hl 1 rfl) ?_
    refine k_new hC hkx hcl hins d5 ⟨by omega, by omega⟩ hKW.2.2.1 fun H1 h1 o1 hbl => ?_
    refine lv_dup hx hb d6 rfl ?_
    refine hargs j H1 locs ls _ _ _ hl ?_
    refine k_call hbh hC hw (hM j hjN) hlink hy hret hy1 hrm (hna j) hl.1 ?_ d7 (haz j hjN) hA hKW h1 o1 hbl (hVf j hjN) (fun x hx => ?_) ⟨by omega, by omega⟩ fun H2 locs2 hKW2 => ?_
    · show 1 + (1 + (1 + (rest.map fun v => v.category).sum)) ≤ 8
      omega
    · refine hdis j hjN x.1 ?_
      rcases List.mem_cons.mp hx with rfl | hx
      · exact List.mem_cons_self
      · rcases List.mem_cons.mp hx with rfl | hx
        · exact List.mem_cons_of_mem _ List.mem_cons_self
        · exact List.mem_cons_of_mem _ (List.mem_cons_of_mem _ (List.mem_map.mpr ⟨x, hx, rfl⟩))
    have ha := haz j hjN
    rw [← ha]
    refine k_aast (j := (j : Int)) hC (adr_inj hbh) h4 hkx hcc (Or.inr (hself j hjN)) (by omega) (by omega) d8 hKW2 hrA fun H3 locs3 hKW3 => ?_
    refine lv_iinc hx hb d9 hl (k := 1) (x := I (j : Int)) (v := I ((j : Int) + 1)) rfl (I_add _ _).symm hvn rfl fun ls' hl' => ?_
    refine lv_goto hx hb d10 t2 ?_
    have hl2 := lv_two hv hl'
    have eg : updV (fiG (adr b h) kx ixf j) ((j : Int).toNat) (.ref (adr b h kx (ixf j))) = fiG (adr b h) kx ixf (j + 1) := by
      funext q
      unfold updV fiG
      by_cases hq : q = j
      · subst hq
        rw [if_pos (by omega), if_pos (by omega)]
      · rw [if_neg (by omega)]
        by_cases hq2 : q < j
        · rw [if_pos hq2, if_pos (by omega)]
        · rw [if_neg hq2, if_neg (by omega)]
    rw [eg] at hKW3
    have hKW4 := hKW3.eqV (V' := vor V (fiV Vf (j + 1))) (fun k i => by
      unfold vor fiV
      constructor
      · rintro (q | ⟨j', q1, q2⟩)
        · exact Or.inl (Or.inl q)
        · by_cases hq : j' = j
          · subst hq; exact Or.inr q2
          · exact Or.inl (Or.inr ⟨j', by omega, q2⟩)
      · rintro ((q | ⟨j', q1, q2⟩) | q)
        · exact Or.inl q
        · exact Or.inr ⟨j', by omega, q2⟩
        · exact Or.inr ⟨j, by omega, q⟩)
    have := ih (j + 1) (by omega) H3 locs3 ls' (by rw [show z0 + (j + 1) * (1 + nc) = z0 + j * (1 + nc) + 1 + nc by omega]; exact hKW4) (by rw [show (((j + 1 : Nat) : Int)) = (j : Int) + 1 by omega]; exact hl2)
    rw [show c0 + j * (1 + nc) + 1 + nc = c0 + (j + 1) * (1 + nc) by omega, show s0 + j * (kn kx + ns) + kn kx + ns = s0 + (j + 1) * (kn kx + ns) by omega]
    exact this
end CTX
