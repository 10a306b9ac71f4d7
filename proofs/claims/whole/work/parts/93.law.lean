/-! ===== the law: its calls by words, its cases (made by wip/whole/lawgen.py) ===== -/
theorem kL_place : mOKw iL_place [(0, 7, 10, 13), (0, 7, 14, 15)] 4 := ⟨uw2 (List.mem_of_getElem? (i := 177) rfl) rfl, uw1 (List.mem_of_getElem? (i := 0) rfl) rfl, uw2 (List.mem_of_getElem? (i := 176) rfl) rfl, by decide +kernel⟩
theorem kL_moon : mOKw iL_moon [(0, 9, 12, 15)] 3 := ⟨uw3 (List.mem_of_getElem? (i := 36) rfl) rfl, uw1 (List.mem_of_getElem? (i := 0) rfl) rfl, uw3 (List.mem_of_getElem? (i := 35) rfl) rfl, by decide +kernel⟩
theorem kL_weather : mOKw iL_weather [(0, 11, 14, 13), (0, 11, 18, 15)] 6 := ⟨uw3 (List.mem_of_getElem? (i := 43) rfl) rfl, uw1 (List.mem_of_getElem? (i := 0) rfl) rfl, uw3 (List.mem_of_getElem? (i := 42) rfl) rfl, by decide +kernel⟩
theorem kL_fault : mOKw iL_fault [(0, 9, 12, 13), (0, 9, 16, 15)] 5 := ⟨uw3 (List.mem_of_getElem? (i := 57) rfl) rfl, uw1 (List.mem_of_getElem? (i := 0) rfl) rfl, uw3 (List.mem_of_getElem? (i := 56) rfl) rfl, by decide +kernel⟩
theorem kL_mount : mOKw iL_mount [(0, 12, 15, 13), (0, 12, 19, 33)] 5 := ⟨uw3 (List.mem_of_getElem? (i := 64) rfl) rfl, uw1 (List.mem_of_getElem? (i := 0) rfl) rfl, uw3 (List.mem_of_getElem? (i := 63) rfl) rfl, by decide +kernel⟩
theorem kL_calibrate : mOKw iL_calibrate [(0, 19, 22, 13)] 5 := ⟨uw3 (List.mem_of_getElem? (i := 95) rfl) rfl, uw1 (List.mem_of_getElem? (i := 0) rfl) rfl, uw3 (List.mem_of_getElem? (i := 94) rfl) rfl, by decide +kernel⟩
theorem kL_height : mOKw iL_height [(0, 16, 19, 13), (0, 16, 23, 15)] 7 := ⟨uw3 (List.mem_of_getElem? (i := 102) rfl) rfl, uw1 (List.mem_of_getElem? (i := 0) rfl) rfl, uw3 (List.mem_of_getElem? (i := 101) rfl) rfl, by decide +kernel⟩
theorem kL_light : mOKw iL_light [(0, 9, 12, 13)] 3 := ⟨uw3 (List.mem_of_getElem? (i := 130) rfl) rfl, uw1 (List.mem_of_getElem? (i := 0) rfl) rfl, uw3 (List.mem_of_getElem? (i := 129) rfl) rfl, by decide +kernel⟩
theorem kL_seeing : mOKw iL_seeing [(0, 12, 15, 13)] 5 := ⟨uw3 (List.mem_of_getElem? (i := 142) rfl) rfl, uw1 (List.mem_of_getElem? (i := 0) rfl) rfl, uw3 (List.mem_of_getElem? (i := 141) rfl) rfl, by decide +kernel⟩
theorem kL_share : mOKw iL_share [(0, 10, 13, 13), (0, 10, 17, 15)] 4 := ⟨uw3 (List.mem_of_getElem? (i := 153) rfl) rfl, uw1 (List.mem_of_getElem? (i := 0) rfl) rfl, uw3 (List.mem_of_getElem? (i := 152) rfl) rfl, by decide +kernel⟩
theorem kL_proposal : mOKw iL_proposal [(0, 14, 17, 13), (0, 14, 21, 15), (0, 14, 25, 33)] 6 := ⟨uw3 (List.mem_of_getElem? (i := 160) rfl) rfl, uw1 (List.mem_of_getElem? (i := 0) rfl) rfl, uw3 (List.mem_of_getElem? (i := 159) rfl) rfl, by decide +kernel⟩
theorem kL_target : mOKw iL_target [(0, 24, 27, 13), (0, 24, 31, 15), (0, 24, 35, 33)] 11 := ⟨uw3 (List.mem_of_getElem? (i := 167) rfl) rfl, uw1 (List.mem_of_getElem? (i := 0) rfl) rfl, uw3 (List.mem_of_getElem? (i := 166) rfl) rfl, by decide +kernel⟩
theorem kL_series : mOKw iL_series [(0, 9, 12, 13), (0, 9, 16, 15), (0, 9, 20, 33)] 5 := ⟨uw3 (List.mem_of_getElem? (i := 180) rfl) rfl, uw1 (List.mem_of_getElem? (i := 0) rfl) rfl, uw3 (List.mem_of_getElem? (i := 179) rfl) rfl, by decide +kernel⟩
theorem kL_alert : mOKw iL_alert [(0, 24, 27, 13), (0, 24, 31, 15), (0, 24, 35, 33)] 11 := ⟨uw3 (List.mem_of_getElem? (i := 187) rfl) rfl, uw1 (List.mem_of_getElem? (i := 0) rfl) rfl, uw3 (List.mem_of_getElem? (i := 186) rfl) rfl, by decide +kernel⟩
theorem kL_wants : mOKw iL_wants [(0, 17, 20, 13)] 4 := ⟨uw3 (List.mem_of_getElem? (i := 197) rfl) rfl, uw1 (List.mem_of_getElem? (i := 0) rfl) rfl, uw3 (List.mem_of_getElem? (i := 196) rfl) rfl, by decide +kernel⟩
theorem kL_chances : mOKw iL_chances [(0, 12, 15, 13)] 5 := ⟨uw3 (List.mem_of_getElem? (i := 213) rfl) rfl, uw1 (List.mem_of_getElem? (i := 0) rfl) rfl, uw3 (List.mem_of_getElem? (i := 212) rfl) rfl, by decide +kernel⟩
theorem kL_run : mOKw iL_run [(0, 9, 12, 15)] 3 := ⟨uw4 (List.mem_of_getElem? (i := 1) rfl) rfl, uw1 (List.mem_of_getElem? (i := 0) rfl) rfl, uw4 (List.mem_of_getElem? (i := 0) rfl) rfl, by decide +kernel⟩
theorem kL_goingOn : mOKw iL_goingOn [(0, 10, 13, 13), (0, 10, 17, 15)] 4 := ⟨uw4 (List.mem_of_getElem? (i := 102) rfl) rfl, uw1 (List.mem_of_getElem? (i := 0) rfl) rfl, uw4 (List.mem_of_getElem? (i := 101) rfl) rfl, by decide +kernel⟩
theorem kL_visits : mOKw iL_visits [(0, 9, 12, 13)] 3 := ⟨uw4 (List.mem_of_getElem? (i := 109) rfl) rfl, uw1 (List.mem_of_getElem? (i := 0) rfl) rfl, uw4 (List.mem_of_getElem? (i := 108) rfl) rfl, by decide +kernel⟩
theorem kL_served : mOKw iL_served [(0, 16, 19, 13)] 3 := ⟨uw4 (List.mem_of_getElem? (i := 116) rfl) rfl, uw1 (List.mem_of_getElem? (i := 0) rfl) rfl, uw4 (List.mem_of_getElem? (i := 115) rfl) rfl, by decide +kernel⟩
theorem kL_slots : mOKw iL_slots [(0, 10, 13, 13)] 4 := ⟨uw4 (List.mem_of_getElem? (i := 123) rfl) rfl, uw1 (List.mem_of_getElem? (i := 0) rfl) rfl, uw4 (List.mem_of_getElem? (i := 122) rfl) rfl, by decide +kernel⟩
theorem kL_lost : mOKw iL_lost [(0, 10, 13, 13)] 4 := ⟨uw4 (List.mem_of_getElem? (i := 130) rfl) rfl, uw1 (List.mem_of_getElem? (i := 0) rfl) rfl, uw4 (List.mem_of_getElem? (i := 129) rfl) rfl, by decide +kernel⟩
theorem kL_datum : mOKw iL_datum [(0, 10, 13, 13), (0, 10, 17, 15)] 4 := ⟨uw4 (List.mem_of_getElem? (i := 137) rfl) rfl, uw1 (List.mem_of_getElem? (i := 0) rfl) rfl, uw4 (List.mem_of_getElem? (i := 136) rfl) rfl, by decide +kernel⟩
theorem kL_reads : mOKw iL_reads [(0, 19, 22, 13)] 5 := ⟨uw4 (List.mem_of_getElem? (i := 144) rfl) rfl, uw1 (List.mem_of_getElem? (i := 0) rfl) rfl, uw4 (List.mem_of_getElem? (i := 143) rfl) rfl, by decide +kernel⟩
theorem kL_replay : mOKw iL_replay [(0, 9, 12, 13), (0, 9, 15, 33)] 3 := ⟨uw4 (List.mem_of_getElem? (i := 151) rfl) rfl, uw1 (List.mem_of_getElem? (i := 0) rfl) rfl, uw4 (List.mem_of_getElem? (i := 150) rfl) rfl, by decide +kernel⟩
theorem kL_bestOrder : mOKw iL_bestOrder [(0, 10, 13, 13)] 4 := ⟨uw4 (List.mem_of_getElem? (i := 163) rfl) rfl, uw1 (List.mem_of_getElem? (i := 0) rfl) rfl, uw4 (List.mem_of_getElem? (i := 162) rfl) rfl, by decide +kernel⟩
/-- what holds all along the law -/
def LC (p : Program) (l : Launch) (s : State) (m : MethodId) (args : Array Value) (meth : Method) (c : Code) (D : DD) (ad : Nat → Int → Nat) (A : Nat → Prop) (N : Nat) (xs : Nat → Int32) : Prop := Cx lawV RL code 7 p room_1 s m args meth c D ad A ∧ wNest s ∧ wThr A s ∧ wNar s ∧ l.stackTraces = false ∧ va_X (ad 0 0) N xs s s.heap ∧ (ad 0 0 < s.heap.size ∧ ¬ A (ad 0 0)) ∧ N ≤ 5120
def LL (i : Int) : List (Nat × AV) := [(0, xr 0 0), (1, xr 1 0), (2, xr 40 0), (3, xr 35 0), (4, xi i)]
theorem law00 : lawV 0 0 := Or.inl ⟨rfl, rfl⟩
theorem cl10 : clV 1 0 := ⟨by decide, by decide, by decide⟩
theorem cl35 : clV 35 0 := ⟨by decide, by decide, by decide⟩
theorem mo40 : moV 40 0 := ⟨by decide, by decide, by decide⟩
theorem md_read {Es : List String} {c : Option String} {a m : Mm} (h : FU a m) (hl : Es.length < 4) : FU (pif (c = none) a a) (hold m (cdX Es c)) ∧ rd (hold m (cdX Es c)) 40 0 60 = cdX Es c := by
  refine ⟨?_, thr_hold m Es c hl⟩
  by_cases q : c = none
  · rw [pif_t q]; exact FU_hold h _
  · rw [pif_f q]; exact FU_hold h _
theorem cdX_0 {Es : List String} {c : Option String} (hl : Es.length < 4) (h : wr (cdX Es c) = 0) : c = none := by
  cases c with
  | none => rfl
  | some E =>
    have hp : ∀ (Es : List String) (E : String), 1 ≤ ps Es E ∧ ps Es E ≤ Es.length + 1 := fun Es E => by
      induction Es with
      | nil => unfold ps; exact ⟨by decide, by decide⟩
      | cons e t ih =>
        unfold ps
        by_cases q : E = e
        · rw [if_pos q]; simp; omega
        · rw [if_neg q]; simp; omega
    have h1 := hp Es E
    have h2 : wr (ps Es E) = ps Es E := wr_of (by omega) (by omega)
    have h3 : wr (ps Es E) = 0 := h
    omega
theorem cmp0 {x y : Int64} (h : x = y) : wr (lg_cmp x y).toInt = 0 := by
  subst h
  unfold lg_cmp
  rw [if_neg (show ¬ x > x from Int64.lt_irrefl), if_pos rfl]
  rfl
theorem bzw (P : Prop) : wr (bz P) = 0 ∨ wr (bz P) = 1 := by rw [wr_bz]; exact bz01 P
theorem w01 {k : Nat} {a : Mm} {i j : Int} (h : rd a k i j = 0 ∨ rd a k i j = 1) : wr (rd a k i j) = 0 ∨ wr (rd a k i j) = 1 := by rw [wr_rd]; exact h
section CTX
variable {p : Program} {l : Launch} {e : Env} {R : Room} {s : State} {m : MethodId} {args : Array Value} {below : List Frame} {meth : Method} {c : Code} {cells slots : Nat} {Q : State → Prop} {D : DD} {ad : Nat → Int → Nat} {A : Nat → Prop} {nL : Nat} {own : String} {cc : ByteArray}
theorem Wx.reads' {N : Nat} {xs : Nat → Int32} {z : Int} {L : List (Nat × AV)} {mm : Mm} {o : Int64} (hC : Cx lawV own cc nL p R s m args meth c D ad A) (hX : va_X (ad 0 0) N xs s s.heap) (hb0 : ad 0 0 < s.heap.size ∧ ¬ A (ad 0 0)) (hN : N ≤ 5120) (hL0 : lget L 0 = some (xr 0 0)) (hL4 : lget L 4 = some (xi z)) (h0 : 0 ≤ z) (hV0 : lawV 0 0) (ns : List Nat) (pc : Nat) (S : List AV) (h1 : rdOK cc pc ns = true) (h2 : ∀ n ∈ ns, z + (n : Int) < N) {pc' : Nat} (h3 : rdTo pc ns = pc') {S' : List AV} (h4 : rdS (scr xs) z ns S = S') (h : Wx p l e R s m args below meth c cells slots Q lawV D ad A nL pc' L S' mm o) : Wx p l e R s m args below meth c cells slots Q lawV D ad A nL pc L S mm o :=
  Wx.reads hC hX hb0 hN hL0 hL4 h0 hV0 ns pc S h1 h2 (by rw [h3, h4]; exact h)
end CTX
