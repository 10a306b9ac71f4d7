/-! ===== helpers of the contracts ===== -/
section CTX
variable {p : Program} {l : Launch} {e : Env} {R : Room} {s : State} {m : MethodId} {args : Array Value} {below : List Frame} {meth : Method} {c : Code} {Q : State → Prop} {V : Nat → Int → Prop} {D : DD} {ad : Nat → Int → Nat} {A : Nat → Prop} {nL : Nat} {own : String} {cc : ByteArray}
theorem wpx {pc : Nat} {L : List (Nat × AV)} {S : List AV} {mm : Mm} {o : Int64} (hC : Cx V own cc nL p R s m args meth c D ad A) {C : CT} (hcode : C.all (cOK own cc) = true) {rt : Nat} {F : FT}
    (hF : ∀ r mm o, F r mm o → rOK p l e R s m args below meth c 0 0 Q V D ad A cc rt r mm o) (stops : List Nat) (n : Nat) (h : wp C rt nL stops (Wx p l e R s m args below meth c 0 0 Q V D ad A nL) F n pc L S mm o) : Wx p l e R s m args below meth c 0 0 Q V D ad A nL pc L S mm o :=
  wp_ok hC ⟨Nat.zero_le _, Nat.zero_le _⟩ hcode (fun _ _ _ _ _ h => h) hF n pc L S mm o h
/-- a call of the nest's static method angle -/
theorem Wx.callSN {x y : MI} {n : Nat} {avs rest : List AV} {mm : Mm} {o : Int64} {F : FT} {pc : Nat} {L : List (Nat × AV)} (hC : Cx V own cc nL p (mrm x) s m args meth c D ad A) (hN : wNest s) {C : CT} (hcode : C.all (cOK own cc) = true) {idx nx sl ty rc p1 p2 : Nat} {sj : Int} (hg : cget C pc = some (.invokestatic idx, nx, sl, sj, 0, ty, rc, p1, p2)) (hlink : va_Nw (.methodLinkNest own idx y.1 RX10) s) (hy : mOKs y n) (hrm : rmOK x y = true)
    (hM : MetX y avs mm o F) (hn : avs.length = n) (hrest : rest.length ≤ 4) (hav : ∀ v ∈ avs, okv V v → okl V v)
    (kk : ∀ r mm' o', F r mm' o' → Wx p l e (mrm x) s m args below meth c 0 0 Q V D ad A nL (pc + 3) L (r.toList ++ rest) mm' o') : Wx p l e (mrm x) s m args below meth c 0 0 Q V D ad A nL pc L (avs.reverse ++ rest) mm o := by
  intro H locs ls hW hS hl hL hv
  have he := List.all_eq_true.mp hcode _ (cget_mem hg)
  obtain ⟨hd, hnx⟩ := cOK_spec he 3 rfl (by decide)
  have hts := hC.2.2.2.2.1
  obtain ⟨⟨hyc, hyi, hyn⟩, hyS⟩ := hy
  obtain ⟨r1, r2⟩ := Bool.and_eq_true _ _ ▸ hrm
  have cw : va_CN (mrm x) s args own idx y.1 RX10 y.2.1 y.2.2.1 y.2.2.2.1 (mws y) (mrm y) 0 0 n ∧ (Cond.static y.1).before args s = true ∧ True :=
    ⟨va_cnB n hts (mws_good y hyc) rfl rfl rfl hlink (hts _ hyi) hyn ⟨Nat.le_of_ble_eq_true r1, Nat.le_of_ble_eq_true r2⟩, hts _ hyS, trivial⟩
  have hWF : WF V ad := ⟨hC.2.2.2.2.2.2.2.2.1, hC.2.2.2.2.2.2.2.2.2.1⟩
  have hok : ∀ v ∈ avs, okl V v := fun v h => hav v h (hv v (List.mem_append_left _ (List.mem_reverse.mpr h)))
  have hK := hC.2.2.2.2.2.1
  rw [show (avs.reverse ++ rest).map (cv ad) = (avs.map (cv ad)).reverse ++ rest.map (cv ad) by rw [List.map_append, List.map_reverse]]
  refine Wx.after hC hS hl hL (fun v hv' => hv v (List.mem_append_right _ hv')) (va_runSN (As := avs.map (cv ad)) (rest := rest.map (cv ad)) ⟨hC.1, hC.2.1, hC.2.2.1, hC.2.2.2.1, hts⟩ (hM l V D ad H.size hWF hok) cw ⟨xB_blind, fun U hU hWm => ⟨rfl, by rw [hU], by rw [hU]; exact hW, va_K.moved hWm.alike hK, wNest_warm hWm hN⟩⟩ rfl (by rw [List.length_map]; exact hn) hl.1 rfl (lv_room (cat_le hrest)) hd ⟨Nat.zero_le _, Nat.zero_le _⟩) kk
end CTX
/-- answers r, the memory as it was -/
def rto (r : AV) (mm : Mm) (o : Int64) : FT := fun r' mm' o' => r' = some r ∧ mm = mm' ∧ o = o'
/-- answers nothing, the memory is mm -/
def rtv (mm : Mm) (o : Int64) : FT := fun r' mm' o' => r' = none ∧ mm = mm' ∧ o = o'
theorem av1 {V : Nat → Int → Prop} {z : Int} : ∀ v ∈ ([xi z] : List AV), okv V v → okl V v := fun v h _ => by rw [List.mem_singleton.mp h]; trivial
theorem avi {V : Nat → Int → Prop} {zs : List Int} : ∀ v ∈ zs.map xi, okv V v → okl V v := fun v h _ => by obtain ⟨z, -, rfl⟩ := List.mem_map.mp h; trivial
