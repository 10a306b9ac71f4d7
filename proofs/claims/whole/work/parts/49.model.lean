/-! ===== tableswitch; the model, XX: datum ===== -/
section CTX
variable {p : Program} {l : Launch} {e : Env} {R : Room} {s : State} {m : MethodId} {args : Array Value} {below : List Frame} {meth : Method} {c : Code} {cells slots : Nat} {Q : State → Prop} {V : Nat → Int → Prop} {D : DD} {ad : Nat → Int → Nat} {A : Nat → Prop} {nL : Nat} {own : String} {cc : ByteArray}
theorem Wx.tabOut {pc len tgt : Nat} {dflt lo hi z : Int} {offs : Array Int} {L : List (Nat × AV)} {S : List AV} {mm : Mm} {o : Int64} (hC : Cx V own cc nL p R s m args meth c D ad A) (hd : decode cc pc = .ok (.tableswitch dflt lo hi offs, len)) (h : wr z < lo ∨ hi < wr z) (ht : (pc : Int) + dflt = (tgt : Int)) (kk : Wx p l e R s m args below meth c cells slots Q V D ad A nL tgt L S mm o) : Wx p l e R s m args below meth c cells slots Q V D ad A nL pc L (xi z :: S) mm o := by
  intro H locs ls hW hS hl hL hv
  exact lv_tableOut hC.1 hC.2.1 hd (by rw [toInt_I]; exact h) ht (kk H locs ls hW hS hl hL (ok_tail hv))
theorem Wx.tabIn {pc len tgt : Nat} {dflt lo hi z off : Int} {offs : Array Int} {L : List (Nat × AV)} {S : List AV} {mm : Mm} {o : Int64} (hC : Cx V own cc nL p R s m args meth c D ad A) (hd : decode cc pc = .ok (.tableswitch dflt lo hi offs, len)) (h1 : ¬ wr z < lo) (h2 : ¬ hi < wr z) (ho : offs[(wr z - lo).toNat]? = some off) (ht : (pc : Int) + off = (tgt : Int)) (kk : Wx p l e R s m args below meth c cells slots Q V D ad A nL tgt L S mm o) : Wx p l e R s m args below meth c cells slots Q V D ad A nL pc L (xi z :: S) mm o := by
  intro H locs ls hW hS hl hL hv
  exact lv_tableIn hC.1 hC.2.1 hd (by rw [toInt_I]; exact h1) (by rw [toInt_I]; exact h2) (by rw [toInt_I]; exact ho) ht (kk H locs ls hW hS hl hL (ok_tail hv))
end CTX
def mdtH (nd a b : Int) : Option String := ck (ixC a nd) (rgC b 0 6)
noncomputable def mdtV (m : Mm) (a b : Int) : Int := pif (b = 0) (pif (rd m 93 0 a ≤ 23) 1 2) (pif (b = 1) (pif (rd m 93 0 a ≤ 23) (rd m 93 0 a) (rd m 93 0 a - 24)) (pif (b = 2) (rd m 94 0 a) (pif (b = 3) (rd m 95 0 a) (pif (b = 4) (rd m 96 0 a) (pif (b = 5) (rd m 97 0 a) (rd m 98 0 a))))))
noncomputable def mdtR (mm : Mm) (a b : Int) : Int := pif (mdtH (rd mm 40 0 58) a b = none) (mdtV (hold mm (cdX E0 (mdtH (rd mm 40 0 58) a b))) a b) (-1)
theorem mdtV0 (m : Mm) (a : Int) : mdtV m a 0 = pif (rd m 93 0 a ≤ 23) 1 2 := pif_t rfl
theorem mdtV1 (m : Mm) (a : Int) : mdtV m a 1 = pif (rd m 93 0 a ≤ 23) (rd m 93 0 a) (rd m 93 0 a - 24) := by
  unfold mdtV; rw [pif_f (show ¬ (1 : Int) = 0 by decide), pif_t rfl]
theorem mdtV2 (m : Mm) (a : Int) : mdtV m a 2 = rd m 94 0 a := by
  unfold mdtV; rw [pif_f (show ¬ (2 : Int) = 0 by decide), pif_f (show ¬ (2 : Int) = 1 by decide), pif_t rfl]
theorem mdtV3 (m : Mm) (a : Int) : mdtV m a 3 = rd m 95 0 a := by
  unfold mdtV; rw [pif_f (show ¬ (3 : Int) = 0 by decide), pif_f (show ¬ (3 : Int) = 1 by decide), pif_f (show ¬ (3 : Int) = 2 by decide), pif_t rfl]
theorem mdtV4 (m : Mm) (a : Int) : mdtV m a 4 = rd m 96 0 a := by
  unfold mdtV; rw [pif_f (show ¬ (4 : Int) = 0 by decide), pif_f (show ¬ (4 : Int) = 1 by decide), pif_f (show ¬ (4 : Int) = 2 by decide), pif_f (show ¬ (4 : Int) = 3 by decide), pif_t rfl]
theorem mdtV5 (m : Mm) (a : Int) : mdtV m a 5 = rd m 97 0 a := by
  unfold mdtV; rw [pif_f (show ¬ (5 : Int) = 0 by decide), pif_f (show ¬ (5 : Int) = 1 by decide), pif_f (show ¬ (5 : Int) = 2 by decide), pif_f (show ¬ (5 : Int) = 3 by decide), pif_f (show ¬ (5 : Int) = 4 by decide), pif_t rfl]
theorem mdtV6 (m : Mm) (a : Int) : mdtV m a 6 = rd m 98 0 a := by
  unfold mdtV; rw [pif_f (show ¬ (6 : Int) = 0 by decide), pif_f (show ¬ (6 : Int) = 1 by decide), pif_f (show ¬ (6 : Int) = 2 by decide), pif_f (show ¬ (6 : Int) = 3 by decide), pif_f (show ¬ (6 : Int) = 4 by decide), pif_f (show ¬ (6 : Int) = 5 by decide)]
theorem dec_tab : decode iX11_datum.2.1 38 = .ok (.tableswitch 113 0 5 #[38, 55, 85, 92, 99, 106], 38) := by decide +kernel
set_option maxRecDepth 100000 in
set_option maxHeartbeats 400000 in
theorem M_mdatum (a b : Int) (mm : Mm) (o : Int64) (ha : wr a = a) (hb : wr b = b) (d0 : 0 ≤ rd mm 40 0 58) (d1 : rd mm 40 0 58 ≤ 100) : MetX iX11_datum [xr 40 0, xi a, xi b] mm o (rto (xi (mdtR mm a b)) (hold mm (cdX E0 (mdtH (rd mm 40 0 58) a b))) o) := by
  refine MetX.of 1 (by decide +kernel) rfl (Nat.le_of_ble_eq_true rfl) ⟨by decide, by decide⟩ ?_
  intro p l e s m args below meth c Q V D ad A hC hN hok hF
  have hj : ∀ z, cdX E0 (mdtH (rd mm 40 0 58) a b) = z → Wx p l e (mrm iX11_datum) s m args below meth c 0 0 Q V D ad A 3 29 [(0, xr 40 0), (1, xi a), (2, xi b)] [xi z, xr 40 0] mm o := by
    rintro z rfl
    refine Wx.callV (x := iX11_datum) (y := iX11_holds) (k := 40) (avs := [_]) (rest := []) hC hN tkX11_datum rfl rfl kX11_holds rfl (M_holdc _ _ _ _ (by decide)) ⟨rfl, rfl⟩ rfl (Nat.le_of_ble_eq_true rfl) (by exact nol rfl) ?_
    rintro r mm' o' ⟨rfl, rfl, rfl⟩
    refine wpx hC tkX11_datum hF [38] 200 ?_
    refine ⟨fun q => ?_, fun q => ⟨congrArg (fun z => some (xi z)) (pif_f (yb q)).symm, rfl, rfl⟩⟩
    have hn := Classical.not_not.mp (nb q)
    obtain ⟨a0, a1⟩ := ix_of (ck_of hn).1
    obtain ⟨b0, b1⟩ := rg_of (ck_of hn).2
    have a2 : 0 ≤ a ∧ a < 100 := by omega
    have eR : mdtR mm a b = mdtV (hold mm (cdX E0 (mdtH (rd mm 40 0 58) a b))) a b := pif_t hn


    rcases (show b = 0 ∨ b = 1 ∨ b = 2 ∨ b = 3 ∨ b = 4 ∨ b = 5 ∨ b = 6 by omega) with rfl | rfl | rfl | rfl | rfl | rfl | rfl
    · refine Wx.tabIn hC dec_tab (by decide) (by decide) (off := 38) (tgt := 76) (by decide) (by decide) ?_
      refine wpx hC tkX11_datum hF [] 200 ?_
      refine ⟨a2, fun q2 => ⟨congrArg (fun z => some (xi z)) ((eR.trans (mdtV0 _ _)).trans (pif_t ?_)).symm, rfl, rfl⟩, fun q2 => ⟨congrArg (fun z => some (xi z)) ((eR.trans (mdtV0 _ _)).trans (pif_f ?_)).symm, rfl, rfl⟩⟩
      · rw [wr_rd, show wr 23 = 23 from rfl] at q2; exact q2
      · rw [wr_rd, show wr 23 = 23 from rfl] at q2; exact q2
    · refine Wx.tabIn hC dec_tab (by decide) (by decide) (off := 55) (tgt := 93) (by decide) (by decide) ?_
      refine wpx hC tkX11_datum hF [] 200 ?_
      refine ⟨a2, fun q2 => ⟨a2, congrArg (fun z => some (xi z)) ((eR.trans (mdtV1 _ _)).trans (pif_t ?_)).symm, rfl, rfl⟩, fun q2 => ⟨a2, congrArg (fun z => some (xi z)) ((eR.trans (mdtV1 _ _)).trans (pif_f ?_)).symm, rfl, rfl⟩⟩
      · rw [wr_rd, show wr 23 = 23 from rfl] at q2; exact q2
      · rw [wr_rd, show wr 23 = 23 from rfl] at q2; exact q2
    · refine Wx.tabIn hC dec_tab (by decide) (by decide) (off := 85) (tgt := 123) (by decide) (by decide) ?_
      refine wpx hC tkX11_datum hF [] 200 ?_
      exact ⟨a2, congrArg (fun z => some (xi z)) (eR.trans (mdtV2 _ _)).symm, rfl, rfl⟩
    · refine Wx.tabIn hC dec_tab (by decide) (by decide) (off := 92) (tgt := 130) (by decide) (by decide) ?_
      refine wpx hC tkX11_datum hF [] 200 ?_
      exact ⟨a2, congrArg (fun z => some (xi z)) (eR.trans (mdtV3 _ _)).symm, rfl, rfl⟩
    · refine Wx.tabIn hC dec_tab (by decide) (by decide) (off := 99) (tgt := 137) (by decide) (by decide) ?_
      refine wpx hC tkX11_datum hF [] 200 ?_
      exact ⟨a2, congrArg (fun z => some (xi z)) (eR.trans (mdtV4 _ _)).symm, rfl, rfl⟩
    · refine Wx.tabIn hC dec_tab (by decide) (by decide) (off := 106) (tgt := 144) (by decide) (by decide) ?_
      refine wpx hC tkX11_datum hF [] 200 ?_
      exact ⟨a2, congrArg (fun z => some (xi z)) (eR.trans (mdtV5 _ _)).symm, rfl, rfl⟩
    · refine Wx.tabOut hC dec_tab (by decide) (tgt := 151) (by decide) ?_
      refine wpx hC tkX11_datum hF [] 200 ?_
      exact ⟨a2, congrArg (fun z => some (xi z)) (eR.trans (mdtV6 _ _)).symm, rfl, rfl⟩
  unfold mdtH at hj
  refine wpx hC tkX11_datum hF [29] 200 ?_
  refine Wx.callV (x := iX11_datum) (y := iX11_isData) (k := 40) (avs := [_]) (rest := [_]) hC hN tkX11_datum rfl rfl kX11_isData rfl (M_isData _ _ _ ha d0) ⟨rfl, rfl⟩ rfl (Nat.le_of_ble_eq_true rfl) (by exact nol rfl) ?_
  rintro r mm' o' ⟨rfl, rfl, rfl⟩
  refine wpx hC tkX11_datum hF [29] 200 ?_
  refine ⟨fun q => ?_, fun q => hj 1 (cdx_ix (fun h => nb q (by omega)))⟩
  have qa : 0 ≤ a ∧ a < rd mm 40 0 58 := by have := yb q; omega
  refine Wx.callV (x := iX11_datum) (y := iX11_in) (k := 40) (avs := [_, _, _]) (rest := [_]) hC hN tkX11_datum rfl rfl kX11_in rfl (M_in _ _ _ _ _ hb rfl rfl) ⟨rfl, rfl⟩ rfl (Nat.le_of_ble_eq_true rfl) (by exact nol rfl) ?_
  rintro r mm' o' ⟨rfl, rfl, rfl⟩
  refine wpx hC tkX11_datum hF [29] 200 ?_
  exact ⟨fun q => hj 2 (by rw [ck_ln (ix_t qa)]; exact cdy_rg (nb q)), fun q => hj 0 (by rw [ck_ln (ix_t qa)]; exact cdt_rg (yb q))⟩
