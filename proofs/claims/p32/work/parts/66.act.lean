/-! ===== act ===== -/
theorem dec_act1 : decode cL_act 1 = .ok (.tableswitch 502 0 10 #[59, 127, 127, 175, 213, 293, 321, 390, 440, 473, 484], 59) := by decide +kernel
set_option maxRecDepth 100000 in
set_option maxHeartbeats 1600000 in
theorem M_act {a w : Mm} (o : Int64) (y kd : Int) (k0 : 0 ≤ kd) (k1 : kd < 15) (hL : LVR 3 a w) : MetN iL_act 12 [xr 1 0, xr 40 0, xi y, xi kd] (mix a w) o (actF a w kd) := by
  refine MetN.of 1 (by decide +kernel) rfl (Or.inl rfl) (Nat.le_of_ble_eq_true rfl) ⟨by decide, by decide⟩ ?_
  intro p l e s m args below meth c Q V D ad hC hN hT hR hst hok hF
  refine wpk hC ⟨by decide, by decide⟩ tkL_act [] 200 ?_
  have wk : wr kd = kd := wr_of (by omega) (by omega)
  rcases (show kd = 0 ∨ kd = 1 ∨ kd = 2 ∨ kd = 3 ∨ kd = 4 ∨ kd = 5 ∨ kd = 6 ∨ kd = 7 ∨ kd = 8 ∨ kd = 9 ∨ kd = 10 ∨ 10 < kd by omega) with rfl | rfl | rfl | rfl | rfl | rfl | rfl | rfl | rfl | rfl | rfl | hb
  · exact Wx.tabIn hC dec_act1 (by decide) (by decide) (off := 59) (tgt := 60) (by decide) (by decide) (act_k0 hC hN hT hR hst hL hF)
  · exact Wx.tabIn hC dec_act1 (by decide) (by decide) (off := 127) (tgt := 128) (by decide) (by decide) (act_k1 hC hN hT hR hst hL (by decide) hF)
  · exact Wx.tabIn hC dec_act1 (by decide) (by decide) (off := 127) (tgt := 128) (by decide) (by decide) (act_k1 hC hN hT hR hst hL (by decide) hF)
  · exact Wx.tabIn hC dec_act1 (by decide) (by decide) (off := 175) (tgt := 176) (by decide) (by decide) (act_k3 hC hN hT hR hst hL hF)
  · exact Wx.tabIn hC dec_act1 (by decide) (by decide) (off := 213) (tgt := 214) (by decide) (by decide) (act_k4 hC hN hT hR hst hL hF)
  · exact Wx.tabIn hC dec_act1 (by decide) (by decide) (off := 293) (tgt := 294) (by decide) (by decide) (act_k5 hC hN hT hR hst hL hF)
  · exact Wx.tabIn hC dec_act1 (by decide) (by decide) (off := 321) (tgt := 322) (by decide) (by decide) (act_k6 hC hN hT hR hst hL hF)
  · exact Wx.tabIn hC dec_act1 (by decide) (by decide) (off := 390) (tgt := 391) (by decide) (by decide) (act_k7 hC hN hT hR hst hL hF)
  · exact Wx.tabIn hC dec_act1 (by decide) (by decide) (off := 440) (tgt := 441) (by decide) (by decide) (act_k8 hC hN hT hR hst hL hF)
  · exact Wx.tabIn hC dec_act1 (by decide) (by decide) (off := 473) (tgt := 474) (by decide) (by decide) (act_k9 hC hN hT hR hst hL hF)
  · exact Wx.tabIn hC dec_act1 (by decide) (by decide) (off := 484) (tgt := 485) (by decide) (by decide) (act_k10 hC hN hT hR hst hL hF)
  · exact Wx.tabOut hC dec_act1 (Or.inr (by rw [wk]; exact hb)) (tgt := 503) (by decide) (act_k11 hC hN hT hR hst hL (by omega) hF)
