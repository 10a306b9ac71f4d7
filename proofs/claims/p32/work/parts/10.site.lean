/-! ===== Cloudseed.angle, Site, Plan ===== -/
def angC (a b : Int) : Int := jmin (jrem (jabs (a - b)) 360) (360 - jrem (jabs (a - b)) 360)
set_option maxRecDepth 100000 in
set_option maxHeartbeats 400000 in
theorem M_angle (a b : Int) (mm : Mm) (o : Int64)  : MetX iX10_angle [xi a, xi b] mm o (rto (xi (angC a b)) mm o) := by
  refine MetX.of 1 (by decide +kernel) rfl (Nat.le_of_ble_eq_true rfl) ⟨by decide, by decide⟩ ?_
  intro p l e s m args below meth c Q V D ad A hC hN hok hF
  refine wpx hC tkX10_angle hF [] 200 ?_
  exact ⟨by decide, rfl, rfl, rfl⟩
def seenC (mm : Mm) (i t : Int) : Int := if rd mm 13 i t = 0 then rd mm 12 i t else 0
set_option maxRecDepth 100000 in
set_option maxHeartbeats 400000 in
theorem M_seeingAt (i t : Int) (mm : Mm) (o : Int64) (h0 : 0 ≤ t) (h1 : t < 720) : MetX iX7_seeingAt [xr 11 i, xi t] mm o (rto (xi (seenC mm i t)) mm o) := by
  refine MetX.of 1 (by decide +kernel) rfl (Nat.le_of_ble_eq_true rfl) ⟨by decide, by decide⟩ ?_
  intro p l e s m args below meth c Q V D ad A hC hN hok hF
  refine wpx hC tkX7_seeingAt hF [] 200 ?_
  refine ⟨⟨h0, h1⟩, fun q => ?_, fun q => ?_⟩
  · rw [wr_rd] at q
    refine ⟨⟨h0, h1⟩, ?_, rfl, rfl⟩
    unfold seenC; rw [if_pos q]
  · rw [wr_rd] at q
    refine ⟨?_, rfl, rfl⟩
    unfold seenC; rw [if_neg q]
noncomputable def newC (mm : Mm) (i ins : Int) (n : Nat) : Int := fdown (fun t => ¬ rd mm 16 i (ins * 30 + t) = 0) n
set_option maxRecDepth 100000 in
set_option maxHeartbeats 400000 in
theorem M_newestCalibration (i ins z : Int) (n : Nat) (mm : Mm) (o : Int64) (hz : z = (n : Int) - 1) (h0 : 0 ≤ ins) (h1 : ins < 3) (hn : n ≤ 30) : MetX iX7_newestCalibration [xr 11 i, xi ins, xi z] mm o (rto (xi (newC mm i ins n)) mm o) := by
  refine MetX.of 1 (by decide +kernel) rfl (Nat.le_of_ble_eq_true rfl) ⟨by decide, by decide⟩ ?_
  intro p l e s m args below meth c Q V D ad A hC hN hok hF
  subst hz
  refine wpx hC tkX7_newestCalibration hF [2] 200 ?_
  have loop : ∀ (k : Nat), k ≤ n → newC mm i ins k = newC mm i ins n → Wx p l e (mrm iX7_newestCalibration) s m args below meth c 0 0 Q V D ad A 4 2 [(0, xr 11 i), (1, xi ins), (2, xi ((n : Int) - 1)), (3, xi ((k : Int) - 1))] [] mm o := by
    intro k
    induction k with
    | zero =>
      intro hk he
      refine wpx hC tkX7_newestCalibration hF [2] 200 ?_
      refine ⟨fun q => ⟨by rw [← he]; rfl, rfl, rfl⟩, fun q => ?_⟩
      exact absurd (show wr ((0 : Nat) - 1 : Int) < 0 by decide) q
    | succ k ih =>
      intro hk he
      refine wpx hC tkX7_newestCalibration hF [2] 200 ?_
      refine ⟨fun q => ?_, fun q => ?_⟩
      · rw [wr_of (by omega) (by omega)] at q; omega
      · refine ⟨⟨by omega, by show _ < (90 : Int); omega⟩, fun q2 => ?_, fun q2 => ?_⟩
        · have e1 : newC mm i ins (k + 1) = newC mm i ins k := by
            simp only [wr_rd, show ((k + 1 : Nat) : Int) - 1 = (k : Int) by omega] at q2
            exact pif_f (fun h => h q2)
          have h9 := ih (by omega) (e1.symm.trans he)
          rw [show ((k : Int) - 1) = ((k + 1 : Nat) : Int) - 1 + -1 by omega] at h9
          exact h9
        · simp only [wr_rd, show ((k + 1 : Nat) : Int) - 1 = (k : Int) by omega] at q2
          refine ⟨?_, rfl, rfl⟩
          rw [← he, show newC mm i ins (k + 1) = k from pif_t q2]
          simp only [show ((k + 1 : Nat) : Int) - 1 = (k : Int) by omega]
  exact loop n (Nat.le_refl _) rfl
def hgtC (mm : Mm) (i t ra dec : Int) : Int := 90 - jmax (angC (jrem (rd mm 11 i 1 + jdiv t 24 + 5 * jrem t 24) 360) ra) (jabs (dec - rd mm 11 i 0)) - jdiv (jmin (angC (jrem (rd mm 11 i 1 + jdiv t 24 + 5 * jrem t 24) 360) ra) (jabs (dec - rd mm 11 i 0))) 2
set_option maxRecDepth 100000 in
set_option maxHeartbeats 400000 in
theorem M_heightAt (i t ra dec : Int) (mm : Mm) (o : Int64)  : MetX iX7_heightAt [xr 11 i, xi t, xi ra, xi dec] mm o (rto (xi (hgtC mm i t ra dec)) mm o) := by
  refine MetX.of 1 (by decide +kernel) rfl (Nat.le_of_ble_eq_true rfl) ⟨by decide, by decide⟩ ?_
  intro p l e s m args below meth c Q V D ad A hC hN hok hF
  refine wpx hC tkX7_heightAt hF [] 200 ?_
  refine ⟨by decide, by decide, by decide, ?_⟩
  refine Wx.callSN (x := iX7_heightAt) (y := iX10_angle) (avs := [_, _]) (rest := []) hC hN tkX7_heightAt rfl hN.2 kX10_angle rfl (M_angle _ _ _ _) rfl (Nat.le_of_ble_eq_true rfl) (by exact nol rfl) ?_
  rintro r mm' o' ⟨rfl, rfl, rfl⟩
  refine wpx hC tkX7_heightAt hF [] 200 ?_
  exact ⟨by decide, rfl, rfl, rfl⟩
def highP (mm : Mm) (k : Nat) (a i t c : Int) : Prop := rd mm k a 5 ≤ wr (hgtC mm i (t + c) (rd mm k a 1) (rd mm k a 2))
noncomputable def highC (mm : Mm) (k : Nat) (a i t most : Int) : Int := runT (highP mm k a i t) (min most (24 - t % 24)).toNat 0
set_option maxRecDepth 100000 in
set_option maxHeartbeats 400000 in
theorem M_highSlots_18 (a i t most : Int) (mm : Mm) (o : Int64) (t0 : 0 ≤ t) (t1 : t < 720) (m0 : 0 ≤ most) (m1 : most ≤ 24) : MetX iX7_highSlots [xr 11 i, xr 18 a, xi t, xi most] mm o (rto (xi (highC mm 18 a i t most)) mm o) := by
  refine MetX.of 1 (by decide +kernel) rfl (Nat.le_of_ble_eq_true rfl) ⟨by decide, by decide⟩ ?_
  intro p l e s m args below meth c Q V D ad A hC hN hok hF
  refine wpx hC tkX7_highSlots hF [12] 200 ?_
  refine ⟨by decide, ?_⟩
  have e24 : jrem t 24 = t % 24 := jrem_of t0 (by omega) (by decide) (by decide)
  rw [e24]
  have loop : ∀ (n : Nat) (u : Int), 0 ≤ u → u + n = min most (24 - t % 24) → runT (highP mm 18 a i t) n u = highC mm 18 a i t most → Wx p l e (mrm iX7_highSlots) s m args below meth c 0 0 Q V D ad A 6 12 [(0, xr 11 i), (1, xr 18 a), (2, xi t), (3, xi most), (4, xi (24 - t % 24)), (5, xi u)] [] mm o := by
    intro n
    induction n with
    | zero =>
      intro u c0 hc he
      refine wpx hC tkX7_highSlots hF [12] 200 ?_
      refine ⟨fun q => ⟨by rw [← he]; rfl, rfl, rfl⟩, fun q => ⟨fun q2 => ⟨by rw [← he]; rfl, rfl, rfl⟩, fun q2 => ?_⟩⟩
      rw [wr_of (by omega) (by omega), wr_of (by omega) (by omega)] at q q2
      omega
    | succ n ih =>
      intro u c0 hc he
      refine wpx hC tkX7_highSlots hF [12] 200 ?_
      refine ⟨fun q => ?_, fun q => ⟨fun q2 => ?_, fun q2 => ?_⟩⟩
      · rw [wr_of (by omega) (by omega), wr_of (by omega) (by omega)] at q; omega
      · rw [wr_of (by omega) (by omega), wr_of (by omega) (by omega)] at q2; omega
      refine Wx.callV (x := iX7_highSlots) (y := iX7_heightAt) (k := 11) (avs := [_, _, _]) (rest := []) hC hN tkX7_highSlots rfl rfl kX7_heightAt rfl (M_heightAt _ _ _ _ _ _) ⟨rfl, rfl⟩ rfl (Nat.le_of_ble_eq_true rfl) (by exact nol rfl) ?_
      rintro r mm' o' ⟨rfl, rfl, rfl⟩
      refine wpx hC tkX7_highSlots hF [12] 200 ?_
      refine ⟨fun q3 => ?_, fun q3 => ?_⟩
      · refine ⟨?_, rfl, rfl⟩
        rw [← he]
        rw [wr_rd] at q3
        have h9 : ¬ highP mm 18 a i t u := by unfold highP; omega
        show _ = some (xi (pif _ _ _))
        rw [pif_f h9]
      · rw [wr_rd] at q3
        have h9 : highP mm 18 a i t u := by unfold highP; omega
        refine ih (u + 1) (by omega) (by omega) ?_
        rw [← he]
        exact (pif_t h9).symm
  exact loop (min most (24 - t % 24)).toNat 0 (by omega) (by omega) rfl
set_option maxRecDepth 100000 in
set_option maxHeartbeats 400000 in
theorem M_highSlots_19 (a i t most : Int) (mm : Mm) (o : Int64) (t0 : 0 ≤ t) (t1 : t < 720) (m0 : 0 ≤ most) (m1 : most ≤ 24) : MetX iX7_highSlots [xr 11 i, xr 19 a, xi t, xi most] mm o (rto (xi (highC mm 19 a i t most)) mm o) := by
  refine MetX.of 1 (by decide +kernel) rfl (Nat.le_of_ble_eq_true rfl) ⟨by decide, by decide⟩ ?_
  intro p l e s m args below meth c Q V D ad A hC hN hok hF
  refine wpx hC tkX7_highSlots hF [12] 200 ?_
  refine ⟨by decide, ?_⟩
  have e24 : jrem t 24 = t % 24 := jrem_of t0 (by omega) (by decide) (by decide)
  rw [e24]
  have loop : ∀ (n : Nat) (u : Int), 0 ≤ u → u + n = min most (24 - t % 24) → runT (highP mm 19 a i t) n u = highC mm 19 a i t most → Wx p l e (mrm iX7_highSlots) s m args below meth c 0 0 Q V D ad A 6 12 [(0, xr 11 i), (1, xr 19 a), (2, xi t), (3, xi most), (4, xi (24 - t % 24)), (5, xi u)] [] mm o := by
    intro n
    induction n with
    | zero =>
      intro u c0 hc he
      refine wpx hC tkX7_highSlots hF [12] 200 ?_
      refine ⟨fun q => ⟨by rw [← he]; rfl, rfl, rfl⟩, fun q => ⟨fun q2 => ⟨by rw [← he]; rfl, rfl, rfl⟩, fun q2 => ?_⟩⟩
      rw [wr_of (by omega) (by omega), wr_of (by omega) (by omega)] at q q2
      omega
    | succ n ih =>
      intro u c0 hc he
      refine wpx hC tkX7_highSlots hF [12] 200 ?_
      refine ⟨fun q => ?_, fun q => ⟨fun q2 => ?_, fun q2 => ?_⟩⟩
      · rw [wr_of (by omega) (by omega), wr_of (by omega) (by omega)] at q; omega
      · rw [wr_of (by omega) (by omega), wr_of (by omega) (by omega)] at q2; omega
      refine Wx.callV (x := iX7_highSlots) (y := iX7_heightAt) (k := 11) (avs := [_, _, _]) (rest := []) hC hN tkX7_highSlots rfl rfl kX7_heightAt rfl (M_heightAt _ _ _ _ _ _) ⟨rfl, rfl⟩ rfl (Nat.le_of_ble_eq_true rfl) (by exact nol rfl) ?_
      rintro r mm' o' ⟨rfl, rfl, rfl⟩
      refine wpx hC tkX7_highSlots hF [12] 200 ?_
      refine ⟨fun q3 => ?_, fun q3 => ?_⟩
      · refine ⟨?_, rfl, rfl⟩
        rw [← he]
        rw [wr_rd] at q3
        have h9 : ¬ highP mm 19 a i t u := by unfold highP; omega
        show _ = some (xi (pif _ _ _))
        rw [pif_f h9]
      · rw [wr_rd] at q3
        have h9 : highP mm 19 a i t u := by unfold highP; omega
        refine ih (u + 1) (by omega) (by omega) ?_
        rw [← he]
        exact (pif_t h9).symm
  exact loop (min most (24 - t % 24)).toNat 0 (by omega) (by omega) rfl
theorem M_highSlots (k : Nat) (a i t most : Int) (mm : Mm) (o : Int64) (hk : k = 18 ∨ k = 19) (t0 : 0 ≤ t) (t1 : t < 720) (m0 : 0 ≤ most) (m1 : most ≤ 24) : MetX iX7_highSlots [xr 11 i, xr k a, xi t, xi most] mm o (rto (xi (highC mm k a i t most)) mm o) := by
  rcases hk with rfl | rfl
  · exact M_highSlots_18 a i t most mm o t0 t1 m0 m1
  · exact M_highSlots_19 a i t most mm o t0 t1 m0 m1
