/-! ===== Cloudseed.angle, Site ===== -/
def angC (a b : Int) : Int := jmin (jrem (jabs (a - b)) 360) (360 - jrem (jabs (a - b)) 360)
set_option maxRecDepth 100000 in
theorem M_angle (a b : Int) (mm : Mm) (o : Int64) : MetX iX10_angle [xi a, xi b] mm o (rto (xi (angC a b)) mm o) := by
  refine MetX.of 1 (by decide +kernel) rfl (Nat.le_of_ble_eq_true rfl) ⟨by decide, by decide⟩ ?_
  intro p l e s m args below meth c Q V D ad A hC hN hok hF
  refine wpx hC tkX10_angle hF [] 100 ?_
  exact ⟨by decide, rfl, rfl, rfl⟩
def seenC (mm : Mm) (i t : Int) : Int := if rd mm 13 i t = 0 then rd mm 12 i t else 0
set_option maxRecDepth 100000 in
theorem M_seeingAt (i t : Int) (mm : Mm) (o : Int64) (h0 : 0 ≤ t) (h1 : t < 720) : MetX iX7_seeingAt [xr 11 i, xi t] mm o (rto (xi (seenC mm i t)) mm o) := by
  refine MetX.of 1 (by decide +kernel) rfl (Nat.le_of_ble_eq_true rfl) ⟨by decide, by decide⟩ ?_
  intro p l e s m args below meth c Q V D ad A hC hN hok hF
  refine wpx hC tkX7_seeingAt hF [] 100 ?_
  refine ⟨⟨h0, h1⟩, fun q => ?_, fun q => ?_⟩
  · sorry
  · sorry
def hgtC (mm : Mm) (i t ra dec : Int) : Int := 90 - jmax (angC (jrem (rd mm 11 i 1 + jdiv t 24 + 5 * jrem t 24) 360) ra) (jabs (dec - rd mm 11 i 0)) - jdiv (jmin (angC (jrem (rd mm 11 i 1 + jdiv t 24 + 5 * jrem t 24) 360) ra) (jabs (dec - rd mm 11 i 0))) 2
set_option maxRecDepth 100000 in
theorem M_heightAt (i t ra dec : Int) (mm : Mm) (o : Int64) : MetX iX7_heightAt [xr 11 i, xi t, xi ra, xi dec] mm o (rto (xi (hgtC mm i t ra dec)) mm o) := by
  refine MetX.of 1 (by decide +kernel) rfl (Nat.le_of_ble_eq_true rfl) ⟨by decide, by decide⟩ ?_
  intro p l e s m args below meth c Q V D ad A hC hN hok hF
  refine wpx hC tkX7_heightAt hF [] 100 ?_
  refine ⟨by decide, by decide, by decide, ?_⟩
  refine Wx.callSN (x := iX7_heightAt) (y := iX10_angle) (avs := [xi _, xi _]) (rest := []) hC hN tkX7_heightAt rfl hN.2 kX10_angle rfl (M_angle _ _ _ _) rfl (by decide) (avi (zs := [_, _])) ?_
  rintro r mm' o' ⟨rfl, rfl, rfl⟩
  refine wpx hC tkX7_heightAt hF [] 100 ?_
  exact ⟨by decide, rfl, rfl, rfl⟩
