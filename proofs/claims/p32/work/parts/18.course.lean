/-! ===== the invariant of a course; a slot ===== -/
def bOK (mm : Mm) (x t : Int) : Prop := rd mm 31 (27 * x + 3 + t) 0 = 0 ∨ (rd mm 31 (27 * x + 3 + t) 0 = 1 ∧ rd mm 31 (27 * x + 3 + t) 1 = t ∧ 0 ≤ rd mm 31 (27 * x + 3 + t) 2 ∧ rd mm 31 (27 * x + 3 + t) 2 ≤ rd mm 18 t 3)
def IC (mm : Mm) (x : Int) : Prop := (∀ u, 0 ≤ u → u < 3 → vOK mm (27 * x + u)) ∧ (∀ t, 0 ≤ t → t < 24 → bOK mm x t) ∧ 0 ≤ rd mm 27 x 1
theorem bOK_of {m m' : Mm} {x t : Int} (h : bOK m x t) (h31 : ∀ j, rd m' 31 (27 * x + 3 + t) j = rd m 31 (27 * x + 3 + t) j) (h18 : ∀ t, rd m' 18 t 3 = rd m 18 t 3) : bOK m' x t := by
  unfold bOK at h ⊢
  simp only [h31, h18]
  exact h
theorem vOK_b {mm : Mm} {x t : Int} (h : bOK mm x t) (t0 : 0 ≤ t) (t1 : t < 24) : vOK mm (27 * x + 3 + t) := by
  rcases h with h | ⟨h1, h2, h3, h4⟩
  · exact vOK_idle h
  · refine ⟨fun _ => ?_, fun _ q => absurd h1 q⟩
    rw [h2]
    exact ⟨t0, t1, h3, h4⟩
theorem IW_of {mm : Mm} {x : Int} (h : IC mm x) : IW mm x := by
  intro t t0 t1 hk
  rcases h.2.1 t t0 t1 with q | ⟨-, -, h3, h4⟩
  · exact absurd q hk
  · exact ⟨h3, h4⟩
/-- one visit changes: v; the course's other visits stay -/
theorem IC_one {m m' : Mm} {x v : Int} (h : IC m x) (hoth : ∀ w j, 27 * x ≤ w → w < 27 * x + 27 → w ≠ v → rd m' 31 w j = rd m 31 w j) (h18 : ∀ t, rd m' 18 t 3 = rd m 18 t 3) (h27 : 0 ≤ rd m' 27 x 1) (hv : (v < 27 * x + 3 → vOK m' v) ∧ (27 * x + 3 ≤ v → bOK m' x (v - 27 * x - 3))) : IC m' x := by
  refine ⟨fun u u0 u1 => ?_, fun t t0 t1 => ?_, h27⟩
  · by_cases e : 27 * x + u = v
    · rw [e]; exact hv.1 (by omega)
    · exact vOK_of (h.1 u u0 u1) (fun j => hoth _ j (by omega) (by omega) e) h18
  · by_cases e : 27 * x + 3 + t = v
    · have := hv.2 (by omega)
      rw [show v - 27 * x - 3 = t by omega] at this
      exact this
    · exact bOK_of (h.2.1 t t0 t1) (fun j => hoth _ j (by omega) (by omega) e) h18
theorem IC_same {m m' : Mm} {x : Int} (h : IC m x) (hoth : ∀ w j, rd m' 31 w j = rd m 31 w j) (h18 : ∀ t, rd m' 18 t 3 = rd m 18 t 3) (h27 : 0 ≤ rd m' 27 x 1) : IC m' x :=
  ⟨fun u u0 u1 => vOK_of (h.1 u u0 u1) (fun j => hoth _ j) h18, fun t t0 t1 => bOK_of (h.2.1 t t0 t1) (fun j => hoth _ j) h18, h27⟩
theorem IC_lose {mm : Mm} {x : Int} (h : IC mm x) (v : Int) : IC (loseC mm x v) x := by
  refine IC_one (v := v) h (fun w j _ _ hw => rd_lose _ _ _ _ _ _ (fun q => hw q.2) (by decide)) (fun t => rd_lose _ _ _ _ _ _ (by omega) (by decide)) ?_ ⟨fun _ => vOK_idle (rd_lose0 _ _ _), fun h3 => Or.inl ?_⟩
  · rw [rd_lose _ _ _ _ _ _ (by omega) (by decide)]; exact h.2.2
  · rw [show 27 * x + 3 + (v - 27 * x - 3) = v by omega]; exact rd_lose0 _ _ _
theorem IC_begin {mm : Mm} {x v kd nm : Int} (h : IC mm x) (hv : v < 27 * x + 3) (hO : vOK (beginC mm v kd nm) v) : IC (beginC mm v kd nm) x := by
  refine IC_one (v := v) h (fun w j _ _ hw => rd_begin _ _ _ _ _ _ _ (fun q => hw q.2)) (fun t => rd_begin _ _ _ _ _ _ _ (by omega)) ?_ ⟨fun _ => hO, fun h3 => absurd hv (by omega)⟩
  rw [rd_begin _ _ _ _ _ _ _ (by omega)]; exact h.2.2
theorem rd_alert (mm : Mm) (x v i : Int) (k : Nat) (a j : Int) (h : ¬ (k = 31 ∧ a = v)) (h2 : k ≠ 32) : rd (alertC mm x v i) k a j = rd mm k a j := by
  unfold alertC
  by_cases hb : alB mm x v i = -1
  · rw [pif_t hb]
  · rw [pif_f hb, rd_begin _ _ _ _ _ _ _ h, rd_lose _ _ _ _ _ _ h h2]
theorem alB_range {mm : Mm} (hI : IA mm) (x v i : Int) : alB mm x v i = -1 ∨ (0 ≤ alB mm x v i ∧ alB mm x v i < 10) := by
  have hc0 := hI.2.2.2.2.2.1
  have hc1 := hI.2.2.2.2.2.2
  rcases srch_range (fun a _ u => alP mm x i a u) (fun a => rd mm 19 a 9) (rd mm 5 0 8).toNat 0 (-1) (pif (rd mm 31 v 0 = 2) (rd mm 19 (rd mm 31 v 1) 9) 0) with h | h
  · exact Or.inl h
  · right; unfold alB; omega
theorem reB_range {mm : Mm} (hI : IA mm) (x i : Int) : reB mm x i = -1 ∨ (0 ≤ reB mm x i ∧ reB mm x i < 24) := by
  have hc0 := hI.2.2.2.2.1.1
  have hc1 := hI.2.2.2.2.1.2
  rcases srch_range (fun t b _ => reP mm x i t b) (fun _ => 0) (rd mm 5 0 7).toNat 0 (-1) 0 with h | h
  · exact Or.inl h
  · right; unfold reB; omega
theorem btB_range {mm : Mm} (hI : IA mm) (x i : Int) : btB mm x i = -1 ∨ (0 ≤ btB mm x i ∧ btB mm x i < 24) := by
  have hc0 := hI.2.2.2.2.1.1
  have hc1 := hI.2.2.2.2.1.2
  rcases srch_range (btP mm x i) (begsC mm x i) (rd mm 5 0 7).toNat 0 (-1) 0 with h | h
  · exact Or.inl h
  · right; unfold btB; omega
theorem IC_alert {mm : Mm} {x v i : Int} (hI : IA mm) (h : IC mm x) (hv : v < 27 * x + 3) : IC (alertC mm x v i) x := by
  unfold alertC
  by_cases hb : alB mm x v i = -1
  · rw [pif_t hb]; exact h
  · rw [pif_f hb]
    have hr := alB_range hI x v i
    refine IC_begin (IC_lose h v) hv ⟨fun q => ?_, fun _ _ => ?_⟩
    · rw [rd_begin0] at q; exact absurd q (by decide)
    · rw [rd_begin0, rd_begin1, wr_of (z := alB mm x v i) (by omega) (by omega)]
      exact ⟨rfl, by omega, by omega⟩
theorem rd_resume (mm : Mm) (x v i : Int) (k : Nat) (a j : Int) (h : k ≠ 31) : rd (resumeC mm x v i) k a j = rd mm k a j := by
  unfold resumeC
  by_cases hb : reB mm x i = -1
  · rw [pif_t hb]
  · rw [pif_f hb, rd_take _ _ _ _ _ _ (fun q => h q.1)]
/-- what the search for a waiting visit finds is one -/
theorem srch_P {P : Int → Int → Int → Prop} {U : Int → Int} (R : Int → Prop) (hR : ∀ a b u, P a b u → R a) : ∀ (n : Nat) (a b u : Int), (b = -1 ∨ R b) → srch P U n a b u = -1 ∨ R (srch P U n a b u)
  | 0, a, b, u, h => h
  | n + 1, a, b, u, h => by
    have e : srch P U (n + 1) a b u = pif (P a b u) (srch P U n (a + 1) a (U a)) (srch P U n (a + 1) b u) := rfl
    rw [e]
    by_cases hp : P a b u
    · rw [pif_t hp]; exact srch_P R hR n _ _ _ (Or.inr (hR _ _ _ hp))
    · rw [pif_f hp]; exact srch_P R hR n _ _ _ h
theorem reB_wait (mm : Mm) (x i : Int) : reB mm x i = -1 ∨ ¬ rd mm 31 (27 * x + 3 + reB mm x i) 0 = 0 :=
  srch_P (fun t => ¬ rd mm 31 (27 * x + 3 + t) 0 = 0) (fun a b u h => h.1) _ _ _ _ (Or.inl rfl)
theorem IC_resume {mm : Mm} {x v i : Int} (hI : IA mm) (h : IC mm x) (hv0 : 27 * x ≤ v) (hv : v < 27 * x + 3) : IC (resumeC mm x v i) x := by
  unfold resumeC
  by_cases hb : reB mm x i = -1
  · rw [pif_t hb]; exact h
  · rw [pif_f hb]
    have hr := reB_range hI x i
    have hw : ¬ rd mm 31 (27 * x + 3 + reB mm x i) 0 = 0 := (reB_wait mm x i).elim (fun q => absurd q hb) id
    generalize reB mm x i = t at hb hr hw
    have hbt := h.2.1 t (by omega) (by omega)
    have hne : v ≠ 27 * x + 3 + t := by omega
    have r18 : ∀ t', rd (takeC mm v (27 * x + 3 + t)) 18 t' 3 = rd mm 18 t' 3 := fun t' => rd_take _ _ _ _ _ _ (by omega)
    refine ⟨fun u u0 u1 => ?_, fun t' t0 t1 => ?_, ?_⟩
    · by_cases e : 27 * x + u = v
      · rw [e]
        rcases hbt with q | ⟨k1, k2, k3, k4⟩
        · exact absurd q hw
        · refine ⟨fun _ => ?_, fun _ q => ?_⟩
          · rw [rd_takeV _ _ _ hne 1 (by omega), rd_takeV _ _ _ hne 2 (by omega), r18, k2]
            exact ⟨by omega, by omega, k3, k4⟩
          · rw [rd_takeV _ _ _ hne 0 (by omega)] at q; exact absurd k1 q
      · exact vOK_of (h.1 u u0 u1) (fun j => rd_take _ _ _ _ _ _ (by omega)) r18
    · by_cases e : t' = t
      · rw [e]; exact Or.inl (rd_takeW _ _ _)
      · exact bOK_of (h.2.1 t' t0 t1) (fun j => rd_take _ _ _ _ _ _ (by omega)) r18
    · rw [rd_take _ _ _ _ _ _ (by omega)]; exact h.2.2
theorem rd_target (mm : Mm) (x v i : Int) (k : Nat) (a j : Int) (h : ¬ (k = 31 ∧ a = v)) : rd (targetC mm x v i) k a j = rd mm k a j := by
  unfold targetC
  by_cases hb : btB mm x i = -1
  · rw [pif_t hb]
  · rw [pif_f hb, rd_begin _ _ _ _ _ _ _ h]
theorem IC_target {mm : Mm} {x v i : Int} (hI : IA mm) (h : IC mm x) (hv : v < 27 * x + 3) : IC (targetC mm x v i) x := by
  unfold targetC
  by_cases hb : btB mm x i = -1
  · rw [pif_t hb]; exact h
  · rw [pif_f hb]
    have hr := btB_range hI x i
    have hl := (hI.1 (btB mm x i) (by omega) (by omega)).2.1
    refine IC_begin h hv ⟨fun _ => ?_, fun _ q => ?_⟩
    · rw [rd_begin1, rd_begin2, wr_of (z := btB mm x i) (by omega) (by omega), rd_begin _ _ _ _ _ _ _ (by omega)]
      exact ⟨by omega, by omega, by omega, hl.1⟩
    · rw [rd_begin0] at q; exact absurd rfl q
theorem rd_break (mm : Mm) (x v : Int) (k : Nat) (a j : Int) (h : k ≠ 31) (h2 : k ≠ 32) : rd (breakC mm x v) k a j = rd mm k a j := by
  unfold breakC
  by_cases hk : rd mm 31 v 0 = 1
  · rw [pif_t hk, rd_st_ne h, rd_take _ _ _ _ _ _ (fun q => h q.1)]
  · rw [pif_f hk, rd_lose _ _ _ _ _ _ (fun q => h q.1) h2]
theorem IC_break {mm : Mm} {x v : Int} (hI : IA mm) (h : IC mm x) (hv0 : 27 * x ≤ v) (hv : v < 27 * x + 3) : IC (breakC mm x v) x := by
  unfold breakC
  by_cases hk : rd mm 31 v 0 = 1
  · rw [pif_t hk]
    have hO := h.1 (v - 27 * x) (by omega) (by omega)
    rw [show 27 * x + (v - 27 * x) = v by omega] at hO
    obtain ⟨n0, n1, h0, h1⟩ := hO.1 hk
    generalize ht : rd mm 31 v 1 = t at *
    have hne : 27 * x + 3 + t ≠ v := by omega
    have r1 : ∀ (k : Nat) (a j : Int), ¬ (k = 31 ∧ (a = 27 * x + 3 + t ∨ a = v)) → rd (st (takeC mm (27 * x + 3 + t) v) 31 (27 * x + 3 + t) 4 (wr (rd (takeC mm (27 * x + 3 + t) v) 26 x 8))) k a j = rd mm k a j := by
      intro k a j hn
      rw [rd_st, if_neg (fun q => hn ⟨q.1, Or.inl q.2.1⟩), rd_take _ _ _ _ _ _ hn]
    have r2 : ∀ j, (j = 0 ∨ j = 1 ∨ j = 2) → rd (st (takeC mm (27 * x + 3 + t) v) 31 (27 * x + 3 + t) 4 (wr (rd (takeC mm (27 * x + 3 + t) v) 26 x 8))) 31 (27 * x + 3 + t) j = rd mm 31 v j := by
      intro j hj
      rw [rd_st, if_neg (by omega), rd_takeV _ _ _ hne j (by omega)]
    have r3 : rd (st (takeC mm (27 * x + 3 + t) v) 31 (27 * x + 3 + t) 4 (wr (rd (takeC mm (27 * x + 3 + t) v) 26 x 8))) 31 v 0 = 0 := by
      rw [rd_st, if_neg (by omega), rd_takeW]
    have r18 : ∀ t', rd (st (takeC mm (27 * x + 3 + t) v) 31 (27 * x + 3 + t) 4 (wr (rd (takeC mm (27 * x + 3 + t) v) 26 x 8))) 18 t' 3 = rd mm 18 t' 3 := fun t' => r1 _ _ _ (by omega)
    refine ⟨fun u u0 u1 => ?_, fun t' t0 t1 => ?_, ?_⟩
    · by_cases e : 27 * x + u = v
      · rw [e]; exact vOK_idle r3
      · exact vOK_of (h.1 u u0 u1) (fun j => r1 _ _ _ (by omega)) r18
    · by_cases e : t' = t
      · rw [e]
        refine Or.inr ⟨by rw [r2 0 (by omega)]; exact hk, by rw [r2 1 (by omega)]; exact ht, by rw [r2 2 (by omega)]; exact h0, by rw [r2 2 (by omega), r18]; exact h1⟩
      · exact bOK_of (h.2.1 t' t0 t1) (fun j => r1 _ _ _ (by omega)) r18
    · rw [r1 _ _ _ (by omega)]; exact h.2.2
  · rw [pif_f hk]; exact IC_lose h v
theorem rd_obsv (mm : Mm) (x v s : Int) (k : Nat) (i j : Int) (h : finS k) (h31 : ¬ (k = 31 ∧ i = v)) (h26 : ¬ (k = 26 ∧ j = 9)) : rd (obsvC mm x v s) k i j = rd mm k i j := by
  unfold obsvC
  by_cases hq : rd (ob2 (ob1 mm v) x v s) 31 v 2 < aimF (ob2 (ob1 mm v) x v s) v 3
  · rw [pif_t hq, rd_ob _ _ _ _ _ _ _ (fun q => h31 ⟨q.1, q.2.1⟩)]
  · rw [pif_f hq, rd_fin _ _ _ _ _ _ _ h h31 h26, rd_ob _ _ _ _ _ _ _ (fun q => h31 ⟨q.1, q.2.1⟩)]
theorem keep_count (mm : Mm) (x v s t q g u : Int) (c0 : 0 ≤ rd mm 27 x 1) : 0 ≤ rd (keepC mm x v s t q g u) 27 x 1 := by
  unfold keepC
  by_cases h : rd mm 27 x 1 < 100
  · rw [pif_t h]
    unfold kpn
    rw [rd_st, if_pos ⟨rfl, rfl, rfl⟩, wr_wr]
    have e : rd (kpC (kpC (kpC (kpC (kpC (kp2 (kp1 mm x v (rd mm 27 x 1 * 7)) x v (rd mm 27 x 1 * 7)) x (rd mm 27 x 1 * 7) 2 s) x (rd mm 27 x 1 * 7) 3 t) x (rd mm 27 x 1 * 7) 4 q) x (rd mm 27 x 1 * 7) 5 (pif (wr g = 0) 0 1)) x (rd mm 27 x 1 * 7) 6 u) 27 x 1 = rd mm 27 x 1 := by
      unfold kpC kp2 kp1
      rw [rd_st_ne (by decide), rd_st_ne (by decide), rd_st_ne (by decide), rd_st_ne (by decide), rd_st_ne (by decide), rd_st_ne (by decide), rd_st_ne (by decide)]
    rw [e, wr_of (by omega) (by omega)]; omega
  · rw [pif_f h]; exact c0
theorem fin_count (mm : Mm) (x v s : Int) (c0 : 0 ≤ rd mm 27 x 1) : 0 ≤ rd (finC mm x v s) 27 x 1 := by
  have h1 := keep_count mm x v s (rd mm 26 x 8) (finQ mm x v s) (finG mm x v s) (finU mm x v s) c0
  unfold finC fin4
  rw [rd_begin _ _ _ _ _ _ _ (by omega), rd_st_ne (by decide)]
  have e2 : rd (fin2 mm (fin1 mm x v s) x v) 27 x 1 = rd (fin1 mm x v s) 27 x 1 := rd_st_ne (by decide)
  have e3 : 0 ≤ rd (fin2 mm (fin1 mm x v s) x v) 27 x 1 := by rw [e2]; exact h1
  generalize fin2 mm (fin1 mm x v s) x v = m2 at e3
  unfold fin3
  by_cases q2 : rd m2 31 v 0 = 2
  · rw [pif_t q2, rd_st_ne (by decide)]; exact e3
  · rw [pif_f q2]
    by_cases qg : finG mm x v s = 0
    · rw [pif_t qg]; exact e3
    · rw [pif_f qg, rd_add _ _ _ _ _ _ _ (by decide)]; exact e3
theorem IC_obsv {mm : Mm} {x v i : Int} (h : IC mm x) (hI : IA mm) (hv0 : 27 * x ≤ v) (hv : v < 27 * x + 3) : IC (obsvC mm x v i) x := by
  have hO := h.1 (v - 27 * x) (by omega) (by omega)
  rw [show 27 * x + (v - 27 * x) = v by omega] at hO
  unfold obsvC
  by_cases hq : rd (ob2 (ob1 mm v) x v i) 31 v 2 < aimF (ob2 (ob1 mm v) x v i) v 3
  · rw [pif_t hq]
    refine IC_one (v := v) h (fun w j _ _ hw => rd_ob _ _ _ _ _ _ _ (by omega)) (fun t => rd_ob _ _ _ _ _ _ _ (by omega)) (by rw [rd_ob _ _ _ _ _ _ _ (by omega)]; exact h.2.2) ⟨fun _ => ?_, fun h3 => absurd hv (by omega)⟩
    rw [aimF_ob, rd_ob2] at hq
    refine ⟨fun k1 => ?_, fun k0 k1 => ?_⟩
    · rw [rd_ob _ _ _ _ _ _ _ (by omega)] at k1
      obtain ⟨n0, n1, h0, h1⟩ := hO.1 k1
      rw [rd_ob _ _ _ _ 31 v 1 (by omega), rd_ob2, rd_ob _ _ _ _ _ _ _ (by omega)]
      rw [show aimF mm v 3 = _ from pif_t k1] at hq
      have hl := (hI.1 _ n0 n1).2.1
      rw [wr_of (z := rd mm 31 v 2 + 1) (by omega) (by omega)] at hq ⊢
      exact ⟨n0, n1, by omega, by omega⟩
    · rw [rd_ob _ _ _ _ _ _ _ (by omega)] at k0 k1
      rw [rd_ob _ _ _ _ 31 v 0 (by omega), rd_ob _ _ _ _ 31 v 1 (by omega)]
      exact hO.2 k0 k1
  · rw [pif_f hq]
    refine IC_one (v := v) h (fun w j _ _ hw => ?_) (fun t => ?_) (fin_count _ _ _ _ ?_) ⟨fun _ => vOK_idle (rd_fin0 _ _ _ _), fun h3 => absurd hv (by omega)⟩
    · rw [rd_fin _ _ _ _ _ _ _ (by unfold finS; decide) (by omega) (by omega), rd_ob _ _ _ _ _ _ _ (by omega)]
    · rw [rd_fin _ _ _ _ _ _ _ (by unfold finS; decide) (by omega) (by omega), rd_ob _ _ _ _ _ _ _ (by omega)]
    · rw [rd_ob _ _ _ _ _ _ _ (by omega)]; exact h.2.2
