/-! ===== what holds of an object; run, replay ===== -/
/-- the cells of a course, and the plan -/
def dep (x : Int) (k : Nat) (i : Int) : Prop := (5 ≤ k ∧ k < 20) ∨ (20 ≤ k ∧ k ≤ 25 ∧ i = 30 + x) ∨ ((k = 26 ∨ k = 27 ∨ k = 28 ∨ k = 32 ∨ k = 33 ∨ k = 34) ∧ i = x) ∨ (k = 31 ∧ 27 * x ≤ i ∧ i < 27 * x + 27)
theorem IC_dep {a a' : Mm} {x : Int} (h : IC a x) (h31 : ∀ w j, 27 * x ≤ w → w < 27 * x + 27 → rd a' 31 w j = rd a 31 w j) (h18 : ∀ t, rd a' 18 t 3 = rd a 18 t 3) (h27 : rd a' 27 x 1 = rd a 27 x 1) : IC a' x :=
  ⟨fun u u0 u1 => vOK_of (h.1 u u0 u1) (fun j => h31 _ j (by omega) (by omega)) h18, fun t t0 t1 => bOK_of (h.2.1 t t0 t1) (fun j => h31 _ j (by omega) (by omega)) h18, by rw [h27]; exact h.2.2⟩
theorem PX_dep {a a' : Mm} (h : PX a) (hk : ∀ (k : Nat) (i j : Int), k = 5 ∨ k = 12 ∨ k = 17 ∨ k = 18 → rd a' k i j = rd a k i j) : PX a' := by
  unfold PX at h ⊢
  simp only [hk 18 _ _ (by decide), hk 12 _ _ (by decide), hk 17 _ _ (by decide), hk 5 _ _ (by decide)]
  exact h
theorem UQ_dep {a a' : Mm} {x : Int} (h : UQ a x) (ho : ∀ w j, 27 * x ≤ w → w < 27 * x + 27 → rd a' 31 w j = rd a 31 w j) : UQ a' x := by
  refine ⟨fun s t s0 s1 t0 t1 hk hn => ?_, fun s s' s0 s1 q0 q1 hne hk hk' => ?_⟩
  · rw [ho _ _ (by omega) (by omega)] at hk hn ⊢
    exact h.1 s t s0 s1 t0 t1 hk hn
  · rw [ho _ _ (by omega) (by omega)] at hk hk'
    rw [ho _ _ (by omega) (by omega), ho _ _ (by omega) (by omega)]
    exact h.2 s s' s0 s1 q0 q1 hne hk hk'
theorem VV_dep {a a' : Mm} {x : Int} (h : VV a x) (ho : ∀ w j, 27 * x ≤ w → w < 27 * x + 27 → rd a' 31 w j = rd a 31 w j) (h5 : rd a 5 0 7 ≤ rd a' 5 0 7) : VV a' x := fun v v0 v1 => by
  have h9 := h v v0 v1
  unfold VW at h9 ⊢
  rw [ho _ _ v0 v1, ho _ _ v0 v1, ho _ _ v0 v1, ho _ _ v0 v1]
  exact ⟨h9.1, h9.2.1, fun q => by have := h9.2.2.1 q; omega, h9.2.2.2⟩
theorem TOT_dep {a a' : Mm} {x : Int} (ho : ∀ w j, 27 * x ≤ w → w < 27 * x + 27 → rd a' 31 w j = rd a 31 w j) (h25 : ∀ g, rd a' 25 (30 + x) g = rd a 25 (30 + x) g) (h32 : ∀ g, rd a' 32 x g = rd a 32 x g) (h33 : ∀ g, rd a' 33 x g = rd a 33 x g) (h34 : ∀ g, rd a' 34 x g = rd a 34 x g) : TOT a' x = TOT a x :=
  TOT_vis h25 h32 h33 h34 (sm_congr 27 (fun v _ _ => ho _ _ (by omega) (by omega)))
theorem JC_of {a a' : Mm} {x N : Int} (h : JC a x N) (ro : ∀ (k : Nat) i j, dep x k i → rd a' k i j = rd a k i j) : JC a' x N := by
  obtain ⟨⟨hI, hC, hNN, hV, hU, hT⟩, hP, hD⟩ := h
  have r31 : ∀ w j, 27 * x ≤ w → w < 27 * x + 27 → rd a' 31 w j = rd a 31 w j := fun w j w0 w1 => ro _ _ _ (by unfold dep; omega)
  have r20 : ∀ (k : Nat) i j, 5 ≤ k → k < 20 → rd a' k i j = rd a k i j := fun k i j h1 h2 => ro _ _ _ (by unfold dep; omega)
  have rx : ∀ (k : Nat) j, (k = 26 ∨ k = 27 ∨ k = 28 ∨ k = 32 ∨ k = 33 ∨ k = 34) → rd a' k x j = rd a k x j := fun k j h1 => ro _ _ _ (by unfold dep; omega)
  have rb : ∀ (k : Nat) j, 20 ≤ k → k ≤ 25 → rd a' k (30 + x) j = rd a k (30 + x) j := fun k j h1 h2 => ro _ _ _ (by unfold dep; omega)
  refine ⟨⟨IA_of4 hI (fun k i j e => r20 _ _ _ (by omega) (by omega)), IC_dep hC r31 (fun t => r20 _ _ _ (by decide) (by decide)) (rx _ _ (by decide)), NN_vis hNN (fun g => rb _ _ (by decide) (by decide)) (fun g => rx _ _ (by decide)) (fun g => rx _ _ (by decide)) (fun g => rx _ _ (by decide)), VV_dep hV r31 (Int.le_of_eq (r20 _ _ _ (by decide) (by decide)).symm), UQ_dep hU r31, ?_⟩, PX_dep hP (fun k i j e => r20 _ _ _ (by omega) (by omega)), DA_of hD (r20 _ _ _ (by decide) (by decide)) (fun t => rb _ _ (by decide) (by decide)) (rx _ _ (by decide)) (fun z => rx _ _ (by decide))⟩
  rw [TOT_dep r31 (fun g => rb _ _ (by decide) (by decide)) (fun g => rx _ _ (by decide)) (fun g => rx _ _ (by decide)) (fun g => rx _ _ (by decide))]
  exact hT
/-- course 1, between replays -/
def ID1 (a : Mm) : Prop := (∀ v, 27 ≤ v → v < 54 → rd a 31 v 0 = 0) ∧ 0 ≤ rd a 27 1 1
theorem ID1_IC {a : Mm} (h : ID1 a) : IC a 1 :=
  ⟨fun u u0 u1 => vOK_idle (h.1 _ (by omega) (by omega)), fun t t0 t1 => Or.inl (h.1 _ (by omega) (by omega)), h.2⟩
def JV (a : Mm) : Prop := JC a 0 (3 * rd a 26 0 8) ∧ ID1 a ∧ 0 ≤ rd a 26 0 8 ∧ rd a 26 0 8 ≤ 720
theorem JV_of {a a' : Mm} (h : JV a) (ro : ∀ (k : Nat) i j, dep 0 k i ∨ dep 1 k i → rd a' k i j = rd a k i j) : JV a' := by
  obtain ⟨h1, ⟨h2, h3⟩, h4, h5⟩ := h
  have e : rd a' 26 0 8 = rd a 26 0 8 := ro _ _ _ (by unfold dep; omega)
  refine ⟨by rw [e]; exact JC_of h1 (fun k i j q => ro k i j (Or.inl q)), ⟨fun v v0 v1 => ?_, ?_⟩, by rw [e]; exact h4, by rw [e]; exact h5⟩
  · rw [ro _ _ _ (by unfold dep; omega)]; exact h2 v v0 v1
  · rw [ro _ _ _ (by unfold dep; omega)]; exact h3
theorem runB_o {a : Mm} (w0 : 0 ≤ rd a 26 0 8) (w1 : rd a 26 0 8 < 720) (k : Nat) (i j : Int) (h : dep 0 k i ∨ dep 1 k i) : rd (runB a) k i j = rd a k i j := by
  unfold runB
  by_cases q : jrem (rd a 26 0 8) 24 = 0
  · rw [pif_t q]
    have e : jdiv (rd a 26 0 8) 24 = rd a 26 0 8 / 24 := jdiv24 w0 (by omega)
    unfold dep at h
    exact cf_o _ _ _ (by omega) _ _ _ (by omega)
  · rw [pif_f q]
theorem JV_runS {a : Mm} (h : JV a) (hw : rd a 26 0 8 < 720) : JV (runS a) ∧ rd (runS a) 26 0 8 = rd a 26 0 8 + 1 ∧ ∀ (k : Nat) i j, 5 ≤ k → k < 20 → rd (runS a) k i j = rd a k i j := by
  have ro := fun k i j hd => runB_o h.2.2.1 hw k i j hd
  have hB : JV (runB a) := JV_of h ro
  have e26 : rd (runB a) 26 0 8 = rd a 26 0 8 := ro _ _ _ (by unfold dep; omega)
  have hI := hB.1.1.1
  have hC := hB.1.1.2.1
  obtain ⟨-, -, e8⟩ := slot_keep hI hC (by rw [e26]; exact h.2.2.1) (by rw [e26]; exact hw)
  have hx := fun k i j ho => rdx_slot (x := 0) hI hC k i j ho
  have hS := JC_slot hB.1 (by rw [e26]; omega) (by rw [e26]; exact h.2.2.1) (by rw [e26]; exact hw)
  have e9 : rd (runS a) 26 0 8 = rd a 26 0 8 + 1 := e8.trans (by rw [e26])
  refine ⟨⟨?_, ⟨fun v v0 v1 => ?_, ?_⟩, by rw [e9]; have := h.2.2.1; omega, by rw [e9]; omega⟩, e9, fun k i j h5 h20 => ?_⟩
  · rw [e9, show 3 * (rd a 26 0 8 + 1) = 3 * rd (runB a) 26 0 8 + 3 by rw [e26]; omega]
    exact hS
  · show rd (slotC (runB a) 0) 31 v 0 = 0
    rw [hx _ _ _ (by unfold oth; omega)]
    exact hB.2.1.1 v v0 v1
  · show 0 ≤ rd (slotC (runB a) 0) 27 1 1
    rw [hx _ _ _ (by unfold oth; omega)]
    exact hB.2.1.2
  · show rd (slotC (runB a) 0) k i j = _
    rw [hx _ _ _ (by unfold oth; omega), ro _ _ _ (by unfold dep; omega)]
theorem JV_runM : ∀ (n : Nat) {a : Mm}, JV a → JV (runM n a) ∧ rd a 26 0 8 ≤ rd (runM n a) 26 0 8 ∧ ∀ (k : Nat) i j, 5 ≤ k → k < 20 → rd (runM n a) k i j = rd a k i j
  | 0, a, h => ⟨h, Int.le_refl _, fun _ _ _ _ _ => rfl⟩
  | n + 1, a, h => by
    show JV (pif (rd a 26 0 8 < 720) (runM n (runS a)) a) ∧ rd a 26 0 8 ≤ rd (pif (rd a 26 0 8 < 720) (runM n (runS a)) a) 26 0 8 ∧ ∀ (k : Nat) i j, 5 ≤ k → k < 20 → rd (pif (rd a 26 0 8 < 720) (runM n (runS a)) a) k i j = rd a k i j
    by_cases q : rd a 26 0 8 < 720
    · rw [pif_t q]
      obtain ⟨h1, h2, h3⟩ := JV_runS h q
      obtain ⟨g1, g2, g3⟩ := JV_runM n h1
      exact ⟨g1, by omega, fun k i j h5 h20 => (g3 k i j h5 h20).trans (h3 k i j h5 h20)⟩
    · rw [pif_f q]; exact ⟨h, Int.le_refl _, fun _ _ _ _ _ => rfl⟩
theorem run_now {a : Mm} (h : JV a) (n : Nat) : 1 ≤ rd (runM (n + 1) a) 26 0 8 := by
  show 1 ≤ rd (pif (rd a 26 0 8 < 720) (runM n (runS a)) a) 26 0 8
  by_cases q : rd a 26 0 8 < 720
  · rw [pif_t q]
    obtain ⟨h1, h2, -⟩ := JV_runS h q
    have h3 := (JV_runM n h1).2.1
    have h4 := h.2.2.1
    omega
  · rw [pif_f q]; omega
/-- the slots of a replay -/
theorem slotN_keep : ∀ (n : Nat) {a : Mm} {t : Int}, IA a → IC a 1 → rd a 26 1 8 = t → 0 ≤ t → t + n ≤ 720 → IC (slotN 1 n a) 1 ∧ ∀ (k : Nat) i j, oth 1 k i → rd (slotN 1 n a) k i j = rd a k i j
  | 0, a, t, _, h, _, _, _ => ⟨h, fun _ _ _ _ => rfl⟩
  | n + 1, a, t, hI, hC, h8, t0, t1 => by
    obtain ⟨g1, g2, g3⟩ := slot_keep hI hC (by omega) (by omega)
    obtain ⟨f1, f2⟩ := slotN_keep n (t := t + 1) g1 g2 (by omega) (by omega) (by omega)
    exact ⟨f1, fun k i j ho => (f2 k i j ho).trans (rdx_slot hI hC k i j ho)⟩
theorem lose_k {a : Mm} {x v w : Int} (h : rd a 31 w 0 = 0) : rd (loseC a x v) 31 w 0 = 0 := by
  by_cases e : w = v
  · rw [e]; exact rd_lose0 _ _ _
  · rw [rd_lose _ _ _ _ _ _ (fun q => e q.2) (by decide)]; exact h
theorem fori_lose {x : Int} : ∀ (n : Nat) (c : Int) (m : Mm), (∀ t, 0 ≤ t → t < c → rd m 31 (27 * x + 3 + t) 0 = 0) → 0 ≤ c → (∀ t, 0 ≤ t → t < c + n → rd (fori (fun t m => loseC m x (27 * x + 3 + t)) n c m) 31 (27 * x + 3 + t) 0 = 0) ∧ ∀ w, rd m 31 w 0 = 0 → rd (fori (fun t m => loseC m x (27 * x + 3 + t)) n c m) 31 w 0 = 0
  | 0, c, m, h, _ => ⟨fun t t0 t1 => h t t0 (by omega), fun w hw => hw⟩
  | n + 1, c, m, h, c0 => by
    have h9 := fori_lose n (c + 1) (loseC m x (27 * x + 3 + c)) (fun t t0 t1 => by
      by_cases e : t = c
      · rw [e]; exact rd_lose0 _ _ _
      · exact lose_k (h t t0 (by omega))) (by omega)
    exact ⟨fun t t0 t1 => h9.1 t t0 (by omega), fun w hw => h9.2 w (lose_k hw)⟩
theorem en_idle (a : Mm) (x : Int) : ∀ v, 27 * x ≤ v → v < 27 * x + 27 → rd (enC a x) 31 v 0 = 0 := fun v v0 v1 => by
  unfold enC
  have h := fori_lose (x := x) 24 0 (loseC (loseC (loseC a x (27 * x + 0)) x (27 * x + (0 + 1))) x (27 * x + (0 + 1 + 1))) (fun t t0 t1 => absurd t1 (by omega)) (Int.le_refl _)
  by_cases q : v < 27 * x + 3
  · refine h.2 v ?_
    rcases (show v = 27 * x + 0 ∨ v = 27 * x + (0 + 1) ∨ v = 27 * x + (0 + 1 + 1) by omega) with e | e | e
    · rw [e]; exact lose_k (lose_k (rd_lose0 _ _ _))
    · rw [e]; exact lose_k (rd_lose0 _ _ _)
    · rw [e]; exact rd_lose0 _ _ _
  · have := h.1 (v - 27 * x - 3) (by omega) (by omega)
    rw [show 27 * x + 3 + (v - 27 * x - 3) = v by omega] at this
    exact this
theorem slotN_last : ∀ (n : Nat) {a : Mm} {t : Int}, IA a → IC a 1 → rd a 26 1 8 = t → 0 ≤ t → t + (n + 1 : Nat) ≤ 720 → (t + (n + 1 : Nat)) % 24 = 0 → ∀ v, 27 ≤ v → v < 54 → rd (slotN 1 (n + 1) a) 31 v 0 = 0
  | 0, a, t, hI, hC, h8, t0, t1, h24 => fun v v0 v1 => by
    show rd (slotC a 1) 31 v 0 = 0
    have e : rd (sitesC a 1) 26 1 8 = t := by
      unfold sitesC
      rw [rd_site _ _ _ _ _ _ lv268, rd_site _ _ _ _ _ _ lv268, rd_site _ _ _ _ _ _ lv268]
      exact h8
    have e2 : rd (tick (sitesC a 1) 1) 26 1 8 = t + 1 := by
      unfold tick
      rw [rd_st, if_pos ⟨rfl, rfl, rfl⟩, wr_wr, e]
      exact wr_of (by omega) (by omega)
    unfold slotC
    rw [pif_t (by rw [e2, jrem24 (by omega) (by omega)]; omega)]
    exact en_idle _ _ v (by omega) (by omega)
  | n + 1, a, t, hI, hC, h8, t0, t1, h24 => by
    obtain ⟨g1, g2, g3⟩ := slot_keep hI hC (by omega) (by omega)
    exact slotN_last n (t := t + 1) g1 g2 (by omega) (by omega) (by omega) (by omega)
theorem JV_rep {a : Mm} (h : JV a) {n : Int} (n0 : 0 ≤ n) (n1 : n < 30) : JV (repM a n) ∧ ∀ (k : Nat) i j, oth 1 k i → rd (repM a n) k i j = rd a k i j := by
  have hI : IA (resC a 1 n n) := IA_of h.1.1.1 (fun k i j hk => res_o a n n0 n1 k i j (by unfold oth; omega))
  have h31 : ∀ w j, rd (resC a 1 n n) 31 w j = rd a 31 w j := fun w j => rd_res31 _ _ _ _ _ _
  have hC : IC (resC a 1 n n) 1 := ID1_IC ⟨fun v v0 v1 => by rw [h31]; exact h.2.1.1 v v0 v1, by rw [rd_res27]; decide⟩
  have h8 : rd (resC a 1 n n) 26 1 8 = n * 24 := rd_res8 _ _ _ _ n0 n1
  obtain ⟨f1, f2⟩ := slotN_keep 24 hI hC h8 (by omega) (by omega)
  have f3 := slotN_last 23 hI hC h8 (by omega) (by omega) (by omega)
  have ro : ∀ (k : Nat) i j, oth 1 k i → rd (repM a n) k i j = rd a k i j := fun k i j ho => (f2 k i j ho).trans (res_o a n n0 n1 k i j ho)
  have e : rd (repM a n) 26 0 8 = rd a 26 0 8 := ro _ _ _ (by unfold oth; omega)
  refine ⟨⟨?_, ⟨f3, f1.2.2⟩, by rw [e]; exact h.2.2.1, by rw [e]; exact h.2.2.2⟩, ro⟩
  rw [e]
  exact JC_of h.1 (fun k i j hd => ro k i j (by unfold dep at hd; unfold oth; omega))
