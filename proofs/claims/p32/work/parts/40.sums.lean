/-! ===== sums; what holds of a course ===== -/
def sm (f : Int → Int) : Nat → Int
  | 0 => 0
  | n + 1 => sm f n + f (n : Int)
theorem sm_congr {f g : Int → Int} : ∀ n : Nat, (∀ i : Int, 0 ≤ i → i < (n : Int) → f i = g i) → sm f n = sm g n
  | 0, _ => rfl
  | n + 1, h => by
    show sm f n + f n = sm g n + g n
    rw [sm_congr n (fun i h0 h1 => h i h0 (by omega)), h n (by omega) (by omega)]
theorem sm_upd {f g : Int → Int} {v : Int} : ∀ n : Nat, (∀ i : Int, 0 ≤ i → i < (n : Int) → i ≠ v → g i = f i) → 0 ≤ v → v < (n : Int) → sm g n = sm f n - f v + g v
  | 0, _, h0, h1 => by omega
  | n + 1, h, h0, h1 => by
    show sm g n + g n = sm f n + f n - f v + g v
    by_cases e : v = (n : Int)
    · rw [sm_congr (f := g) (g := f) n (fun i i0 i1 => h i i0 (by omega) (by omega)), e]; omega
    · rw [sm_upd n (fun i i0 i1 hi => h i i0 (by omega) hi) h0 (by omega), h n (by omega) (by omega) (by omega)]; omega
theorem sm_nn {f : Int → Int} : ∀ n : Nat, (∀ i : Int, 0 ≤ i → i < (n : Int) → 0 ≤ f i) → 0 ≤ sm f n
  | 0, _ => Int.le_refl _
  | n + 1, h => by
    have h1 := sm_nn n (fun i i0 i1 => h i i0 (by omega))
    have h2 := h n (by omega) (by omega)
    show 0 ≤ sm f n + f n
    omega
theorem sm_le {f : Int → Int} {v : Int} : ∀ n : Nat, (∀ i : Int, 0 ≤ i → i < (n : Int) → 0 ≤ f i) → 0 ≤ v → v < (n : Int) → f v ≤ sm f n
  | 0, _, h0, h1 => by omega
  | n + 1, h, h0, h1 => by
    show f v ≤ sm f n + f n
    by_cases e : v = (n : Int)
    · have h2 := sm_nn n (fun i i0 i1 => h i i0 (by omega))
      rw [e]; omega
    · have h2 := sm_le n (fun i i0 i1 => h i i0 (by omega)) h0 (by omega)
      have h3 := h n (by omega) (by omega)
      omega
theorem sm_add (f : Int → Int) (m : Nat) : ∀ n : Nat, sm f (m + n) = sm f m + sm (fun i => f ((m : Int) + i)) n
  | 0 => (Int.add_zero _).symm
  | n + 1 => by
    show sm f (m + n) + f ((m + n : Nat) : Int) = sm f m + (sm (fun i => f ((m : Int) + i)) n + f ((m : Int) + (n : Int)))
    rw [sm_add f m n, show ((m + n : Nat) : Int) = (m : Int) + (n : Int) by omega]
    omega
def NN (a : Mm) (x : Int) : Prop := (∀ g, 0 ≤ g → g < 4 → 0 ≤ rd a 25 (30 + x) g ∧ 0 ≤ rd a 32 x g) ∧ (∀ s, 0 ≤ s → s < 3 → 0 ≤ rd a 33 x s ∧ 0 ≤ rd a 34 x s)
/-- a visit -/
def VW (a : Mm) (v : Int) : Prop := 0 ≤ rd a 31 v 2 ∧ (rd a 31 v 0 = 0 → rd a 31 v 2 = 0) ∧ (rd a 31 v 0 = 1 → rd a 31 v 1 < rd a 5 0 7) ∧ 0 ≤ rd a 31 v 3 ∧ rd a 31 v 3 ≤ 50
def VV (a : Mm) (x : Int) : Prop := ∀ v, 27 * x ≤ v → v < 27 * x + 27 → VW a v
/-- no target is observed twice, or waits while it is observed -/
def UQ (a : Mm) (x : Int) : Prop := (∀ s t, 0 ≤ s → s < 3 → 0 ≤ t → t < 24 → rd a 31 (27 * x + s) 0 = 1 → rd a 31 (27 * x + s) 1 = t → rd a 31 (27 * x + 3 + t) 0 = 0) ∧ (∀ s s', 0 ≤ s → s < 3 → 0 ≤ s' → s' < 3 → s ≠ s' → rd a 31 (27 * x + s) 0 = 1 → rd a 31 (27 * x + s') 0 = 1 → ¬ rd a 31 (27 * x + s) 1 = rd a 31 (27 * x + s') 1)
/-- all slots of the sites -/
def TOT (a : Mm) (x : Int) : Int := sm (fun g => rd a 25 (30 + x) g) 4 + sm (fun g => rd a 32 x g) 4 + sm (fun s => rd a 33 x s) 3 + sm (fun s => rd a 34 x s) 3 + sm (fun v => rd a 31 (27 * x + v) 2) 27
def CJ (a : Mm) (x N : Int) : Prop := IA a ∧ IC a x ∧ NN a x ∧ VV a x ∧ UQ a x ∧ TOT a x = N
theorem VV_one {a a' : Mm} {x v : Int} (h : VV a x) (ho : ∀ w j, w ≠ v → rd a' 31 w j = rd a 31 w j) (h5 : rd a' 5 0 7 = rd a 5 0 7) (hv : VW a' v) : VV a' x := fun w w0 w1 => by
  by_cases e : w = v
  · rw [e]; exact hv
  · have h9 := h w w0 w1
    unfold VW at h9 ⊢
    rw [ho _ _ e, ho _ _ e, ho _ _ e, ho _ _ e, h5]
    exact h9
theorem UQ_off {a a' : Mm} {x v : Int} (h : UQ a x) (ho : ∀ w j, w ≠ v → rd a' 31 w j = rd a 31 w j) (h1 : ¬ rd a' 31 v 0 = 1) (h0 : 27 * x + 3 ≤ v → rd a' 31 v 0 = 0) : UQ a' x := by
  refine ⟨fun s t s0 s1 t0 t1 hk hn => ?_, fun s s' s0 s1 q0 q1 hne hk hk' => ?_⟩
  · have e : 27 * x + s ≠ v := fun e => h1 (by rw [← e]; exact hk)
    rw [ho _ _ e] at hk hn
    by_cases e2 : 27 * x + 3 + t = v
    · rw [e2]; exact h0 (by omega)
    · rw [ho _ _ e2]; exact h.1 s t s0 s1 t0 t1 hk hn
  · have e : 27 * x + s ≠ v := fun e => h1 (by rw [← e]; exact hk)
    have e' : 27 * x + s' ≠ v := fun e => h1 (by rw [← e]; exact hk')
    rw [ho _ _ e] at hk ⊢
    rw [ho _ _ e'] at hk' ⊢
    exact h.2 s s' s0 s1 q0 q1 hne hk hk'
theorem S31_one {a a' : Mm} {x v : Int} (ho : ∀ w j, w ≠ v → rd a' 31 w j = rd a 31 w j) (v0 : 27 * x ≤ v) (v1 : v < 27 * x + 27) : sm (fun i => rd a' 31 (27 * x + i) 2) 27 = sm (fun i => rd a 31 (27 * x + i) 2) 27 - rd a 31 v 2 + rd a' 31 v 2 := by
  have h := sm_upd (f := fun i => rd a 31 (27 * x + i) 2) (g := fun i => rd a' 31 (27 * x + i) 2) (v := v - 27 * x) 27 (fun i _ _ hi => ho _ _ (by omega)) (by omega) (by omega)
  simp only [show 27 * x + (v - 27 * x) = v by omega] at h
  exact h
theorem vOK_in {a : Mm} {x v : Int} (h : IC a x) (v0 : 27 * x ≤ v) (v1 : v < 27 * x + 27) : vOK a v := by
  by_cases q : v < 27 * x + 3
  · have := h.1 (v - 27 * x) (by omega) (by omega)
    rw [show 27 * x + (v - 27 * x) = v by omega] at this
    exact this
  · have := vOK_b (h.2.1 (v - 27 * x - 3) (by omega) (by omega)) (by omega) (by omega)
    rw [show 27 * x + 3 + (v - 27 * x - 3) = v by omega] at this
    exact this
theorem grp_r {a : Mm} {v : Int} (hI : IA a) (hv : vOK a v) (hk : ¬ rd a 31 v 0 = 0) : 0 ≤ grpC a v ∧ grpC a v < 4 := by
  unfold grpC
  by_cases q : rd a 31 v 0 = 1
  · obtain ⟨n0, n1, -⟩ := hv.1 q
    rw [pif_t q]; exact (hI.1 _ n0 n1).1
  · obtain ⟨-, n0, n1⟩ := hv.2 hk q
    rw [pif_f q]; exact (hI.2.1 _ n0 n1).1
theorem lose_2 {a : Mm} {x v : Int} (hk : ¬ rd a 31 v 0 = 0) : rd (loseC a x v) 31 v 2 = 0 ∧ rd (loseC a x v) 31 v 3 = 0 := by
  rw [show loseC a x v = _ from pif_f hk, rd_begin2, rd_begin3]
  exact ⟨rfl, rfl⟩
theorem lose_g {a : Mm} {x v : Int} (hk : ¬ rd a 31 v 0 = 0) (i g : Int) : rd (loseC a x v) 32 i g = if i = x ∧ g = grpC a v then wr (rd a 32 x (grpC a v) + rd a 31 v 2) else rd a 32 i g := by
  rw [show loseC a x v = _ from pif_f hk, rd_begin _ _ _ _ _ _ _ (fun q => absurd q.1 (by decide)), rd_st, wr_wr]
  by_cases e : i = x ∧ g = grpC a v
  · rw [if_pos ⟨rfl, e.1, e.2⟩, if_pos e]
  · rw [if_neg (fun q => e q.2), if_neg e]
theorem CJ_lose {a : Mm} {x v N : Int} (h : CJ a x N) (hN : N ≤ 2160) (v0 : 27 * x ≤ v) (v1 : v < 27 * x + 27) : CJ (loseC a x v) x N := by
  obtain ⟨hI, hC, hNN, hV, hU, hT⟩ := h
  by_cases hk : rd a 31 v 0 = 0
  · rw [show loseC a x v = a from pif_t hk]; exact ⟨hI, hC, hNN, hV, hU, hT⟩
  have hvo := vOK_in hC v0 v1
  obtain ⟨g0, g1⟩ := grp_r hI hvo hk
  obtain ⟨w0, -⟩ := hV v v0 v1
  have ho : ∀ w j, w ≠ v → rd (loseC a x v) 31 w j = rd a 31 w j := fun w j e => rd_lose _ _ _ _ _ _ (fun q => e q.2) (by decide)
  have h2 := lose_2 (x := x) hk
  have hS := S31_one (x := x) ho v0 v1
  rw [h2.1] at hS
  have hG : sm (fun g => rd (loseC a x v) 32 x g) 4 = sm (fun g => rd a 32 x g) 4 - rd a 32 x (grpC a v) + rd (loseC a x v) 32 x (grpC a v) := sm_upd (f := fun g => rd a 32 x g) (g := fun g => rd (loseC a x v) 32 x g) (v := grpC a v) 4 (fun g _ _ e => by
    show rd (loseC a x v) 32 x g = rd a 32 x g
    rw [lose_g hk, if_neg (fun q => e q.2)]) g0 g1
  rw [show rd (loseC a x v) 32 x (grpC a v) = wr (rd a 32 x (grpC a v) + rd a 31 v 2) by rw [lose_g hk, if_pos ⟨rfl, rfl⟩]] at hG
  unfold TOT at hT
  have l32 := sm_le (f := fun g => rd a 32 x g) (v := grpC a v) 4 (fun g g0 g1 => (hNN.1 g g0 g1).2) g0 g1
  have l31 := sm_le (f := fun i => rd a 31 (27 * x + i) 2) (v := v - 27 * x) 27 (fun i i0 i1 => (hV _ (by omega) (by omega)).1) (by omega) (by omega)
  simp only [show 27 * x + (v - 27 * x) = v by omega] at l31
  have n25 := sm_nn (f := fun g => rd a 25 (30 + x) g) 4 (fun g g0 g1 => (hNN.1 g g0 g1).1)
  have n33 := sm_nn (f := fun s => rd a 33 x s) 3 (fun s s0 s1 => (hNN.2 s s0 s1).1)
  have n34 := sm_nn (f := fun s => rd a 34 x s) 3 (fun s s0 s1 => (hNN.2 s s0 s1).2)
  have p32 := (hNN.1 _ g0 g1).2
  have ew : wr (rd a 32 x (grpC a v) + rd a 31 v 2) = rd a 32 x (grpC a v) + rd a 31 v 2 := wr_of (by omega) (by omega)
  refine ⟨IA_of hI (fun k i j hk => rd_lose _ _ _ _ _ _ (by omega) (by omega)), IC_lose hC v, ⟨fun g q0 q1 => ⟨?_, ?_⟩, fun s s0 s1 => ?_⟩, VV_one hV ho (rd_lose _ _ _ _ _ _ (by omega) (by decide)) ?_, UQ_off hU ho (by rw [rd_lose0]; decide) (fun _ => rd_lose0 _ _ _), ?_⟩
  · rw [rd_lose _ _ _ _ _ _ (by omega) (by decide)]; exact (hNN.1 g q0 q1).1
  · rw [lose_g hk]
    split
    · rw [ew]; omega
    · exact (hNN.1 g q0 q1).2
  · rw [rd_lose _ _ _ _ _ _ (by omega) (by decide), rd_lose _ _ _ _ _ _ (by omega) (by decide)]
    exact hNN.2 s s0 s1
  · unfold VW
    rw [rd_lose0, h2.1, h2.2]
    exact ⟨Int.le_refl _, fun _ => rfl, fun q => absurd q (by decide), Int.le_refl _, by decide⟩
  · unfold TOT
    rw [sm_congr (f := fun g => rd (loseC a x v) 25 (30 + x) g) (g := fun g => rd a 25 (30 + x) g) 4 (fun g _ _ => rd_lose _ _ _ _ _ _ (by omega) (by decide)), sm_congr (f := fun g => rd (loseC a x v) 33 x g) (g := fun g => rd a 33 x g) 3 (fun g _ _ => rd_lose _ _ _ _ _ _ (by omega) (by decide)), sm_congr (f := fun g => rd (loseC a x v) 34 x g) (g := fun g => rd a 34 x g) 3 (fun g _ _ => rd_lose _ _ _ _ _ _ (by omega) (by decide)), hS, hG, ew]
    omega
