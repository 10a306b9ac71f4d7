/-! ===== class and model side by side, I: the sky ===== -/
/-- what was told of sites, moon, weather, instruments -/
def SK (a m : Mm) : Prop :=
  (∀ s, 0 ≤ s → s < 3 → rd a 11 s 0 = rd m 41 0 s ∧ rd a 11 s 1 = rd m 42 0 s) ∧
  (rd a 5 0 5 = rd m 40 0 2) ∧
  (∀ s z, 0 ≤ s → s < 3 → 0 ≤ z → z < 720 → rd a 12 s z = rd m 44 0 (720 * s + z) ∧ rd a 13 s z = rd m 45 0 (720 * s + z) ∧ (rd a 13 s z = 0 ∨ rd a 13 s z = 1) ∧ 0 ≤ rd a 12 s z) ∧
  (∀ s n, 0 ≤ s → s < 3 → 0 ≤ n → n < 30 → rd a 14 s n = mtC m s n ∧ (rd a 15 s n = 0 ↔ rd m 46 0 (30 * s + n) < 0)) ∧
  (∀ s i n, 0 ≤ s → s < 3 → 0 ≤ i → i < 3 → 0 ≤ n → n < 30 → (rd a 16 s (i * 30 + n) = 0 ↔ rd m 47 0 (90 * s + 30 * i + n) = 0))
theorem I_of {x y : Int} (h : wr x = wr y) : I x = I y := by rw [← I_wr x, ← I_wr y, h]
theorem wr_I {x y : Int} (h : I x = I y) : wr x = wr y := by rw [← toInt_I, ← toInt_I, h]
theorem wr_sub {x x' y y' : Int} (h : wr x = wr x') (h2 : wr y = wr y') : wr (x - y) = wr (x' - y') := wr_I (by rw [I_sub, I_sub, I_of h, I_of h2])
theorem wr_add {x x' y y' : Int} (h : wr x = wr x') (h2 : wr y = wr y') : wr (x + y) = wr (x' + y') := wr_I (by rw [I_add, I_add, I_of h, I_of h2])
theorem wr_jmax (x y : Int) : wr (jmax x y) = wr (jmx x y) := by
  unfold jmax jmx
  by_cases h : wr x < wr y
  · rw [if_pos h, pif_t (by omega)]
  · rw [if_neg h]
    by_cases h2 : wr x ≤ wr y
    · rw [pif_t h2]; omega
    · rw [pif_f h2]
theorem wr_jmin (x y : Int) : wr (jmin x y) = wr (jmn x y) := by
  unfold jmin jmn
  by_cases h : wr y < wr x
  · rw [if_pos h, pif_f (by omega)]
  · rw [if_neg h, pif_t (by omega)]
theorem jdiv_wr {x y : Int} (h : wr x = wr y) (z : Int) : jdiv x z = jdiv y z := by unfold jdiv; rw [h]
theorem jabs_sub (x y : Int) : wr (jabs (x - y)) = wr (jabs (y - x)) := by
  unfold jabs
  have e : I (y - x) = - I (x - y) := by rw [I_sub, I_sub]; exact (Int32.neg_sub ..).symm
  have e2 : wr (y - x) = wr (0 - (x - y)) := by rw [show y - x = 0 - (x - y) by omega]
  by_cases h : 0 ≤ wr (x - y)
  · rw [if_pos h]
    by_cases h2 : 0 ≤ wr (y - x)
    · rw [if_pos h2]
      have h0 : wr (x - y) = 0 := by
        rw [e2] at h2
        unfold wr at h h2 ⊢
        rw [Int.bmod_def] at h h2 ⊢
        omega
      rw [h0, e2]
      unfold wr at h0 ⊢
      rw [Int.bmod_def] at h0 ⊢
      omega
    · rw [if_neg h2, show 0 - (y - x) = x - y by omega]
  · rw [if_neg h]
    by_cases h2 : 0 ≤ wr (y - x)
    · rw [if_pos h2, show 0 - (x - y) = y - x by omega]
    · rw [if_neg h2]
      rw [e2] at h2
      unfold wr at h h2 ⊢
      rw [Int.bmod_def] at h h2 ⊢
      rw [Int.bmod_def]
      omega
theorem angC_sym (x y : Int) : angC x y = angC y x := by
  unfold angC jrem
  rw [jabs_sub x y]
theorem t_div {n u : Int} (n0 : 0 ≤ n) (n1 : n < 30) (u0 : 0 ≤ u) (u1 : u < 24) : jdiv (24 * n + u) 24 = n ∧ jrem (24 * n + u) 24 = u ∧ (24 * n + u) / 24 = n ∧ (24 * n + u) % 24 = u := by
  rw [jdiv_of (by omega) (by omega) (by decide) (by decide), jrem_of (by omega) (by omega) (by decide) (by decide)]
  omega
theorem sk_seen {a m : Mm} (h : SK a m) {s n u : Int} (s0 : 0 ≤ s) (s1 : s < 3) (n0 : 0 ≤ n) (n1 : n < 30) (u0 : 0 ≤ u) (u1 : u < 24) : seenC a s (24 * n + u) = msnC m s n u ∧ 0 ≤ seenC a s (24 * n + u) := by
  obtain ⟨h1, h2, h3, h4⟩ := h.2.2.1 s (24 * n + u) s0 s1 (by omega) (by omega)
  have e : 720 * s + (24 * n + u) = 720 * s + 24 * n + u := by omega
  rw [e] at h1 h2
  unfold seenC msnC
  rw [← h1, ← h2]
  rcases h3 with q | q
  · rw [q, if_pos rfl, pif_f (by decide)]; exact ⟨rfl, h4⟩
  · rw [q, if_neg (by decide), pif_t rfl]; exact ⟨rfl, by decide⟩
theorem sk_moon {a m : Mm} (h : SK a m) (n : Int) : moonC a n = mooC m n := by unfold moonC mooC; rw [h.2.1]
theorem sk_height {a m : Mm} (h : SK a m) {s n u ra dec : Int} (s0 : 0 ≤ s) (s1 : s < 3) (n0 : 0 ≤ n) (n1 : n < 30) (u0 : 0 ≤ u) (u1 : u < 24) : wr (hgtC a s (24 * n + u) ra dec) = wr (hgtM m s n u ra dec) := by
  obtain ⟨e1, e2, -, -⟩ := t_div n0 n1 u0 u1
  obtain ⟨l1, l2⟩ := h.1 s s0 s1
  unfold hgtC hgtM hmA hmB
  rw [e1, e2, l1, l2]
  exact wr_sub (wr_sub rfl (wr_jmax _ _)) (by rw [jdiv_wr (wr_jmin _ _)])
theorem fdown_congr {P Q : Int → Prop} : ∀ n : Nat, (∀ z : Int, 0 ≤ z → z < n → (P z ↔ Q z)) → fdown P n = fdown Q n
  | 0, _ => rfl
  | n + 1, h => by
    rw [fdown_s, fdown_s, fdown_congr n (fun z z0 z1 => h z z0 (by omega))]
    have := h (n : Int) (by omega) (by omega)
    by_cases q : P (n : Int)
    · rw [pif_t q, pif_t (this.mp q)]
    · rw [pif_f q, pif_f (fun x => q (this.mpr x))]
theorem fup_congr {P Q : Int → Prop} : ∀ (n : Nat) (c : Int), (∀ z, c ≤ z → z < c + n → (P z ↔ Q z)) → fup P n c = fup Q n c
  | 0, _, _ => rfl
  | n + 1, c, h => by
    unfold fup
    rw [fup_congr n (c + 1) (fun z z0 z1 => h z (by omega) (by omega))]
    have := h c (by omega) (by omega)
    by_cases q : P c
    · rw [pif_t q, pif_t (this.mp q)]
    · rw [pif_f q, pif_f (fun x => q (this.mpr x))]
theorem cntT_congr {P Q : Int → Prop} : ∀ (n : Nat) (c s : Int), (∀ z, c ≤ z → z < c + n → (P z ↔ Q z)) → cntT P n c s = cntT Q n c s
  | 0, _, _, _ => rfl
  | n + 1, c, s, h => by
    unfold cntT
    have := h c (by omega) (by omega)
    by_cases q : P c
    · rw [pif_t q, pif_t (this.mp q)]
      exact cntT_congr n (c + 1) _ (fun z z0 z1 => h z (by omega) (by omega))
    · rw [pif_f q, pif_f (fun x => q (this.mpr x))]
      exact cntT_congr n (c + 1) _ (fun z z0 z1 => h z (by omega) (by omega))
theorem sk_new {a m : Mm} (h : SK a m) {s i n : Int} (s0 : 0 ≤ s) (s1 : s < 3) (i0 : 0 ≤ i) (i1 : i < 3) (n0 : 0 ≤ n) (n1 : n < 30) : newC a s i (n + 1).toNat = mnwC m s i n := by
  unfold newC mnwC
  exact fdown_congr _ (fun z z0 z1 => not_congr (h.2.2.2.2 s i z s0 s1 i0 i1 z0 (by omega)))
theorem runT_all (P : Int → Prop) : ∀ (n : Nat) (c : Int), runT P n c = c + n ↔ allT P n c
  | 0, c => by unfold runT allT; simp
  | n + 1, c => by
    unfold runT allT
    have h := runT_all P n (c + 1)
    by_cases q : P c
    · rw [pif_t q]
      rw [← h]
      constructor
      · intro e; exact ⟨q, by rw [e]; omega⟩
      · intro e; rw [e.2]; omega
    · rw [pif_f q]
      exact ⟨fun e => by omega, fun e => absurd e.1 q⟩
theorem allT_congr {P Q : Int → Prop} : ∀ (n : Nat) (c d : Int), (∀ z : Int, 0 ≤ z → z < n → (P (c + z) ↔ Q (d + z))) → (allT P n c ↔ allT Q n d)
  | 0, _, _, _ => Iff.rfl
  | n + 1, c, d, h => by
    unfold allT
    have h0 := h 0 (by decide) (by omega)
    rw [Int.add_zero, Int.add_zero] at h0
    exact and_congr h0 (allT_congr n (c + 1) (d + 1) (fun z z0 z1 => by have := h (1 + z) (by omega) (by omega); rwa [← Int.add_assoc, ← Int.add_assoc] at this))
/-- an aim of the class (sort k, number i) and one of the model (t) -/
def aimR (a m : Mm) (k : Nat) (i t : Int) : Prop := rd a k i 1 = rd m 55 0 t ∧ rd a k i 2 = rd m 56 0 t ∧ rd a k i 3 = rd m 57 0 t ∧ rd a k i 4 = rd m 58 0 t ∧ rd a k i 5 = rd m 59 0 t ∧ rd a k i 6 = rd m 60 0 t ∧ rd a k i 7 = rd m 61 0 t ∧ (0 ≤ rd m 58 0 t ∧ rd m 58 0 t < 3) ∧ (1 ≤ rd m 57 0 t ∧ rd m 57 0 t ≤ 6)
theorem sk_highP {a m : Mm} (h : SK a m) {k : Nat} {i t s n u : Int} (hr : aimR a m k i t) (s0 : 0 ≤ s) (s1 : s < 3) (n0 : 0 ≤ n) (n1 : n < 30) {c v : Int} (hv : u + c = v) (v0 : 0 ≤ v) (v1 : v < 24) : highP a k i s (24 * n + u) c ↔ mhiP m t s n v := by
  unfold highP mhiP
  rw [show 24 * n + u + c = 24 * n + v by omega, hr.1, hr.2.1, hr.2.2.2.2.1, sk_height h s0 s1 n0 n1 v0 v1]
theorem sk_high {a m : Mm} (h : SK a m) {k : Nat} {i t s n u d : Int} (hr : aimR a m k i t) (s0 : 0 ≤ s) (s1 : s < 3) (n0 : 0 ≤ n) (n1 : n < 30) (u0 : 0 ≤ u) (u1 : u < 24) (d0 : 0 ≤ d) : ((24 * n + u) % 24 + d ≤ 24 ∧ highC a k i s (24 * n + u) d = d) ↔ mhiA m t s n u d := by
  obtain ⟨-, -, -, e4⟩ := t_div n0 n1 u0 u1
  unfold mhiA
  rw [e4]
  refine and_congr_right fun q => ?_
  unfold highC
  rw [e4, show min d (24 - u) = d by omega]
  have h1 := runT_all (highP a k i s (24 * n + u)) d.toNat 0
  rw [show (0 : Int) + (d.toNat : Int) = d by omega] at h1
  rw [h1]
  refine allT_congr _ _ _ (fun z z0 z1 => ?_)
  rw [Int.zero_add]
  exact sk_highP h hr s0 s1 n0 n1 rfl (by omega) (by omega)
theorem sk_far {a m : Mm} {k : Nat} {i t : Int} (hr : aimR a m k i t) (n : Int) : farC a k i n ↔ 60 ≤ wr (mdsC m t n) := by
  unfold farC mdsC
  rw [wr_jmax, hr.1, hr.2.1, angC_sym]
theorem sk_suit {a m : Mm} (h : SK a m) {k : Nat} {i t s n u d : Int} (hr : aimR a m k i t) (s0 : 0 ≤ s) (s1 : s < 3) (n0 : 0 ≤ n) (n1 : n < 30) (u0 : 0 ≤ u) (u1 : u < 24) (d0 : 0 ≤ d) : suitC a k i s (24 * n + u) d ↔ msuP m t s n u d := by
  obtain ⟨-, -, e3, e4⟩ := t_div n0 n1 u0 u1
  obtain ⟨g1, g2⟩ := sk_seen h s0 s1 n0 n1 u0 u1
  have g3 := (h.2.2.2.1 s n s0 s1 n0 n1).1
  have g4 := sk_new h s0 s1 hr.2.2.2.2.2.2.2.1.1 hr.2.2.2.2.2.2.2.1.2 n0 n1
  have g5 := sk_high h hr s0 s1 n0 n1 u0 u1 d0
  have g6 := fdown_range (fun t1 => ¬ rd m 47 0 (90 * s + 30 * rd m 58 0 t + t1) = 0) (n + 1).toNat
  replace g6 : -1 ≤ mnwC m s (rd m 58 0 t) n ∧ _ := g6
  unfold suitC msuP mfaP
  rw [← g5, e3, hr.2.2.2.1, g3, g1, g4, sk_moon h, sk_far hr n, hr.2.2.2.2.2.1, hr.2.2.2.2.2.2.1]
  rw [g1] at g2
  constructor
  · rintro ⟨c1, c2, c3, c4, c5, c6, c7, c8⟩
    exact ⟨by omega, c4, c2, by omega, c6, c7, c1, c8⟩
  · rintro ⟨c1, c2, c3, c4, c5, c6, c7, c8⟩
    exact ⟨c7, c3, by omega, c2, by omega, c5, c6, c8⟩
