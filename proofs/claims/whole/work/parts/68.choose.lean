/-! ===== class and model side by side, VIII: a target's visit begins ===== -/
theorem runT_uniq {P : Int → Prop} : ∀ (n : Nat) (c r : Int), c ≤ r → r ≤ c + n → (∀ z, c ≤ z → z < r → P z) → (r = c + n ∨ ¬ P r) → runT P n c = r
  | 0, c, r, h0, h1, _, _ => by unfold runT; omega
  | n + 1, c, r, h0, h1, h2, h3 => by
    unfold runT
    by_cases q : P c
    · rw [pif_t q]
      by_cases e : r = c
      · rw [e] at h3
        rcases h3 with h3 | h3
        · omega
        · exact absurd q h3
      · exact runT_uniq n (c + 1) r (by omega) (by omega) (fun z z0 z1 => h2 z (by omega) z1) (h3.imp (fun h => by omega) id)
    · rw [pif_f q]
      by_cases e : r = c
      · exact e.symm
      · exact absurd (h2 c (by omega) (by omega)) q
theorem runT_spec (P : Int → Prop) : ∀ (n : Nat) (c : Int), (∀ z, c ≤ z → z < runT P n c → P z) ∧ (runT P n c = c + n ∨ ¬ P (runT P n c))
  | 0, c => by
    unfold runT
    exact ⟨fun z z0 z1 => by omega, Or.inl (by omega)⟩
  | n + 1, c => by
    unfold runT
    obtain ⟨h1, h2⟩ := runT_spec P n (c + 1)
    by_cases q : P c
    · rw [pif_t q]
      refine ⟨fun z z0 z1 => ?_, ?_⟩
      · by_cases e : z = c
        · rw [e]; exact q
        · exact h1 z (by omega) z1
      · rcases h2 with h2 | h2
        · left; omega
        · exact Or.inr h2
    · rw [pif_f q]
      exact ⟨fun z z0 z1 => by omega, Or.inr q⟩
theorem allT_iff (P : Int → Prop) : ∀ (n : Nat) (c : Int), allT P n c ↔ ∀ z, c ≤ z → z < c + n → P z
  | 0, c => ⟨fun _ z z0 z1 => by omega, fun _ => trivial⟩
  | n + 1, c => by
    unfold allT
    rw [allT_iff P n (c + 1)]
    constructor
    · rintro ⟨h1, h2⟩ z z0 z1
      by_cases e : z = c
      · rw [e]; exact h1
      · exact h2 z (by omega) (by omega)
    · intro h
      exact ⟨h c (by omega) (by omega), fun z z0 z1 => h z (by omega) (by omega)⟩
theorem begs_row {a m : Mm} {x s n u t : Int} (hP : PR a m) (hw : rd a 26 x 8 = 24 * n + u) (s0 : 0 ≤ s) (s1 : s < 3) (n0 : 0 ≤ n) (n1 : n < 30) (u0 : 0 ≤ u) (u1 : u < 24) (t0 : 0 ≤ t) (t1 : t < rd m 40 0 25) (hs : mhiA m t s n u (rd m 57 0 t)) : begsC a x s t = rowC m t s n u := by
  obtain ⟨⟨ha, -⟩, -⟩ := hP.2.1.2.2.2.1 t t0 t1
  obtain ⟨-, -, -, e4⟩ := t_div n0 n1 u0 u1
  have hl := ha.2.2.2.2.2.2.2.2
  have hH : ∀ z, 0 ≤ z → z < 24 - u → (highP a 18 t s (24 * n + u) z ↔ mhiP m t s n (u + z)) := fun z z0 z1 => sk_highP hP.1 ha s0 s1 n0 n1 rfl (by omega) (by omega)
  have eh : highC a 18 t s (24 * n + u) 24 = runT (fun z => mhiP m t s n (u + z)) (24 - u).toNat 0 := by
    unfold highC
    rw [e4, show min (24 : Int) (24 - u) = 24 - u by omega]
    have h1 := runT_spec (highP a 18 t s (24 * n + u)) (24 - u).toNat 0
    have h2 := runT_range (highP a 18 t s (24 * n + u)) (24 - u).toNat 0
    refine (runT_uniq _ _ _ h2.1 h2.2 (fun z z0 z1 => (hH z z0 (by omega)).mp (h1.1 z z0 z1)) ?_).symm
    rcases h1.2 with g | g
    · exact Or.inl g
    · by_cases e : runT (highP a 18 t s (24 * n + u)) (24 - u).toNat 0 < 24 - u
      · exact Or.inr (fun c => g ((hH _ h2.1 e).mpr c))
      · left; omega
  unfold begsC
  rw [hw, eh, ha.2.2.1]
  obtain ⟨r1, r2⟩ := runT_spec (fun z => mhiP m t s n (u + z)) (24 - u).toNat 0
  have r3 := runT_range (fun z => mhiP m t s n (u + z)) (24 - u).toNat 0
  generalize runT (fun z => mhiP m t s n (u + z)) (24 - u).toNat 0 = R at r1 r2 r3 ⊢
  obtain ⟨g1, g2⟩ := hs
  rw [allT_iff] at g2
  have hR : rd m 57 0 t ≤ R := by
    rcases Int.lt_or_le R (rd m 57 0 t) with c | c
    · exfalso
      rcases r2 with r2 | r2
      · omega
      · exact r2 (g2 (u + R) (by omega) (by omega))
    · exact c
  unfold rowC
  refine (runT_uniq _ _ _ (by omega) (by omega) (fun z z0 z1 => ?_) (Or.inr fun c => ?_)).symm
  · refine ⟨by omega, ?_⟩
    rw [allT_iff]
    intro y y0 y1
    have := r1 (y - u) (by omega) (by omega)
    rwa [show u + (y - u) = y by omega] at this
  · obtain ⟨c1, c2⟩ := c
    rw [allT_iff] at c2
    rcases r2 with r2 | r2
    · omega
    · exact r2 (c2 (u + R) (by omega) (by omega))
theorem ar_eq {a m : Mm} {x g : Int} (hP : PR a m) (hb : bkR a m (30 + x)) (g0 : 0 ≤ g) (g1 : g < 4) : arC a x g = arrM m g := by
  unfold arC arrM allC totM
  rw [hP.2.1.2.1 g g0 g1, hb.2.2 g g0 g1, hb.2.2 0 (by decide) (by decide), hb.2.2 1 (by decide) (by decide), hb.2.2 2 (by decide) (by decide), hb.2.2 3 (by decide) (by decide), Int.zero_add]
theorem can_iff {a m : Mm} {x s9 s n u lo t : Int} (hP : PR a m) (hC : CRv lo s9 a m x) (hw : rd a 26 x 8 = 24 * n + u) (s0 : 0 ≤ s) (s1 : s < 3) (n0 : 0 ≤ n) (n1 : n < 30) (u0 : 0 ≤ u) (u1 : u < 24) (t0 : 0 ≤ t) (t1 : t < rd m 40 0 25) : canC a x s t ↔ chsP m s n u t := by
  have hT : rd m 40 0 25 ≤ 24 := hP.2.2.2.1.2
  obtain ⟨hr, -⟩ := hP.2.1.2.2.2.1 t t0 t1
  have ha := hr.1
  obtain ⟨-, -, e3, -⟩ := t_div n0 n1 u0 u1
  have hk : rd a 31 (27 * x + 3 + t) 0 = 0 ↔ rd m 83 0 t = 0 := by
    rcases hC.2.2.2.1 t t0 (by omega) with ⟨w1, w2⟩ | ⟨w1, w2, w3, w4, w5⟩ <;> omega
  unfold canC chsP
  rw [hw, e3, tg_want hr hC.1 t0 (by omega) n0 n1, hk, obs1 hP.2.2 (CRv_any hC) t0 (by omega), ha.2.2.1, sk_suit hP.1 ha s0 s1 n0 n1 u0 u1 (by have := ha.2.2.2.2.2.2.2.2; omega)]
  exact ⟨fun ⟨a1, a2, a3, a4⟩ => ⟨a1, a3, a2, a4⟩, fun ⟨a1, a2, a3, a4⟩ => ⟨a1, a3, a2, a4⟩⟩
theorem cmp_iff {a m : Mm} {x : Int} (hP : PR a m) (hb : bkR a m (30 + x)) {y z : Int} (y0 : 0 ≤ y) (y1 : y < 8) (z0 : 0 ≤ z) (z1 : z < 8) :
    wr (cmpC a x y z) = cmpC a x y z ∧ (0 < cmpC a x y z ↔ (¬ rd m 49 0 y = rd m 49 0 z ∧ (wr (arrM m (rd m 49 0 z)) < wr (arrM m (rd m 49 0 y)) ∨ (wr (arrM m (rd m 49 0 y)) = wr (arrM m (rd m 49 0 z)) ∧ rd m 49 0 y < rd m 49 0 z))) ∨ (rd m 49 0 y = rd m 49 0 z ∧ ¬ y = z ∧ (rd m 50 0 z < rd m 50 0 y ∨ (rd m 50 0 y = rd m 50 0 z ∧ y < z)))) ∧ (cmpC a x y z = 0 ↔ y = z) := by
  have gy := hP.2.2.2.2.2.2.2.1 y y0 y1
  have gz := hP.2.2.2.2.2.2.2.1 z z0 z1
  obtain ⟨e1, e2, -, -, e5, -⟩ := hP.2.1.2.2.1 y y0 y1
  obtain ⟨f1, f2, -, -, f5, -⟩ := hP.2.1.2.2.1 z z0 z1
  unfold cmpC icmC
  rw [e1, e2, f1, f2, ar_eq hP hb gy.1 gy.2, ar_eq hP hb gz.1 gz.2]
  by_cases q : rd m 49 0 y = rd m 49 0 z
  · rw [pif_t q]
    by_cases q2 : rd m 50 0 y = rd m 50 0 z
    · rw [pif_t q2, wr_of (by omega) (by omega)]; refine ⟨rfl, ?_, ?_⟩ <;> omega
    · have hne : ¬ y = z := fun c => q2 (by rw [c])
      rw [pif_f q2, wr_of (by omega) (by omega)]; refine ⟨rfl, ?_, ?_⟩ <;> omega
  · have hne : ¬ y = z := fun c => q (by rw [c])
    rw [pif_f q]
    generalize wr (arrM m (rd m 49 0 y)) = A at *
    generalize wr (arrM m (rd m 49 0 z)) = B at *
    by_cases c1 : A < B
    · rw [if_pos c1, pif_f (by decide)]; refine ⟨rfl, ?_, ?_⟩ <;> omega
    · rw [if_neg c1]
      by_cases c2 : A = B
      · rw [if_pos c2, pif_t rfl, wr_of (by omega) (by omega)]; refine ⟨rfl, ?_, ?_⟩ <;> omega
      · rw [if_neg c2, pif_f (by decide)]; refine ⟨rfl, ?_, ?_⟩ <;> omega
theorem btB_eq {a m : Mm} {x s9 s n u lo : Int} (hP : PR a m) (hC : CRv lo s9 a m x) (hw : rd a 26 x 8 = 24 * n + u) (s0 : 0 ≤ s) (s1 : s < 3) (n0 : 0 ≤ n) (n1 : n < 30) (u0 : 0 ≤ u) (u1 : u < 24) : btB a x s = chsR m s n u ∧ (btB a x s = -1 ∨ (0 ≤ btB a x s ∧ btB a x s < rd m 40 0 25 ∧ chsP m s n u (btB a x s))) := by
  have hT0 : 0 ≤ rd m 40 0 25 := hP.2.2.2.1.1
  have hT : rd m 40 0 25 ≤ 24 := hP.2.2.2.1.2
  have e7 : rd a 5 0 7 = rd m 40 0 25 := hP.2.1.1.2.1
  have loop : ∀ (k : Nat) (t b f : Int), 0 ≤ t → t + k ≤ rd m 40 0 25 → (b = -1 ∨ (0 ≤ b ∧ b < t ∧ chsP m s n u b ∧ f = begsC a x s b)) → srch (btP a x s) (begsC a x s) k t b f = chsB m s n u k t b ∧ (chsB m s n u k t b = -1 ∨ (0 ≤ chsB m s n u k t b ∧ chsB m s n u k t b < rd m 40 0 25 ∧ chsP m s n u (chsB m s n u k t b))) := by
    intro k
    induction k with
    | zero =>
      intro t b f t0 tk hb
      refine ⟨rfl, ?_⟩
      rcases hb with hb | ⟨h1, h2, h3, h4⟩
      · exact Or.inl hb
      · exact Or.inr ⟨h1, by show b < _; omega, h3⟩
    | succ k ih =>
      intro t b f t0 tk hb
      have ht : t < rd m 40 0 25 := by omega
      have hq : btP a x s t b f ↔ chsQ m s n u b t := by
        obtain ⟨⟨-, e10, -⟩, p8⟩ := hP.2.1.2.2.2.1 t t0 ht
        have p12 : rd m 40 0 12 ≤ 8 := hP.2.2.1.2
        have o0 : 0 ≤ rd m 54 0 t := (hP.2.2.2.2.2.1 t t0 (by omega)).1.1
        unfold btP chsQ
        rw [can_iff hP hC hw s0 s1 n0 n1 u0 u1 t0 ht]
        refine and_congr_right fun hcan => ?_
        unfold ordC
        rcases hb with rfl | ⟨b0, b1, b2, b3⟩
        · rw [pif_t rfl]
          exact ⟨fun _ => Or.inl (by decide), fun _ => ⟨by decide, Or.inl (by decide)⟩⟩
        · obtain ⟨⟨-, f10, -⟩, q8⟩ := hP.2.1.2.2.2.1 b b0 (by omega)
          have r0 : 0 ≤ rd m 54 0 b := (hP.2.2.2.2.2.1 b b0 (by omega)).1.1
          have gt : grpM m t = rd m 49 0 (rd m 54 0 t) := pif_t (by omega)
          have gb : grpM m b = rd m 49 0 (rd m 54 0 b) := pif_t (by omega)
          rw [pif_f (by omega), e10, f10, b3, begs_row hP hw s0 s1 n0 n1 u0 u1 t0 ht hcan.2.2.2.2.2.2.2.2.2, begs_row hP hw s0 s1 n0 n1 u0 u1 b0 (by omega) b2.2.2.2.2.2.2.2.2.2]
          obtain ⟨c1, c2, c3⟩ := cmp_iff (x := x) hP hC.1 o0 (by omega) r0 (by omega)
          rw [c1]
          unfold btrP
          rw [gt, gb]
          have hge : (0 ≤ cmpC a x (rd m 54 0 t) (rd m 54 0 b) ∧ (0 < cmpC a x (rd m 54 0 t) (rd m 54 0 b) ∨ rowC m t s n u < rowC m b s n u)) ↔ (0 < cmpC a x (rd m 54 0 t) (rd m 54 0 b) ∨ (cmpC a x (rd m 54 0 t) (rd m 54 0 b) = 0 ∧ rowC m t s n u < rowC m b s n u)) := by omega
          rw [hge, c2, c3]
          constructor
          · rintro ((h | h) | ⟨h1, h2⟩)
            · exact Or.inr (Or.inl h)
            · exact Or.inr (Or.inr (Or.inl h))
            · exact Or.inr (Or.inr (Or.inr ⟨by rw [h1], h1, Or.inl h2⟩))
          · rintro (h | h | h | ⟨h1, h2, h3⟩)
            · omega
            · exact Or.inl (Or.inl h)
            · exact Or.inl (Or.inr h)
            · refine Or.inr ⟨h2, ?_⟩
              rcases h3 with h3 | h3
              · exact h3
              · omega
      unfold srch chsB
      by_cases q : chsQ m s n u b t
      · rw [pif_t (hq.mpr q), pif_t q]
        exact ih (t + 1) t _ (by omega) (by omega) (Or.inr ⟨t0, by omega, q.1, rfl⟩)
      · rw [pif_f (fun c => q (hq.mp c)), pif_f q]
        refine ih (t + 1) b f (by omega) (by omega) ?_
        rcases hb with hb | ⟨h1, h2, h3⟩
        · exact Or.inl hb
        · exact Or.inr ⟨h1, by omega, h3⟩
  have h := loop (rd m 40 0 25).toNat 0 (-1) 0 (by decide) (by omega) (Or.inl rfl)
  unfold btB chsR
  rw [e7]
  rw [h.1]
  exact ⟨rfl, h.2⟩
theorem choose_step {a m : Mm} {x s n u : Int} (hP : PR a m) (hC : CRv 0 s a m x) (hw : rd a 26 x 8 = 24 * n + u) (s0 : 0 ≤ s) (s1 : s < 3) (n0 : 0 ≤ n) (n1 : n < 30) (u0 : 0 ≤ u) (u1 : u < 24) : CRv 0 s (st3 a x s) (siD m s n u) x := by
  have hidle : rd a 31 (27 * x + s) 0 = 0 ↔ rd m 80 0 s < 0 := (lose_g hP hC.2.2.1).1.symm
  unfold st3 siD
  rcases Int.lt_or_le (rd m 80 0 s) 0 with q | q
  case inr => rw [pif_f (fun c => by have := hidle.mp c; omega), pif_f (by omega)]; exact hC
  rw [pif_t (hidle.mpr q), pif_t q]
  obtain ⟨e1, e2⟩ := btB_eq hP hC hw s0 s1 n0 n1 u0 u1
  have hT : rd m 40 0 25 ≤ 24 := hP.2.2.2.1.2
  unfold targetC chsC
  rw [← e1]
  obtain ⟨r, hr⟩ : ∃ r, btB a x s = r := ⟨_, rfl⟩
  rw [hr] at e2 ⊢
  rcases e2 with e2 | ⟨r0, r1, r2⟩
  · rw [pif_t e2, pif_f (by omega)]; exact hC
  rw [pif_f (by omega), pif_t r0]
  obtain ⟨h1, h2, h3, h4, h5, h6⟩ := hC
  have hl := (hP.2.1.2.2.2.1 r r0 r1).1.1.2.2.2.2.2.2.2.2
  obtain ⟨f0, f1, f2⟩ := rd_mbgs m s r (wr_of (by omega) (by omega))
  obtain ⟨b0, b1, b2, b3⟩ := rd_beg a (27 * x + s) 1 r rfl (wr_of (by omega) (by omega))
  have ra : ∀ (k : Nat) (i j : Int), ¬ (k = 31 ∧ i = 27 * x + s) → rd (beginC a (27 * x + s) 1 r) k i j = rd a k i j := fun k i j hk => rd_begin _ _ _ _ _ _ _ hk
  have rm : ∀ (k : Nat) (i j : Int), k ≠ 80 ∧ k ≠ 81 ∧ k ≠ 82 → rd (mbgC m s r) k i j = rd m k i j := fun k i j hk => rd_mbg _ _ _ _ _ _ hk
  have rmo : ∀ s', s' ≠ s → ∀ k : Nat, rd (mbgC m s r) k 0 s' = rd m k 0 s' := fun s' hs k => rd_mbgo _ _ _ _ hs _
  refine ⟨bkR_of h1 (fun k j k0 k1 => ra k _ j (by omega)) (fun k j k0 k1 => rm k _ j (by omega)), fun s' g0 g1 hs => ?_, ?_, fun t t0 t1 => ?_, dsR_end h5 (by omega) (fun s' hs => rmo s' hs 80), ?_⟩
  · exact vR_of (h2 s' g0 g1 hs) (fun j _ _ => ra 31 _ j (by omega)) (rmo s' hs 80) (rmo s' hs 81) (rmo s' hs 82) (fun t => rm 57 0 t (by decide)) (fun _ g => by rw [rm 75 0 _ (by decide)]; exact g) (rm 40 0 25 (by decide)) (rm 40 0 30 (by decide))
  · right; left
    rw [f0, f1, f2, b0, b1, b2, b3, rm 40 0 25 (by decide), rm 57 0 _ (by decide)]
    exact ⟨⟨r0, r1⟩, rfl, rfl, rfl, rfl, by decide, by omega⟩
  · exact wR_of (h4 t t0 t1) (fun j => ra 31 _ j (by omega)) (rm 83 0 t (by decide)) (rm 84 0 t (by decide)) (rm 85 0 t (by decide)) (rm 57 0 t (by decide)) (rm 40 0 25 (by decide))
  · exact zR_of h6 (fun k j hk => ra k _ j (by omega)) (ra 26 _ 9 (by omega)) (fun k j hk => rm k _ j (by omega))
