/-! ===== class and model side by side, XXII: the best order ===== -/
theorem FU_few {a m a' m' : Mm} (h : FU a m) (ra : ∀ (k : Nat) (i j : Int), k ≠ 3 → k ≠ 4 → rd a' k i j = rd a k i j) (rm : ∀ (k : Nat) (i j : Int), k ≠ 100 → rd m' k i j = rd m k i j) : FU a' m' := by
  obtain ⟨hP, hC, hS, hL, hid, h8, hW, hI, h27⟩ := h
  refine ⟨⟨SK_of hP.1 (fun k i j hk => ra k i j (by omega) (by omega)) (fun k j hk => rm k 0 j (by omega)), TG_of hP.2.1 (fun k i j hk => ra k i j (by omega) (by omega)) (fun k j hk => rm k 0 j (by omega)), IM_of hP.2.2 (fun k i j hk => rm k i j (by omega))⟩, CR_of hC (fun k i j hk => ra k i j (by omega) (by omega)) (fun c => by omega) (fun k j hk => rm k 0 j (by omega)) (fun c => by omega), fun n n0 n1 => ?_, ?_, ?_, ?_, ?_, ?_, ?_⟩
  · rw [rm 40 _ _ (by decide)] at n1
    obtain ⟨g1, g2, g3⟩ := hS n n0 n1
    refine ⟨fun t t0 t1 => ?_, fun i i0 i1 => ?_, fun g g0 g1 => ?_⟩
    · rw [ra 21 _ _ (by decide) (by decide), ra 22 _ _ (by decide) (by decide), ra 23 _ _ (by decide) (by decide), rm 88 _ _ (by decide), rm 89 _ _ (by decide), rm 74 _ _ (by decide)]; exact g1 t t0 t1
    · rw [ra 24 _ _ (by decide) (by decide), rm 75 _ _ (by decide)]; exact g2 i i0 i1
    · rw [ra 25 _ _ (by decide) (by decide), rm 87 _ _ (by decide)]; exact g3 g g0 g1
  · rw [rm 40 _ _ (by decide)]
    refine ⟨fun t j t0 t1 j0 j1 hj => ?_, fun i i0 i1 => ?_⟩
    · rw [rm 74 _ _ (by decide)] at hj; exact hL.1 t j t0 t1 j0 j1 hj
    · rw [rm 75 _ _ (by decide)]; exact hL.2 i i0 i1
  · refine ⟨fun s s0 s1 => ?_, fun t t0 t1 => ?_⟩
    · rw [ra 31 _ _ (by decide) (by decide), ra 31 _ _ (by decide) (by decide), ra 31 _ _ (by decide) (by decide)]; exact hid.1 s s0 s1
    · rw [ra 31 _ _ (by decide) (by decide)]; exact hid.2 t t0 t1
  · rw [rm 40 _ _ (by decide), ra 26 _ _ (by decide) (by decide)]; exact h8
  · rw [rm 40 _ _ (by decide)]; exact hW
  · exact IA_of4 hI (fun k i j hk => ra k i j (by omega) (by omega))
  · rw [ra 27 _ _ (by decide) (by decide)]; exact h27
theorem cnt_pos (P : Int → Prop) : ∀ (n : Nat) (c s : Int), s < cntT P n c s ↔ ∃ z, c ≤ z ∧ z < c + n ∧ P z
  | 0, c, s => by
    unfold cntT
    exact ⟨fun h => by omega, fun ⟨z, z0, z1, _⟩ => by omega⟩
  | n + 1, c, s => by
    unfold cntT
    by_cases q : P c
    · rw [pif_t q]
      have := cntT_q P n (c + 1) (s + 1)
      exact ⟨fun _ => ⟨c, Int.le_refl _, by omega, q⟩, fun _ => by omega⟩
    · rw [pif_f q, cnt_pos P n (c + 1) s]
      constructor
      · rintro ⟨z, z0, z1, hz⟩; exact ⟨z, by omega, by omega, hz⟩
      · rintro ⟨z, z0, z1, hz⟩
        by_cases e : z = c
        · rw [e] at hz; exact absurd hz q
        · exact ⟨z, by omega, by omega, hz⟩
theorem fb_fs {a m : Mm} (h : FU a m) {t s n : Int} (t0 : 0 ≤ t) (t1 : t < rd m 40 0 25) (s0 : 0 ≤ s) (s1 : s < 3) (n0 : 0 ≤ n) (n1 : n < 30) {u : Int} (u0 : 0 ≤ u) : fbC a t s n u = fup (fun v => msuP m t s n v (rd m 57 0 t)) (24 - u).toNat u := by
  obtain ⟨⟨ha, -⟩, -⟩ := h.1.2.1.2.2.2.1 t t0 t1
  unfold fbC
  refine fup_congr _ _ (fun z z0 z1 => ?_)
  rw [show n * 24 + z = 24 * n + z by omega, ha.2.2.1]
  exact sk_suit h.1.1 ha s0 s1 n0 n1 (by omega) (by omega) (by have := ha.2.2.2.2.2.2.2.2; omega)
theorem sel_iff {a m : Mm} (h : FU a m) {t s n : Int} (t0 : 0 ≤ t) (t1 : t < rd m 40 0 25) (s0 : 0 ≤ s) (s1 : s < 3) (n0 : 0 ≤ n) (n1 : n < 30) : (wantC a (30 + 0) t n ∧ ¬ fbC a t s n 0 = -1) ↔ (mwnP m t n ∧ 0 < mchC m t s n) := by
  have hT : rd m 40 0 25 ≤ 24 := h.1.2.2.2.1.2
  rw [tg_want (h.1.2.1.2.2.2.1 t t0 t1).1 h.2.1.1 t0 (by omega) n0 n1, fb_fs h t0 t1 s0 s1 n0 n1 (by decide)]
  unfold mchC
  rw [cnt_pos]
  refine and_congr_right fun _ => ?_
  rcases fup_spc (fun v => msuP m t s n v (rd m 57 0 t)) (24 - 0 : Int).toNat 0 with ⟨g1, g2⟩ | ⟨g1, g2, -⟩
  · constructor
    · intro c; exact absurd g1 c
    · rintro ⟨z, z0, z1, hz⟩; exact absurd hz (g2 z z0 (by omega))
  · constructor
    · intro _; exact ⟨_, g1.1, by omega, g2⟩
    · intro _ c; omega
def fewR (ma mm : Mm) (k c : Int) : Prop := ∀ j, 0 ≤ j → j < k → rd ma 3 0 j = rd mm 100 0 j ∧ 0 ≤ rd mm 100 0 j ∧ rd mm 100 0 j < c
theorem sel_eq {a m : Mm} (h : FU a m) {s n : Int} (s0 : 0 ≤ s) (s1 : s < 3) (n0 : 0 ≤ n) (n1 : n < 30) : ∀ (q : Nat) (i k : Int) (ma mm : Mm), 0 ≤ i → i + q = rd m 40 0 25 → 0 ≤ k → k ≤ 5 → (∀ (k : Nat) (i j : Int), k ≠ 3 → k ≠ 4 → rd ma k i j = rd a k i j) → (∀ (k : Nat) (i j : Int), k ≠ 100 → rd mm k i j = rd m k i j) → fewR ma mm k (rd m 40 0 25) →
    fwK s n q i k ma = mwK s n q i k mm ∧ (0 ≤ mwK s n q i k mm ∧ mwK s n q i k mm ≤ 5) ∧ fewR (fwM s n q i k ma) (mwM s n q i k mm) (mwK s n q i k mm) (rd m 40 0 25) ∧ (∀ (k9 : Nat) (i9 j : Int), k9 ≠ 3 → k9 ≠ 4 → rd (fwM s n q i k ma) k9 i9 j = rd a k9 i9 j) ∧ (∀ (k9 : Nat) (i9 j : Int), k9 ≠ 100 → rd (mwM s n q i k mm) k9 i9 j = rd m k9 i9 j)
  | 0, i, k, ma, mm, i0, hi, k0, k1, ra, rm, hf => ⟨rfl, ⟨k0, k1⟩, hf, ra, rm⟩
  | q + 1, i, k, ma, mm, i0, hi, k0, k1, ra, rm, hf => by
    have hT : rd m 40 0 25 ≤ 24 := h.1.2.2.2.1.2
    have hF := FU_few h ra rm
    unfold fwK mwK fwM mwM
    by_cases c : k < 5
    · rw [pif_t c, pif_t c, pif_t c, pif_t c]
      have hs := sel_iff hF (t := i) i0 (by rw [rm 40 _ _ (by decide)]; omega) s0 s1 n0 n1
      by_cases c2 : mwnP mm i n ∧ 0 < mchC mm i s n
      · rw [pif_t (hs.mpr c2), pif_t c2, pif_t (hs.mpr c2), pif_t c2]
        refine sel_eq h s0 s1 n0 n1 q (i + 1) (k + 1) _ _ (by omega) (by omega) (by omega) (by omega) (fun k9 i9 j h3 h4 => (rd_st_ne h3).trans (ra k9 i9 j h3 h4)) (fun k9 i9 j h9 => (rd_st_ne h9).trans (rm k9 i9 j h9)) (fun j j0 j1 => ?_)
        rw [rd_st, rd_st]
        by_cases e : j = k
        · rw [if_pos ⟨rfl, rfl, e⟩, if_pos ⟨rfl, rfl, e⟩, wr_wr, wr_of (by omega) (by omega)]; omega
        · rw [if_neg (fun x => e x.2.2), if_neg (fun x => e x.2.2)]; exact hf j j0 (by omega)
      · rw [pif_f (fun x => c2 (hs.mp x)), pif_f c2, pif_f (fun x => c2 (hs.mp x)), pif_f c2]
        exact sel_eq h s0 s1 n0 n1 q (i + 1) k ma mm (by omega) (by omega) k0 k1 ra rm hf
    · rw [pif_f c, pif_f c, pif_f c, pif_f c]
      exact ⟨rfl, ⟨k0, k1⟩, hf, ra, rm⟩
theorem runL_sum {P : Int → Int → Prop} {L : Int → Int} (hL : ∀ j, 0 ≤ L j) (hP : ∀ j v, P j v → v + L j ≤ 24) : ∀ (l : List Int) (t : Int), 0 ≤ t → t ≤ 24 → ¬ runL P L l t = -1 → t + sumL L l ≤ runL P L l t ∧ runL P L l t ≤ 24 ∧ 0 ≤ sumL L l
  | [], t, t0, t1, _ => by show t + 0 ≤ t ∧ t ≤ 24 ∧ (0 : Int) ≤ 0; omega
  | x :: l, t, t0, t1, h => by
    have h1 : ¬ fsF P x t = -1 := fun c => h (pif_t c)
    have e : runL P L (x :: l) t = runL P L l (fsF P x t + L x) := pif_f h1
    rw [e] at h ⊢
    rcases fsF_spec P x t with ⟨g1, -⟩ | ⟨g1, g2, -⟩
    · exact absurd g1 h1
    · have a1 := hP x _ g2
      have a2 := hL x
      have := runL_sum hL hP l (fsF P x t + L x) (by omega) a1 h
      show t + (L x + sumL L l) ≤ _ ∧ _ ∧ 0 ≤ L x + sumL L l
      omega
theorem mx_best {m : Mm} {s n k : Int} {P : Int → Int → Prop} {L : Int → Int} (k0 : 0 ≤ k) (k1 : k ≤ 5) (hX : ∀ x, 0 ≤ x → x < ((k.toNat : Nat) : Int) → oL m x = L x ∧ ∀ u, fsF (oP m s n) x u = fsF P x u) (hL : ∀ j, 0 ≤ L j) (hP : ∀ j v, P j v → v + L j ≤ 24) : ∀ (q : Nat) (i z : Int), 0 ≤ i → i + q = facN k → ((z = 0 ∨ ∃ l, okL k l ∧ ¬ runL P L l 0 = -1 ∧ sumL L l = z) ∧ 0 ≤ z ∧ ∀ c, 0 ≤ c → c < i → filR m s n k.toNat k.toNat k 0 c 0 0 ≤ z) → BEST P L k (mxW m s n k q i z) := by
  have hk : ((k.toNat : Nat) : Int) = k := by omega
  have hfac := fct_n ⟨k.toNat, by omega⟩
  have e1 : facN k = fct k.toNat := by
    have := hfac.1
    rwa [show (((⟨k.toNat, by omega⟩ : Fin 6).val : Nat) : Int) = k from hk] at this
  have e2 : fct k.toNat ≤ 120 := hfac.2.2
  have hcnt : cntF 0 k.toNat 0 = (k.toNat : Int) := cnt0 ⟨k.toNat, by omega⟩
  have hof : ∀ c, 0 ≤ c → c < 1000 → ∃ l', okL k l' ∧ ¬ runL P L l' 0 = -1 ∧ filR m s n k.toNat k.toNat k 0 c 0 0 = sumL L l' := fun c c0 c1 => by
    have := fil_of (k := k.toNat) (by omega) hX hL hP k.toNat k 0 c 0 0 [] (by omega) hcnt (by decide) (by decide) c0 c1 (by omega) ⟨List.nodup_nil, fun x hx => absurd hx List.not_mem_nil⟩ (fun x hx => absurd hx List.not_mem_nil) rfl (by decide) (by decide) rfl
    rw [hk] at this
    exact this
  intro q
  induction q with
  | zero =>
    intro i z i0 hi hz
    obtain ⟨z1, z2, z3⟩ := hz
    refine ⟨z1, z2, fun l hok hr => ?_⟩
    obtain ⟨c, c0, c1, c2⟩ := fil_get (k := k.toNat) (m := m) (s := s) (n := n) (by omega) hX hL hP k.toNat k 0 0 0 l (by omega) hcnt (by decide) (by decide) (by omega) (by rw [hk]; exact hok) (fun x _ => tb_0 x) hr (by decide) (by decide)
    have := z3 c c0 (by omega)
    show sumL L l ≤ z
    omega
  | succ q ih =>
    intro i z i0 hi hz
    obtain ⟨z1, z2, z3⟩ := hz
    obtain ⟨l', l1, l2, l3⟩ := hof i i0 (by omega)
    have hb := runL_sum hL hP l' 0 (by decide) (by decide) l2
    have hzb : z ≤ 24 := by
      rcases z1 with e | ⟨l, y1, y2, y3⟩
      · omega
      · have := runL_sum hL hP l 0 (by decide) (by decide) y2; omega
    show BEST P L k (mxW m s n k q (i + 1) (pif (wr z < wr (filR m s n k.toNat k.toNat k 0 i 0 0)) (filR m s n k.toNat k.toNat k 0 i 0 0) z))
    rw [wr_of (z := z) (by omega) (by omega), wr_of (z := filR m s n k.toNat k.toNat k 0 i 0 0) (by omega) (by omega)]
    by_cases c : z < filR m s n k.toNat k.toNat k 0 i 0 0
    · rw [pif_t c]
      refine ih (i + 1) _ (by omega) (by omega) ⟨Or.inr ⟨l', l1, l2, l3.symm⟩, by omega, fun c' c0 c1 => ?_⟩
      by_cases e : c' = i
      · rw [e]; exact Int.le_refl _
      · have := z3 c' c0 (by omega); omega
    · rw [pif_f c]
      refine ih (i + 1) _ (by omega) (by omega) ⟨z1, z2, fun c' c0 c1 => ?_⟩
      by_cases e : c' = i
      · rw [e]; omega
      · exact z3 c' c0 (by omega)
theorem mfM_o (s n k : Int) (k9 : Nat) (i9 j9 : Int) (h : k9 ≠ 4) : ∀ (q : Nat) (z : Int) (m : Mm), rd (mfM s n k q z m) k9 i9 j9 = rd m k9 i9 j9
  | 0, _, _ => rfl
  | q + 1, z, m => (mfM_o s n k k9 i9 j9 h q (z + 1) _).trans (rd_st_ne h)
/-- the answers of bestOrder are the same -/
theorem best_step {a m : Mm} (h : FU a m) {s n : Int} (s0 : 0 ≤ s) (s1 : s < 3) (n0 : 0 ≤ n) (n1 : n < 30) : bstR a s n = mboV m s n ∧ FU (bstM a s n) (mboM m s n) := by
  have hT0 : 0 ≤ rd m 40 0 25 := h.1.2.2.2.1.1
  have hT : rd m 40 0 25 ≤ 24 := h.1.2.2.2.1.2
  have e7 : rd a 5 0 7 = rd m 40 0 25 := h.1.2.1.1.2.1
  obtain ⟨g1, g2, g3, g4, g5⟩ := sel_eq h s0 s1 n0 n1 (rd m 40 0 25).toNat 0 0 a m (by decide) (by omega) (by decide) (by decide) (fun _ _ _ _ _ => rfl) (fun _ _ _ _ => rfl) (fun j j0 j1 => by omega)
  unfold bstR bstM mboV
  rw [e7, g1]
  change mstR _ s n (mboK m s n) = mxW (mboM m s n) s n (mboK m s n) (facN (mboK m s n)).toNat 0 0 ∧ FU (mstM _ s n (mboK m s n)) (mboM m s n)
  change (0 ≤ mboK m s n ∧ mboK m s n ≤ 5) at g2
  change fewR _ (mboM m s n) (mboK m s n) _ at g3
  change ∀ (k9 : Nat) (i9 j : Int), k9 ≠ 100 → rd (mboM m s n) k9 i9 j = rd m k9 i9 j at g5
  generalize fwM s n (rd m 40 0 25).toNat 0 0 a = m3 at g3 g4 ⊢
  generalize mboM m s n = mM at g3 g5 ⊢
  generalize mboK m s n = k at g2 g3 ⊢
  obtain ⟨k0, k1⟩ := g2
  have hF3 : FU m3 mM := FU_few h g4 g5
  have hk : ((k.toNat : Nat) : Int) = k := by omega
  have hTM : rd mM 40 0 25 = rd m 40 0 25 := g5 40 0 25 (by decide)
  have hrr : ∀ j, 0 ≤ j → j < k → 1 ≤ oL mM j ∧ oL mM j ≤ 6 := fun j j0 j1 => by
    obtain ⟨-, f1, f2⟩ := g3 j j0 j1
    exact (hF3.1.2.1.2.2.2.1 _ f1 (by rw [hTM]; exact f2)).1.1.2.2.2.2.2.2.2.2
  have hL : ∀ j, 0 ≤ (fun j => if 0 ≤ j ∧ j < k then oL mM j else 0) j := fun j => by
    by_cases c : 0 ≤ j ∧ j < k
    · dsimp only; rw [if_pos c]; have := hrr j c.1 c.2; omega
    · dsimp only; rw [if_neg c]; exact Int.le_refl _
  have hPP : ∀ j v, (fun j v => (0 ≤ j ∧ j < k) ∧ oP mM s n j v) j v → v + (fun j => if 0 ≤ j ∧ j < k then oL mM j else 0) j ≤ 24 := fun j v hv => by
    dsimp only at hv ⊢
    rw [if_pos hv.1]
    exact hv.2.2.2.2.2.2.2.1
  have hX : ∀ x, 0 ≤ x → x < ((k.toNat : Nat) : Int) → oL mM x = (fun j => if 0 ≤ j ∧ j < k then oL mM j else 0) x ∧ ∀ u, fsF (oP mM s n) x u = fsF (fun j v => (0 ≤ j ∧ j < k) ∧ oP mM s n j v) x u := fun x x0 x1 => by
    refine ⟨(if_pos ⟨x0, by omega⟩).symm, fun u => ?_⟩
    unfold fsF
    exact fup_congr _ _ (fun z _ _ => ⟨fun c => ⟨⟨x0, by omega⟩, c⟩, fun c => c.2⟩)
  have r4 : ∀ (k9 : Nat) (i j : Int), k9 ≠ 4 → rd (st m3 4 0 0 (wr 0)) k9 i j = rd m3 k9 i j := fun k9 i j h9 => rd_st_ne h9
  have hA : BEST (fun j v => (0 ≤ j ∧ j < k) ∧ oP mM s n j v) (fun j => if 0 ≤ j ∧ j < k then oL mM j else 0) k (mstR m3 s n k) := by
    have h32 := shq_r k0 k1
    unfold mstR
    refine mfR_best (m0 := st m3 4 0 0 (wr 0)) k0 k1 hL hPP (fun mm hmm j j0 j1 => ?_) (jshl 1 k - 1).toNat 1 _ 0 (by decide) (by omega) (fun _ _ _ _ => rfl) (fun z z0 z1 => ?_) ?_
    · obtain ⟨f0, f1, f2⟩ := g3 j j0 j1
      have hmr : ∀ (k9 : Nat) (i j : Int), k9 ≠ 4 → rd mm k9 i j = rd m3 k9 i j := fun k9 i j h9 => (hmm k9 i j h9).trans (r4 k9 i j h9)
      have hFm : FU mm mM := FU_few hF3 (fun k9 i j h3 h9 => hmr k9 i j h9) (fun _ _ _ _ => rfl)
      have e3 : rd mm 3 0 j = rd mM 100 0 j := (hmr 3 0 j (by decide)).trans f0
      refine ⟨?_, fun u u0 u1 => ?_⟩
      · unfold mfV
        rw [if_pos ⟨j0, j1⟩, e3]
        exact (hFm.1.2.1.2.2.2.1 _ f1 (by rw [hTM]; exact f2)).1.1.2.2.1
      · rw [e3, fb_fs hFm f1 (by rw [hTM]; exact f2) s0 s1 n0 n1 u0]
        exact ((hX j j0 (by omega)).2 u)
    · have hz : z = 0 := by omega
      subst hz
      rw [rd_st, if_pos ⟨rfl, rfl, rfl⟩]
      exact endOK_0 _ _ _ k1
    · refine ⟨Or.inl rfl, Int.le_refl _, fun l z hok hM z0 z1 _ => ?_⟩
      have hz : z = 0 := by omega
      subst hz
      cases l with
      | nil => exact Int.le_refl _
      | cons x l =>
        have hx := hok.2 x List.mem_cons_self
        have := (hM x hx.1 (by omega)).mpr List.mem_cons_self
        rw [tb_0] at this
        exact absurd this (by decide)
  have hfr := fac_r ⟨k.toNat, by omega⟩
  rw [show (((⟨k.toNat, by omega⟩ : Fin 6).val : Nat) : Int) = k from hk] at hfr
  have hB := mx_best k0 k1 hX hL hPP (facN k).toNat 0 0 (by decide) (by omega) ⟨Or.inl rfl, Int.le_refl _, fun c c0 c1 => by omega⟩
  exact ⟨BEST_one hA hB, FU_few hF3 (fun k9 i j h3 h9 => by unfold mstM; rw [mfM_o _ _ _ _ _ _ h9]; exact r4 k9 i j h9) (fun _ _ _ _ => rfl)⟩
