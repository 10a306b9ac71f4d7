/-! ===== the model, XVI: a slot, the run ===== -/
def sK (k : Nat) (j : Int) : Prop := ¬ (k = 40 ∧ (j = 51 ∨ j = 58)) ∧ ¬ (93 ≤ k ∧ k ≤ 98) ∧ ¬ (72 ≤ k ∧ k ≤ 85)
theorem rd_siM (m : Mm) (s n u : Int) (k : Nat) (i j : Int) (h : sK k j) : rd (siM m s n u) k i j = rd m k i j := by
  unfold sK at h
  have hd : dK k j := by unfold dK; omega
  unfold siM
  by_cases q : msnC m s n u = 0
  · rw [pif_t q]
    unfold siF
    rw [rd_st_ne (by omega), rd_mcl _ _ _ _ _ _ (by omega)]
  · rw [pif_f q]
    have e1 : rd (siA m s n u) k i j = rd m k i j := rd_alm _ _ _ _ _ _ _ (by omega)
    have e2 : rd (siB (siA m s n u) s n u) k i j = rd m k i j := by
      unfold siB
      by_cases q : rd (siA m s n u) 80 0 s < 0
      · rw [pif_t q, rd_rsm _ _ _ _ _ _ _ (by omega), e1]
      · rw [pif_f q, e1]
    have e3 : rd (siD (siB (siA m s n u) s n u) s n u) k i j = rd m k i j := by
      unfold siD
      by_cases q : rd (siB (siA m s n u) s n u) 80 0 s < 0
      · rw [pif_t q, rd_chs _ _ _ _ _ _ _ (by omega), e2]
      · rw [pif_f q, e2]
    generalize siD (siB (siA m s n u) s n u) s n u = m3 at e3 ⊢
    have e4 : rd (si2 (si1 m3 s) s n u) k i j = rd m k i j := by
      unfold si2 si1
      rw [rd_st_ne (by omega), rd_st_ne (by omega), e3]
    unfold siE
    by_cases q : rd m3 80 0 s < 0
    · rw [pif_t q, rd_st_ne (by omega), e3]
    · rw [pif_f q]
      generalize si2 (si1 m3 s) s n u = m4 at e4 ⊢
      unfold si3
      by_cases q : rd m4 81 0 s = rd m4 57 0 (rd m4 80 0 s)
      · rw [pif_t q, rd_don _ _ _ _ _ _ _ hd, e4]
      · rw [pif_f q, e4]
noncomputable def slA (mm : Mm) (n u : Int) : Mm := siM (siM (siM mm 0 n u) (0 + 1) n u) (0 + 1 + 1) n u
noncomputable def slB (m : Mm) (s : Int) : Mm := st (pif (rd m 80 0 s < 0) m (mlsC m (rd m 80 0 s) (rd m 81 0 s))) 80 0 s (wr (-1))
noncomputable def slT (t : Int) (m : Mm) : Mm := st (pif (0 < rd m 83 0 t) (mlsC m t (rd m 83 0 t)) m) 83 0 t (wr 0)
noncomputable def slE (m : Mm) : Mm := fori slT (rd m 40 0 25).toNat 0 (slB (slB (slB m 0) (0 + 1)) (0 + 1 + 1))
noncomputable def slM (mm : Mm) (n u : Int) : Mm := pif (u = 23) (slE (slA mm n u)) (slA mm n u)
theorem MV_slB {m : Mm} (h : MV m) (s : Int) : MV (slB m s) := by
  have e : ∀ (k : Nat) (i j : Int), k ≠ 77 → k ≠ 80 → rd (slB m s) k i j = rd m k i j := by
    intro k i j h1 h2
    unfold slB
    rw [rd_st_ne h2]
    by_cases q : rd m 80 0 s < 0
    · rw [pif_t q]
    · rw [pif_f q, rd_mls _ _ _ _ _ _ h1]
  refine MV_of h (fun k i j hk => by have := tq_r hk; exact e k i j (by omega) (by omega)) ?_ (by rw [e 40 0 58 (by decide) (by decide)]; exact h.2.2)
  unfold slB
  refine VM_end (VM_same h.2.1 (fun i => ?_)) s
  by_cases q : rd m 80 0 s < 0
  · rw [pif_t q]
  · rw [pif_f q, rd_mls _ _ _ _ _ _ (by decide)]
theorem rd_slB (m : Mm) (s : Int) (k : Nat) (i j : Int) (h1 : k ≠ 77) (h2 : k ≠ 80) : rd (slB m s) k i j = rd m k i j := by
  unfold slB
  rw [rd_st_ne h2]
  by_cases q : rd m 80 0 s < 0
  · rw [pif_t q]
  · rw [pif_f q, rd_mls _ _ _ _ _ _ h1]
theorem rd_slT (m : Mm) (t : Int) (k : Nat) (i j : Int) (h1 : k ≠ 77) (h2 : k ≠ 83) : rd (slT t m) k i j = rd m k i j := by
  unfold slT
  rw [rd_st_ne h2]
  by_cases q : 0 < rd m 83 0 t
  · rw [pif_t q, rd_mls _ _ _ _ _ _ h1]
  · rw [pif_f q]
theorem MV_slT {m : Mm} (h : MV m) (t : Int) : MV (slT t m) :=
  MV_of h (fun k i j hk => by have := tq_r hk; exact rd_slT _ _ _ _ _ (by omega) (by omega)) (VM_same h.2.1 (fun i => rd_slT _ _ _ _ _ (by decide) (by decide))) (by rw [rd_slT _ _ _ _ _ (by decide) (by decide)]; exact h.2.2)
set_option maxRecDepth 100000 in
set_option maxHeartbeats 400000 in
theorem M_mslot (n u : Int) (mm : Mm) (o : Int64) (hM : MV mm) (n0 : 0 ≤ n) (n1 : n < 30) (u0 : 0 ≤ u) (u1 : u < 24) : MetX iX11_slot [xr 40 0, xi n, xi u] mm o (rtv (slM mm n u) o) := by
  refine MetX.of 0 (by decide +kernel) rfl (Nat.le_of_ble_eq_true rfl) ⟨by decide, by decide⟩ ?_
  intro p l e s m args below meth c Q V D ad A hC hN hok hF
  have h1 := MV_siM hM 0 n u
  have h2 := MV_siM h1 (0 + 1) n u
  have h3 : MV (slA mm n u) := MV_siM h2 (0 + 1 + 1) n u
  have loop : ∀ (k : Nat) (t : Int) (m9 : Mm), 0 ≤ t → t + k = rd m9 40 0 25 → MV m9 → fori slT k t m9 = slM mm n u → Wx p l e (mrm iX11_slot) s m args below meth c 0 0 Q V D ad A 4 73 [(0, xr 40 0), (1, xi n), (2, xi u), (3, xi t)] [] m9 o := by
    intro k
    induction k with
    | zero =>
      intro t m9 t0 ht h9 he
      have hh := rd_hi m9 40 0 25
      refine wpx hC tkX11_slot hF [73] 200 ?_
      refine ⟨fun _ => ⟨rfl, he.symm, rfl⟩, fun q => ?_⟩
      rw [wr_rd, wr_of (by omega) (by omega)] at q; omega
    | succ k ih =>
      intro t m9 t0 ht h9 he
      have hh := h9.1.2.1.2
      have t2 : 0 ≤ t ∧ t < 24 := by omega
      have next : ∀ m8, m8 = pif (0 < rd m9 83 0 t) (mlsC m9 t (rd m9 83 0 t)) m9 → Wx p l e (mrm iX11_slot) s m args below meth c 0 0 Q V D ad A 4 101 [(0, xr 40 0), (1, xi n), (2, xi u), (3, xi t)] [] m8 o := by
        rintro m8 rfl
        refine wpx hC tkX11_slot hF [73] 200 ?_
        refine ⟨t2, ih (t + 1) (slT t m9) (by omega) ?_ (MV_slT h9 t) he⟩
        rw [rd_slT _ _ _ _ _ (by decide) (by decide)]; omega
      refine wpx hC tkX11_slot hF [73, 101] 200 ?_
      refine ⟨fun q => ?_, fun _ => ⟨t2, fun q => next m9 (pif_f ?_).symm, fun q => ⟨t2, ?_⟩⟩⟩
      · rw [wr_rd, wr_of (by omega) (by omega)] at q; omega
      · rw [wr_rd] at q; omega
      rw [wr_rd] at q
      refine Wx.callV (x := iX11_slot) (y := iX11_lose) (k := 40) (avs := [_, _]) (rest := []) hC hN tkX11_slot rfl rfl kX11_lose rfl (M_mlose _ _ _ _ h9.1 t2.1 (by omega)) ⟨rfl, rfl⟩ rfl (Nat.le_of_ble_eq_true rfl) (by exact nol rfl) ?_
      rintro r mm' o' ⟨rfl, rfl, rfl⟩
      exact next _ (pif_t (by omega)).symm
  have shut : ∀ (s9 : Int) (m9 : Mm), 0 ≤ s9 → s9 < 3 → MV m9 → Wx p l e (mrm iX11_slot) s m args below meth c 0 0 Q V D ad A 4 28 [(0, xr 40 0), (1, xi n), (2, xi u), (3, xi (s9 + 1))] [] (slB m9 s9) o → Wx p l e (mrm iX11_slot) s m args below meth c 0 0 Q V D ad A 4 28 [(0, xr 40 0), (1, xi n), (2, xi u), (3, xi s9)] [] m9 o := by
    intro s9 m9 s0 s1 h9 hk
    have s2 : 0 ≤ s9 ∧ s9 < 3 := ⟨s0, s1⟩
    have hv := h9.2.1 s9 s0 s1
    have next : ∀ m8, m8 = pif (rd m9 80 0 s9 < 0) m9 (mlsC m9 (rd m9 80 0 s9) (rd m9 81 0 s9)) → Wx p l e (mrm iX11_slot) s m args below meth c 0 0 Q V D ad A 4 58 [(0, xr 40 0), (1, xi n), (2, xi u), (3, xi s9)] [] m8 o := by
      rintro m8 rfl
      refine wpx hC tkX11_slot hF [28] 200 ?_
      exact ⟨s2, hk⟩
    refine wpx hC tkX11_slot hF [28, 58] 200 ?_
    refine ⟨fun q => ?_, fun _ => ⟨s2, fun q => next m9 (pif_t ?_).symm, fun q => ⟨s2, s2, ?_⟩⟩⟩
    · rw [show wr 3 = 3 from rfl, wr_of (by omega) (by omega)] at q; omega
    · rw [wr_rd] at q; exact q
    rw [wr_rd] at q
    refine Wx.callV (x := iX11_slot) (y := iX11_lose) (k := 40) (avs := [_, _]) (rest := []) hC hN tkX11_slot rfl rfl kX11_lose rfl (M_mlose _ _ _ _ h9.1 (by omega) hv.2) ⟨rfl, rfl⟩ rfl (Nat.le_of_ble_eq_true rfl) (by exact nol rfl) ?_
    rintro r mm' o' ⟨rfl, rfl, rfl⟩
    exact next _ (pif_f q).symm
  have site : ∀ (s9 : Int) (m9 : Mm), 0 ≤ s9 → s9 < 3 → MV m9 → Wx p l e (mrm iX11_slot) s m args below meth c 0 0 Q V D ad A 4 2 [(0, xr 40 0), (1, xi n), (2, xi u), (3, xi (s9 + 1))] [] (siM m9 s9 n u) o → Wx p l e (mrm iX11_slot) s m args below meth c 0 0 Q V D ad A 4 2 [(0, xr 40 0), (1, xi n), (2, xi u), (3, xi s9)] [] m9 o := by
    intro s9 m9 s0 s1 h9 hk
    refine wpx hC tkX11_slot hF [2] 200 ?_
    refine ⟨fun q => ?_, fun _ => ?_⟩
    · rw [show wr 3 = 3 from rfl, wr_of (by omega) (by omega)] at q; omega
    refine Wx.callV (x := iX11_slot) (y := iX11_site) (k := 40) (avs := [_, _, _]) (rest := []) hC hN tkX11_slot rfl rfl kX11_site rfl (M_msite _ _ _ _ _ h9 s0 s1 n0 n1 u0 u1) ⟨rfl, rfl⟩ rfl (Nat.le_of_ble_eq_true rfl) (by exact nol rfl) ?_
    rintro r mm' o' ⟨rfl, rfl, rfl⟩
    refine wpx hC tkX11_slot hF [2] 200 ?_
    exact hk
  refine wpx hC tkX11_slot hF [2] 200 ?_
  refine site 0 _ (by decide) (by decide) hM ?_
  refine site (0 + 1) _ (by decide) (by decide) h1 ?_
  refine site (0 + 1 + 1) _ (by decide) (by decide) h2 ?_
  refine wpx hC tkX11_slot hF [28] 200 ?_
  refine ⟨fun _ => ⟨fun q => ?_, fun q => ?_⟩, fun q => absurd (by decide) q⟩
  · rw [show wr 23 = 23 from rfl, wr_of (by omega) (by omega)] at q
    exact ⟨rfl, pif_f q, rfl⟩
  · rw [show wr 23 = 23 from rfl, wr_of (by omega) (by omega)] at q
    have b1 := MV_slB h3 0
    have b2 := MV_slB b1 (0 + 1)
    have b3 := MV_slB b2 (0 + 1 + 1)
    refine shut 0 _ (by decide) (by decide) h3 ?_
    refine shut (0 + 1) _ (by decide) (by decide) b1 ?_
    refine shut (0 + 1 + 1) _ (by decide) (by decide) b2 ?_
    refine wpx hC tkX11_slot hF [73] 200 ?_
    refine ⟨fun _ => ?_, fun q => absurd (by decide) q⟩
    have h25 := h3.1.2.1.1
    refine loop (rd (slA mm n u) 40 0 25).toNat 0 _ (by decide) ?_ b3 ?_
    · show _ = rd (slB (slB (slB (slA mm n u) 0) (0 + 1)) (0 + 1 + 1)) 40 0 25
      rw [rd_slB _ _ _ _ _ (by decide) (by decide), rd_slB _ _ _ _ _ (by decide) (by decide), rd_slB _ _ _ _ _ (by decide) (by decide)]; omega
    · exact (pif_t q).symm
theorem fori_mk {P : Mm → Prop} {f : Int → Mm → Mm} (h : ∀ t m, P m → P (f t m)) : ∀ (n : Nat) (c : Int) (m : Mm), P m → P (fori f n c m)
  | 0, c, m, hm => hm
  | n + 1, c, m, hm => fori_mk h n (c + 1) (f c m) (h c m hm)
theorem rd_slM (m : Mm) (n u : Int) (k : Nat) (i j : Int) (h : sK k j) : rd (slM m n u) k i j = rd m k i j := by
  have h' := h
  unfold sK at h'
  have e1 : rd (slA m n u) k i j = rd m k i j := by
    unfold slA
    rw [rd_siM _ _ _ _ _ _ _ h, rd_siM _ _ _ _ _ _ _ h, rd_siM _ _ _ _ _ _ _ h]
  unfold slM
  by_cases q : u = 23
  · rw [pif_t q]
    unfold slE
    refine fori_mk (P := fun m9 => rd m9 k i j = rd m k i j) (fun t m9 h9 => (rd_slT _ _ _ _ _ (by omega) (by omega)).trans h9) _ _ _ ?_
    rw [rd_slB _ _ _ _ _ (by omega) (by omega), rd_slB _ _ _ _ _ (by omega) (by omega), rd_slB _ _ _ _ _ (by omega) (by omega), e1]
  · rw [pif_f q, e1]
theorem MV_slM {m : Mm} (h : MV m) (n u : Int) : MV (slM m n u) := by
  have h3 : MV (slA m n u) := MV_siM (MV_siM (MV_siM h _ _ _) _ _ _) _ _ _
  unfold slM
  by_cases q : u = 23
  · rw [pif_t q]
    exact fori_mk (P := MV) (fun t m9 h9 => MV_slT h9 t) _ _ _ (MV_slB (MV_slB (MV_slB h3 _) _) _)
  · rw [pif_f q]; exact h3
