/-! ===== the model's orders: each is tried ===== -/
theorem pkf_n : ∀ k : Fin 6, ∀ u : Fin 32, ∀ r : Fin 5, ((r.val : Int) < cntF (u.val : Int) k.val 0 → tb (u.val : Int) (pkX (u.val : Int) k.val 0 (r.val : Int) (-1)) = false) := by decide +kernel
theorem pkf {k : Nat} {u r : Int} (hk : k ≤ 5) (u0 : 0 ≤ u) (u1 : u < 32) (r0 : 0 ≤ r) (r1 : r < 5) (h : r < cntF u k 0) : tb u (pkX u k 0 r (-1)) = false := by
  have h9 := pkf_n ⟨k, by omega⟩ ⟨u.toNat, by omega⟩ ⟨r.toNat, by omega⟩
  have e1 : ((u.toNat : Nat) : Int) = u := by omega
  have e2 : ((r.toNat : Nat) : Int) = r := by omega
  simp only [e1, e2] at h9
  exact h9 h
theorem pke_n : ∀ k : Fin 6, ∀ u : Fin 32, ∀ x : Fin 5, (x.val < k.val → tb (u.val : Int) (x.val : Int) = false → ∃ r : Fin 5, (r.val : Int) < cntF (u.val : Int) k.val 0 ∧ pkX (u.val : Int) k.val 0 (r.val : Int) (-1) = (x.val : Int)) := by decide +kernel
theorem pke {k : Nat} {u x : Int} (hk : k ≤ 5) (u0 : 0 ≤ u) (u1 : u < 32) (x0 : 0 ≤ x) (x1 : x < (k : Int)) (h : tb u x = false) : ∃ r, 0 ≤ r ∧ r < 5 ∧ r < cntF u k 0 ∧ pkX u k 0 r (-1) = x := by
  have h9 := pke_n ⟨k, by omega⟩ ⟨u.toNat, by omega⟩ ⟨x.toNat, by omega⟩
  have e1 : ((u.toNat : Nat) : Int) = u := by omega
  have e2 : ((x.toNat : Nat) : Int) = x := by omega
  simp only [e1, e2] at h9
  obtain ⟨r, h1, h2⟩ := h9 (by omega) h
  exact ⟨(r.val : Int), by omega, by have := r.isLt; omega, h1, h2⟩
theorem fvw_fup (m : Mm) (t s n : Int) : ∀ (k : Nat) (v : Int), 0 ≤ v → fvw m t s n k v = pif (fup (fun v => msuP m t s n v (rd m 57 0 t)) k v = -1) (v + k) (fup (fun v => msuP m t s n v (rd m 57 0 t)) k v)
  | 0, v, _ => by
    show v = pif ((-1 : Int) = -1) (v + (0 : Nat)) (-1)
    rw [pif_t rfl]; omega
  | k + 1, v, v0 => by
    show pif (msuP m t s n v (rd m 57 0 t)) v (fvw m t s n k (v + 1)) = pif (pif (msuP m t s n v (rd m 57 0 t)) v (fup (fun v => msuP m t s n v (rd m 57 0 t)) k (v + 1)) = -1) (v + (k + 1 : Nat)) (pif (msuP m t s n v (rd m 57 0 t)) v (fup (fun v => msuP m t s n v (rd m 57 0 t)) k (v + 1)))
    by_cases q : msuP m t s n v (rd m 57 0 t)
    · rw [pif_t q, pif_t q]
      rw [pif_f (p := v = -1) (by omega)]
    · rw [pif_f q, pif_f q, fvw_fup m t s n k (v + 1) (by omega)]
      rw [show v + ((k + 1 : Nat) : Int) = v + 1 + (k : Int) by omega]
/-- an order's target, its length and its slots -/
noncomputable def oT (m : Mm) (j : Int) : Int := rd m 100 0 j
noncomputable def oL (m : Mm) (j : Int) : Int := rd m 57 0 (oT m j)
def oP (m : Mm) (s n j v : Int) : Prop := msuP m (oT m j) s n v (oL m j)
theorem fil_time (m : Mm) (s n j : Int) {tm : Int} (t0 : 0 ≤ tm) (t1 : tm ≤ 24) : pif (fvF m (oT m j) s n tm < 24) (fvF m (oT m j) s n tm + oL m j) tm = pif (fsF (oP m s n) j tm = -1) tm (fsF (oP m s n) j tm + oL m j) ∧ pif (fvF m (oT m j) s n tm < 24) (oL m j) 0 = pif (fsF (oP m s n) j tm = -1) 0 (oL m j) := by
  have e : fvF m (oT m j) s n tm = pif (fsF (oP m s n) j tm = -1) (tm + (24 - tm).toNat) (fsF (oP m s n) j tm) := fvw_fup m (oT m j) s n _ tm t0
  rw [e]
  rcases fsF_spec (oP m s n) j tm with ⟨h1, -⟩ | ⟨h1, -⟩
  · rw [pif_t h1, pif_t h1, pif_t h1, pif_f (by omega), pif_f (by omega)]; exact ⟨rfl, rfl⟩
  · rw [pif_f (p := fsF (oP m s n) j tm = -1) (by omega), pif_f (p := fsF (oP m s n) j tm = -1) (by omega), pif_f (p := fsF (oP m s n) j tm = -1) (by omega), pif_t h1.2, pif_t h1.2]; exact ⟨rfl, rfl⟩
theorem fil_step (m : Mm) (s n : Int) (k i : Nat) {w u c tm tt : Int} (t0 : 0 ≤ tm) (t1 : tm ≤ 24) : filR m s n k (i + 1) w u c tm tt = filR m s n k i (w + (-1)) (jor u (jshl 1 (pkX u k 0 (jrem c w) (-1)))) (jdiv c w) (pif (fsF (oP m s n) (pkX u k 0 (jrem c w) (-1)) tm = -1) tm (fsF (oP m s n) (pkX u k 0 (jrem c w) (-1)) tm + oL m (pkX u k 0 (jrem c w) (-1)))) (tt + pif (fsF (oP m s n) (pkX u k 0 (jrem c w) (-1)) tm = -1) 0 (oL m (pkX u k 0 (jrem c w) (-1)))) := by
  have h := fil_time m s n (pkX u k 0 (jrem c w) (-1)) t0 t1
  rw [← h.1, ← h.2]
  rfl
theorem tb_jor {u x y : Int} (x0 : 0 ≤ x) (x1 : x < 5) (y0 : 0 ≤ y) (y1 : y < 5) : tb (jor u (jshl 1 x)) y = (tb u y || decide (y = x)) := by
  rw [tb_or, tb_shl y0 (by omega) x0 (by omega)]
/-- each order's total is that of the targets that it places -/
theorem fil_of {m : Mm} {s n : Int} {k : Nat} {P : Int → Int → Prop} {L : Int → Int} (hk : k ≤ 5) (hX : ∀ x, 0 ≤ x → x < (k : Int) → oL m x = L x ∧ ∀ u, fsF (oP m s n) x u = fsF P x u) (hL : ∀ j, 0 ≤ L j) (hP : ∀ j v, P j v → v + L j ≤ 24) : ∀ (i : Nat) (w u c tm tt : Int) (l : List Int), w = i → cntF u k 0 = i → 0 ≤ u → u < 32 → 0 ≤ c → c < 1000 → i ≤ 5 → okL k l → (∀ x ∈ l, tb u x = true) → runL P L l 0 = tm → 0 ≤ tm → tm ≤ 24 → tt = sumL L l → ∃ l', okL k l' ∧ ¬ runL P L l' 0 = -1 ∧ filR m s n k i w u c tm tt = sumL L l'
  | 0, w, u, c, tm, tt, l, _, _, _, _, _, _, _, hok, _, hr, t0, _, ht => ⟨l, hok, by omega, ht⟩
  | i + 1, w, u, c, tm, tt, l, hw, hc, u0, u1, c0, c1, hi, hok, hu, hr, t0, t1, ht => by
    rw [fil_step m s n k i t0 t1]
    have er : jrem c w = c % w := jrem_of c0 (by omega) (by omega) (by omega)
    have ed : jdiv c w = c / w := jdiv_of c0 (by omega) (by omega) (by omega)
    have r0 : 0 ≤ jrem c w := by rw [er]; exact Int.emod_nonneg _ (by omega)
    have r1 : jrem c w < w := by rw [er]; exact Int.emod_lt_of_pos _ (by omega)
    have d0 : 0 ≤ jdiv c w := by rw [ed]; exact Int.ediv_nonneg c0 (by omega)
    have d1 : jdiv c w < 1000 := by rw [ed]; have := Int.ediv_le_self w c0; omega
    obtain ⟨⟨x0, x1⟩, p1, p2, p3⟩ := pk_ok (k := k) hk u0 u1 r0 (show jrem c w < 5 by omega) (by omega)
    have hfree := pkf (k := k) hk u0 u1 r0 (show jrem c w < 5 by omega) (by omega)
    generalize pkX u k 0 (jrem c w) (-1) = x at *
    rw [(hX x x0 x1).1, (hX x x0 x1).2]
    have hnew : ∀ y ∈ l, tb (jor u (jshl 1 x)) y = true := fun y hy => by
      have hy2 := hok.2 y hy
      rw [tb_jor x0 (by omega) hy2.1 (by omega), hu y hy]; rfl
    have hx : x ∉ l := fun hx => by rw [hu x hx] at hfree; exact absurd hfree (by decide)
    by_cases q : fsF P x tm = -1
    · rw [pif_t q, pif_t q, Int.add_zero]
      exact fil_of hk hX hL hP i (w + (-1)) _ _ tm tt l (by omega) (by rw [p1, hc]; omega) p2 p3 d0 d1 (by omega) hok hnew hr t0 t1 ht
    · rw [pif_f q, pif_f q]
      rcases fsF_spec P x tm with ⟨h1, -⟩ | ⟨h1, h2, -⟩
      · exact absurd h1 q
      · have hP2 := hP x _ h2
        have hL2 := hL x
        refine fil_of hk hX hL hP i (w + (-1)) _ _ _ _ (l ++ [x]) (by omega) (by rw [p1, hc]; omega) p2 p3 d0 d1 (by omega) (okL_app hok x0 x1 hx) (fun y hy => ?_) ?_ (by omega) hP2 (by rw [sumL_app, ht])
        · rcases List.mem_append.mp hy with hy | hy
          · exact hnew y hy
          · rw [List.mem_singleton.mp hy, tb_jor x0 (by omega) x0 (by omega), decide_eq_true rfl, Bool.or_true]
        · rw [runL_app _ _ hL x l 0 (by decide), hr, pif_f (by omega), pif_f q]
def fct : Nat → Int
  | 0 => 1
  | n + 1 => ((n + 1 : Nat) : Int) * fct n
theorem fct_n : ∀ k : Fin 6, facN (k.val : Int) = fct k.val ∧ 1 ≤ fct k.val ∧ fct k.val ≤ 120 := by decide +kernel
/-- each order of some of them is the head of an order that is tried -/
theorem fil_get {m : Mm} {s n : Int} {k : Nat} {P : Int → Int → Prop} {L : Int → Int} (hk : k ≤ 5) (hX : ∀ x, 0 ≤ x → x < (k : Int) → oL m x = L x ∧ ∀ u, fsF (oP m s n) x u = fsF P x u) (hL : ∀ j, 0 ≤ L j) (hP : ∀ j v, P j v → v + L j ≤ 24) : ∀ (i : Nat) (w u tm tt : Int) (l : List Int), w = i → cntF u k 0 = i → 0 ≤ u → u < 32 → i ≤ 5 → okL k l → (∀ x ∈ l, tb u x = false) → ¬ runL P L l tm = -1 → 0 ≤ tm → tm ≤ 24 → ∃ c, 0 ≤ c ∧ c < fct i ∧ tt + sumL L l ≤ filR m s n k i w u c tm tt
  | 0, w, u, tm, tt, l, hw, hc, u0, u1, hi, hok, hu, hr, t0, t1 => by
    cases l with
    | nil => exact ⟨0, by decide, by decide, by show tt + 0 ≤ tt; omega⟩
    | cons x l =>
      have hx := hok.2 x List.mem_cons_self
      obtain ⟨r, r0, -, r2, -⟩ := pke hk u0 u1 hx.1 hx.2 (hu x List.mem_cons_self)
      omega
  | i + 1, w, u, tm, tt, l, hw, hc, u0, u1, hi, hok, hu, hr, t0, t1 => by
    have hf := fct_n ⟨i, by omega⟩
    obtain ⟨-, hf1, hf2⟩ := hf
    replace hf1 : 1 ≤ fct i := hf1
    replace hf2 : fct i ≤ 120 := hf2
    have hstep : ∀ r c', 0 ≤ r → r < w → 0 ≤ c' → c' < fct i → 0 ≤ r + w * c' ∧ r + w * c' < fct (i + 1) ∧ jrem (r + w * c') w = r ∧ jdiv (r + w * c') w = c' := fun r c' r0 r1 c0 c1 => by
      have e0 : 0 ≤ w * c' := Int.mul_nonneg (by omega) c0
      have e1 : w * c' + w ≤ w * fct i := by
        have := Int.mul_le_mul_of_nonneg_left (show c' + 1 ≤ fct i by omega) (show 0 ≤ w by omega)
        rw [Int.mul_add, Int.mul_one] at this
        exact this
      have e2 : w * fct i ≤ 5 * 120 := Int.mul_le_mul (by omega) hf2 (by omega) (by decide)
      have e3 : fct (i + 1) = w * fct i := by rw [hw]; rfl
      refine ⟨by omega, by omega, ?_, ?_⟩
      · rw [jrem_of (by omega) (by omega) (by omega) (by omega), Int.add_mul_emod_self_left, Int.emod_eq_of_lt r0 r1]
      · rw [jdiv_of (by omega) (by omega) (by omega) (by omega), Int.add_mul_ediv_left _ _ (by omega), Int.ediv_eq_zero_of_lt r0 r1, Int.zero_add]
    cases l with
    | nil =>
      obtain ⟨⟨x0, x1⟩, p1, p2, p3⟩ := pk_ok (k := k) (r := 0) hk u0 u1 (by decide) (by decide) (by omega)
      have hmono : ∃ c, 0 ≤ c ∧ c < fct i ∧ (tt + pif (fsF P (pkX u k 0 0 (-1)) tm = -1) 0 (L (pkX u k 0 0 (-1)))) + 0 ≤ filR m s n k i (w + (-1)) (jor u (jshl 1 (pkX u k 0 0 (-1)))) c (pif (fsF P (pkX u k 0 0 (-1)) tm = -1) tm (fsF P (pkX u k 0 0 (-1)) tm + L (pkX u k 0 0 (-1)))) (tt + pif (fsF P (pkX u k 0 0 (-1)) tm = -1) 0 (L (pkX u k 0 0 (-1)))) := by
        have hL2 := hL (pkX u k 0 0 (-1))
        have htime : 0 ≤ pif (fsF P (pkX u k 0 0 (-1)) tm = -1) tm (fsF P (pkX u k 0 0 (-1)) tm + L (pkX u k 0 0 (-1))) ∧ pif (fsF P (pkX u k 0 0 (-1)) tm = -1) tm (fsF P (pkX u k 0 0 (-1)) tm + L (pkX u k 0 0 (-1))) ≤ 24 := by
          rcases fsF_spec P (pkX u k 0 0 (-1)) tm with ⟨h1, -⟩ | ⟨h1, h2, -⟩
          · rw [pif_t h1]; exact ⟨t0, t1⟩
          · have := hP _ _ h2
            rw [pif_f (by omega)]; omega
        exact fil_get hk hX hL hP i (w + (-1)) _ _ _ [] (by omega) (by rw [p1, hc]; omega) p2 p3 (by omega) ⟨List.nodup_nil, fun x hx => absurd hx List.not_mem_nil⟩ (fun x hx => absurd hx List.not_mem_nil) (by
          show ¬ pif (fsF P (pkX u k 0 0 (-1)) tm = -1) tm (fsF P (pkX u k 0 0 (-1)) tm + L (pkX u k 0 0 (-1))) = -1
          omega) htime.1 htime.2
      obtain ⟨c', c0, c1, c2⟩ := hmono
      obtain ⟨g1, g2, g3, g4⟩ := hstep 0 c' (by decide) (by omega) c0 c1
      refine ⟨0 + w * c', g1, g2, ?_⟩
      rw [fil_step m s n k i t0 t1, g3, g4, (hX _ x0 x1).1, (hX _ x0 x1).2]
      have hL2 := hL (pkX u k 0 0 (-1))
      show tt + 0 ≤ _
      have : 0 ≤ pif (fsF P (pkX u k 0 0 (-1)) tm = -1) 0 (L (pkX u k 0 0 (-1))) := by
        by_cases q : fsF P (pkX u k 0 0 (-1)) tm = -1
        · rw [pif_t q]; exact Int.le_refl _
        · rw [pif_f q]; exact hL2
      omega
    | cons x l =>
      have hx := hok.2 x List.mem_cons_self
      obtain ⟨r, r0, r5, r2, r3⟩ := pke hk u0 u1 hx.1 hx.2 (hu x List.mem_cons_self)
      have hnd := List.nodup_cons.mp hok.1
      have hr1 : ¬ fsF P x tm = -1 := fun c => hr (pif_t c)
      have hr2 : ¬ runL P L l (fsF P x tm + L x) = -1 := fun c => hr ((pif_f hr1).trans c)
      obtain ⟨-, p1, p2, p3⟩ := pk_ok (k := k) hk u0 u1 r0 r5 r2
      rw [r3] at p1 p2 p3
      rcases fsF_spec P x tm with ⟨h1, -⟩ | ⟨h1, h2, -⟩
      · exact absurd h1 hr1
      have hP2 := hP x _ h2
      have hL2 := hL x
      obtain ⟨c', c0, c1, c2⟩ := fil_get hk hX hL hP i (w + (-1)) (jor u (jshl 1 x)) (fsF P x tm + L x) (tt + L x) l (by omega) (by rw [p1, hc]; omega) p2 p3 (by omega) ⟨hnd.2, fun y hy => hok.2 y (List.mem_cons_of_mem _ hy)⟩ (fun y hy => by
        have hy2 := hok.2 y (List.mem_cons_of_mem _ hy)
        have hne : y ≠ x := fun e => hnd.1 (e ▸ hy)
        rw [tb_jor hx.1 (by omega) hy2.1 (by omega), hu y (List.mem_cons_of_mem _ hy), decide_eq_false hne]; rfl) hr2 (by omega) hP2
      obtain ⟨g1, g2, g3, g4⟩ := hstep r c' r0 (by omega) c0 c1
      refine ⟨r + w * c', g1, g2, ?_⟩
      rw [fil_step m s n k i t0 t1, g3, g4, r3, (hX x hx.1 hx.2).1, (hX x hx.1 hx.2).2, pif_f hr1, pif_f hr1]
      show tt + (L x + sumL L l) ≤ _
      omega
