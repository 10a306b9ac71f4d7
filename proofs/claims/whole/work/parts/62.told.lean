/-! ===== class and model side by side, II: proposals, targets, alerts; wants ===== -/
def tgR (a m : Mm) (t : Int) : Prop := aimR a m 18 t t ∧ rd a 18 t 10 = rd m 54 0 t ∧ rd a 18 t 0 = rd m 49 0 (rd m 54 0 t) ∧ rd a 18 t 8 = rd m 51 0 (rd m 54 0 t) ∧ rd a 18 t 9 = t ∧ rd a 18 t 11 = rd m 62 0 t ∧ (0 ≤ rd m 62 0 t ∧ rd m 62 0 t ≤ 10) ∧ (rd a 18 t 12 = 0 ↔ rd m 63 0 t < 0) ∧ (0 ≤ rd m 63 0 t → rd a 18 t 13 = rd m 63 0 t ∧ rd a 18 t 14 = rd m 64 0 t ∧ rd a 18 t 15 = rd m 65 0 t)
def alR (a m : Mm) (i : Int) : Prop := aimR a m 19 i (24 + i) ∧ rd a 19 i 0 = rd m 54 0 (24 + i) ∧ rd a 19 i 9 = rd m 67 0 i ∧ 1 ≤ rd m 67 0 i ∧ rd a 19 i 10 = 24 * rd m 68 0 i + rd m 69 0 i ∧ rd a 19 i 11 = 24 * rd m 68 0 i + rd m 70 0 i ∧ (0 ≤ rd m 68 0 i ∧ rd m 68 0 i < 30) ∧ (0 ≤ rd m 69 0 i ∧ rd m 69 0 i < 24) ∧ (0 ≤ rd m 70 0 i ∧ rd m 70 0 i < 24)
def TG (a m : Mm) : Prop :=
  (rd a 5 0 6 = rd m 40 0 12 ∧ rd a 5 0 7 = rd m 40 0 25 ∧ rd a 5 0 8 = rd m 40 0 30) ∧
  (∀ g, 0 ≤ g → g < 4 → rd a 7 0 g = rd m 48 0 g) ∧
  (∀ q, 0 ≤ q → q < 8 → rd a 17 q 0 = rd m 49 0 q ∧ rd a 17 q 1 = rd m 50 0 q ∧ rd a 17 q 2 = rd m 51 0 q ∧ rd a 17 q 3 = rd m 52 0 q ∧ (0 ≤ rd m 50 0 q ∧ rd m 50 0 q ≤ 9) ∧ 0 ≤ rd m 51 0 q) ∧
  (∀ t, 0 ≤ t → t < rd m 40 0 25 → tgR a m t ∧ rd m 54 0 t < rd m 40 0 12) ∧
  (∀ i, 0 ≤ i → i < rd m 40 0 30 → alR a m i) ∧
  (∀ i, 0 ≤ i → i < 10 → rd a 19 i 5 = rd m 59 0 (24 + i) ∧ rd a 19 i 6 = rd m 60 0 (24 + i) ∧ rd a 19 i 7 = rd m 61 0 (24 + i) ∧ rd a 19 i 8 = 0) ∧
  (∀ t, rd m 40 0 25 ≤ t → t < 24 → rd a 18 t 12 = 0)
/-- all that was told -/
def PR (a m : Mm) : Prop := SK a m ∧ TG a m ∧ IM m
theorem fup_last (P : Int → Prop) : ∀ (n : Nat) (c : Int), 0 ≤ c → fup P (n + 1) c = pif (fup P n c = -1) (pif (P (c + n)) (c + n) (-1)) (fup P n c)
  | 0, c, _ => by
    show pif (P c) c (-1) = pif ((-1 : Int) = -1) (pif (P (c + 0)) (c + 0) (-1)) (-1)
    rw [pif_t rfl, Int.add_zero]
  | n + 1, c, h0 => by
    have h := fup_last P n (c + 1) (by omega)
    show pif (P c) c (fup P (n + 1) (c + 1)) = pif (pif (P c) c (fup P n (c + 1)) = -1) _ (pif (P c) c (fup P n (c + 1)))
    by_cases q : P c
    · rw [pif_t q, pif_t q, pif_f (by omega)]
    · rw [pif_f q, pif_f q, h, show c + 1 + (n : Int) = c + ((n + 1 : Nat) : Int) by omega]
theorem dnL_fup (P : Int → Prop) : ∀ (k : Nat) (r : Int), dnL P k r = pif (fup P k 0 = -1) r (fup P k 0)
  | 0, r => (pif_t rfl).symm
  | k + 1, r => by
    rw [fup_last P k 0 (by decide), Int.zero_add]
    show dnL P k (pif (P (k : Int)) (k : Int) r) = _
    rw [dnL_fup P k]
    by_cases q : fup P k 0 = -1
    · rw [pif_t q, pif_t q]
      by_cases q2 : P (k : Int)
      · rw [pif_t q2, pif_t q2, pif_f (by omega)]
      · rw [pif_f q2, pif_f q2, pif_t rfl]
    · rw [pif_f q, pif_f q, pif_f q]
theorem tg_open {a m : Mm} {t n b : Int} (h : tgR a m t) (hs : 0 ≤ rd m 63 0 t) (hj : rd a 23 b t = rd m 73 0 t) : opC a b t n = trnC m t n := by
  obtain ⟨-, -, -, -, e9, e11, ⟨b0, b1⟩, -, e13⟩ := h
  obtain ⟨f1, f2, f3⟩ := e13 hs
  unfold opC trnC
  rw [dnL_fup, e11]
  have e : fup (phP a b t n) (rd m 62 0 t).toNat 0 = fup (trnP m t n) (rd m 62 0 t).toNat 0 := fup_congr _ _ (fun z z0 z1 => by
    unfold phP trnP
    rw [f1, f2, f3, e9, hj]
    exact and_congr_right fun _ => bit_eq z0 (by omega))
  rw [e]
  by_cases q : fup (trnP m t n) (rd m 62 0 t).toNat 0 = -1
  · rw [pif_t q, q]
  · rw [pif_f q]
/-- the books of a course (number b) and the model's -/
def bkR (a m : Mm) (b : Int) : Prop :=
  (∀ t, 0 ≤ t → t < 24 → rd a 21 b t = rd m 72 0 t ∧ rd a 22 b t = rd m 74 0 t ∧ rd a 23 b t = rd m 73 0 t) ∧
  (∀ i, 0 ≤ i → i < 10 → (rd a 24 b i = 0 ∨ rd a 24 b i = 1) ∧ (rd a 24 b i = 0 ↔ rd m 75 0 i < 0)) ∧
  (∀ g, 0 ≤ g → g < 4 → rd a 25 b g = rd m 76 0 g)
theorem tg_want {a m : Mm} {t n b : Int} (h : tgR a m t) (hb : bkR a m b) (t0 : 0 ≤ t) (t1 : t < 24) (n0 : 0 ≤ n) (n1 : n < 30) : wantC a b t n ↔ mwnP m t n := by
  obtain ⟨g1, g2, g3⟩ := hb.1 t t0 t1
  have ho := fun hs => tg_open (n := n) (b := b) h hs g3
  obtain ⟨-, -, -, -, e9, e11, -, e12, -⟩ := h
  unfold wantC mwnP
  rw [e9, g1, g2, e11, e12]
  by_cases q : rd m 63 0 t < 0
  · constructor
    · rintro (⟨c1, -⟩ | ⟨-, c2, c3⟩)
      · exact absurd q c1
      · exact Or.inr ⟨q, c2, (bit_eq n0 (by omega)).mp c3⟩
    · rintro (⟨c1, -⟩ | ⟨-, c2, c3⟩)
      · omega
      · exact Or.inr ⟨q, c2, (bit_eq n0 (by omega)).mpr c3⟩
  · rw [ho (by omega)]
    constructor
    · rintro (⟨-, c2⟩ | ⟨c1, -⟩)
      · exact Or.inl ⟨by omega, c2⟩
      · exact absurd c1 q
    · rintro (⟨-, c2⟩ | ⟨c1, -⟩)
      · exact Or.inl ⟨q, c2⟩
      · exact absurd c1 q
theorem pr_chan {a m : Mm} (h : PR a m) {t s n : Int} (t0 : 0 ≤ t) (t1 : t < rd m 40 0 25) (s0 : 0 ≤ s) (s1 : s < 3) (n0 : 0 ≤ n) (n1 : n < 30) : chanC a t s n = mchC m t s n := by
  obtain ⟨⟨ha, -⟩, -⟩ := h.2.1.2.2.2.1 t t0 t1
  unfold chanC mchC
  refine cntT_congr _ _ _ (fun z z0 z1 => ?_)
  rw [show n * 24 + z = 24 * n + z by omega, ha.2.2.1]
  exact sk_suit h.1 ha s0 s1 n0 n1 z0 (by omega) (by have := ha.2.2.2.2.2.2.2.2; omega)
