/-! ===== the model, XXV: an order's filled slots ===== -/
theorem fr01 (u j : Int) : frB u j = 0 ∨ frB u j = 1 := by
  unfold frB
  by_cases h : jand (jshr u j) 1 = 0
  · rw [if_pos h]; exact Or.inr rfl
  · rw [if_neg h]; exact Or.inl rfl
theorem pkX_r (u : Int) : ∀ (n : Nat) (j r x : Int), pkX u n j r x = x ∨ (j ≤ pkX u n j r x ∧ pkX u n j r x < j + n)
  | 0, j, r, x => Or.inl rfl
  | n + 1, j, r, x => by
    unfold pkX
    have h := pkX_r u n (j + 1) (r - frB u j) (if frB u j = 1 ∧ r = 0 ∧ x < 0 then j else x)
    rcases h with h | h
    · rw [h]
      by_cases q : frB u j = 1 ∧ r = 0 ∧ x < 0
      · rw [if_pos q]; omega
      · rw [if_neg q]; exact Or.inl rfl
    · omega
section CTX
variable {p : Program} {l : Launch} {e : Env} {s : State} {m : MethodId} {args : Array Value} {below : List Frame} {meth : Method} {c : Code} {Q : State → Prop} {V : Nat → Int → Prop} {D : DD} {ad : Nat → Int → Nat} {A : Nat → Prop}
/-- the inner walk -/
theorem pk_walk {mm : Mm} {o : Int64} {F : FT} (hC : Cx V iX11_filled.1.cls iX11_filled.2.1 iX11_filled.2.2.1 p (mrm iX11_filled) s m args meth c D ad A) (hF : ∀ r mm o, F r mm o → rOK p l e (mrm iX11_filled) s m args below meth c 0 0 Q V D ad A iX11_filled.2.1 1 r mm o) {s9 n k c9 u cc tm tt i : Int} (k0 : 0 ≤ k) (k1 : k ≤ 5) : ∀ (q : Nat) (j r x : Int), 0 ≤ j → j + q = k → 0 ≤ r + j → r ≤ 5 → -1 ≤ x → x < 5 →
    (∀ r9, Wx p l e (mrm iX11_filled) s m args below meth c 0 0 Q V D ad A 14 109 [(0, xr 40 0), (1, xi s9), (2, xi n), (3, xi k), (4, xi c9), (5, xi u), (6, xi cc), (7, xi tm), (8, xi tt), (9, xi i), (10, xi r9), (11, xi (pkX u q j r x))] [] mm o) →
    Wx p l e (mrm iX11_filled) s m args below meth c 0 0 Q V D ad A 14 41 [(0, xr 40 0), (1, xi s9), (2, xi n), (3, xi k), (4, xi c9), (5, xi u), (6, xi cc), (7, xi tm), (8, xi tt), (9, xi i), (10, xi r), (11, xi x), (12, xi j)] [] mm o := by
  intro q
  induction q with
  | zero =>
    intro j r x j0 hj r0 r2 x0 x1 hk
    refine wpx hC tkX11_filled hF [41, 109] 200 ?_
    refine ⟨fun _ => Wx.pick [0, 1, 2, 3, 4, 5, 6, 7, 8, 9, 10, 11] rfl (hk r), fun q => ?_⟩
    rw [wr_of (by omega) (by omega), wr_of (by omega) (by omega)] at q; omega
  | succ q ih =>
    intro j r x j0 hj r0 r2 x0 x1 hk
    have next : ∀ f x8, f = frB u j → x8 = (if frB u j = 1 ∧ r = 0 ∧ x < 0 then j else x) → Wx p l e (mrm iX11_filled) s m args below meth c 0 0 Q V D ad A 14 86 [(0, xr 40 0), (1, xi s9), (2, xi n), (3, xi k), (4, xi c9), (5, xi u), (6, xi cc), (7, xi tm), (8, xi tt), (9, xi i), (10, xi r), (11, xi x), (12, xi j), (13, xi f)] [xi x8] mm o := by
      intro f x8 hf h8
      have hx8 : -1 ≤ x8 ∧ x8 < 5 := by
        rw [h8]
        by_cases q : frB u j = 1 ∧ r = 0 ∧ x < 0
        · rw [if_pos q]; omega
        · rw [if_neg q]; omega
      have h01 := fr01 u j
      have go : Wx p l e (mrm iX11_filled) s m args below meth c 0 0 Q V D ad A 14 41 [(0, xr 40 0), (1, xi s9), (2, xi n), (3, xi k), (4, xi c9), (5, xi u), (6, xi cc), (7, xi tm), (8, xi tt), (9, xi i), (10, xi (r - f)), (11, xi x8), (12, xi (j + 1))] [] mm o :=
        ih (j + 1) (r - f) x8 (by omega) (by omega) (by omega) (by omega) hx8.1 hx8.2 (fun r9 => by
          have h := hk r9
          have e9 : pkX u (q + 1) j r x = pkX u q (j + 1) (r - f) x8 := by rw [hf, h8]; rfl
          rw [e9] at h
          exact h)
      rcases (show f = 0 ∨ f = 1 by omega) with rfl | rfl
      · refine wpx hC tkX11_filled hF [41] 200 ?_
        exact ⟨fun _ => Wx.pick [0, 1, 2, 3, 4, 5, 6, 7, 8, 9, 10, 11, 12] rfl go, fun h => absurd rfl h⟩
      · refine wpx hC tkX11_filled hF [41] 200 ?_
        exact ⟨fun h => absurd h (by decide), fun _ => Wx.pick [0, 1, 2, 3, 4, 5, 6, 7, 8, 9, 10, 11, 12] rfl go⟩
    refine wpx hC tkX11_filled hF [41, 86] 200 ?_
    refine ⟨fun q => ?_, fun _ => ⟨fun q2 => ⟨fun _ => next 0 x ?_ ?_, fun h => absurd rfl h⟩, fun q2 => ⟨fun h => absurd h (by decide), fun _ => ⟨fun q3 => next 1 x ?_ ?_, fun q3 => ⟨fun q4 => next 1 x ?_ ?_, fun q4 => next 1 j ?_ ?_⟩⟩⟩⟩⟩
    · rw [wr_of (by omega) (by omega), wr_of (by omega) (by omega)] at q; omega
    · rw [wr_and] at q2; exact (if_neg q2).symm
    · rw [wr_and] at q2
      have e0 : frB u j = 0 := if_neg q2
      rw [if_neg (fun h => by have := h.1; omega)]
    · rw [wr_and] at q2; exact (if_pos q2).symm
    · rw [wr_of (by omega) (by omega)] at q3
      rw [if_neg (fun h => q3 h.2.1)]
    · rw [wr_and] at q2; exact (if_pos q2).symm
    · rw [wr_of (by omega) (by omega)] at q4
      rw [if_neg (fun h => by have := h.2.2; omega)]
    · rw [wr_and] at q2; exact (if_pos q2).symm
    · rw [wr_and] at q2; rw [wr_of (by omega) (by omega)] at q3 q4
      rw [if_pos ⟨if_pos q2, q3, by omega⟩]
end CTX
