set_option maxRecDepth 100000
section ZS49
variable {d c s : Nat} {Q : xR → Nat → Nat → xH → Prop}
section LIST
variable {ro i cap : Nat} {xs : List (Nat × Nat)} {h : xH}
/-- one element less -/
theorem s_rem {j : Nat} {x : Nat × Nat} {x1 : Int} (hx1 : x1 = (j : Int)) (h0 : 0 < ro) (hi : i < 8) (hA : zAL h ro i cap xs) (hE : zEl h ro xs) (hx : xs[j]? = some x)
    (q : ∀ h1, zAL h1 ro i cap (xs.eraseIdx j) → (∀ a b : Nat, ¬ (ro ≤ a ∧ a < ro + 2 ∧ b % 8 = i % 8) → h1 (a, b) = h (a, b)) → Q (.inl (some (.inr x))) c s h1) : zX (d + 2) 156 0 [(0, .inr (ro, i)), (1, zi x1)] [] c s h Q := by
  subst hx1
  obtain ⟨md, g, h1, h2, h3, h4, h5, h6⟩ := hA
  have hj := (List.getElem?_eq_some_iff.mp hx).1
  have len : ((xs.eraseIdx j).length : Int) = (xs.length : Int) - 1 := by
    rw [List.length_eraseIdx_of_lt hj]
    omega
  have hc : ¬ cap = 0 := by omega
  unfold zAr at h1 h2
  rw [if_neg hc] at h1 h2
  have fin : ∀ (g1 : Nat → xV), (∀ (t : Nat) (y : Nat × Nat), (xs.eraseIdx j)[t]? = some y → g1 t = .inr y) → ∀ h' : xH, h' (ro, i) = some (.inl (0, [.inl (.int (md + (Int32.ofInt 1))), .inr (ro + 1, 8 * cap + i), zi ((xs.length : Int) - 1)])) → h' (ro + 1, 8 * cap + i) = some (.inr (4, cap, g1)) → (∀ za zb : Nat, ¬ ((za = ro ∧ zb = i) ∨ (za = ro + 1 ∧ zb = 8 * cap + i)) → h' (za, zb) = h (za, zb)) → Q (.inl (some (.inr x))) c s h' := by
    intro g1 hg1 h7 a1 a2 a3
    refine q h7 ⟨md + Int32.ofInt 1, g1, ?_, ?_, hg1, fun M hM => ?_, ?_, h6⟩ (fun a b hn => a3 a b (by omega))
    · unfold zAr
      rw [if_neg hc, len]
      exact a1
    · unfold zAr
      rw [if_neg hc]
      exact a2
    · rw [a3 (ro + 1) _ (by omega)]
      exact h4 M hM
    · omega
  by_cases hl : j + 1 < xs.length
  · refine r_remA h0 h5 h6 hl hE h3 rfl (h3 _ _ hx) h1 h2 (fin _ (fun t y hy => ?_))
    have ht := (List.getElem?_eq_some_iff.mp hy).1
    rw [List.getElem?_eraseIdx] at hy
    show (if t = xs.length - 1 then _ else (if j ≤ t ∧ t < j + (xs.length - 1 - j) then g (j + 1 + (t - j)) else g t)) = _
    rw [if_neg (by omega)]
    by_cases htj : t < j
    · rw [if_neg (by omega)]
      rw [if_pos htj] at hy
      exact h3 t y hy
    · rw [if_pos ⟨by omega, by omega⟩, show j + 1 + (t - j) = t + 1 from by omega]
      rw [if_neg htj] at hy
      exact h3 _ y hy
  · refine r_remB h0 h5 h6 (by omega) hE h3 rfl (h3 _ _ hx) h1 h2 (fin _ (fun t y hy => ?_))
    have ht := (List.getElem?_eq_some_iff.mp hy).1
    rw [List.getElem?_eraseIdx, if_pos (by omega)] at hy
    exact (if_neg (by omega)).trans (h3 t y hy)
theorem l_clear {md : Int32} {N : Nat} (h0 : 0 < ro) (hN : N ≤ cap) (hc : cap ≤ 108) : ∀ (n j : Nat) (g : Nat → xV) (h : xH), j + n = N → h (ro, i) = some (.inl (0, [.inl (.int md), .inr (ro + 1, 8 * cap + i), zi 0])) → h (ro + 1, 8 * cap + i) = some (.inr (4, cap, g)) → (∀ h1 g1, h1 (ro, i) = some (.inl (0, [.inl (.int md), .inr (ro + 1, 8 * cap + i), zi 0])) → h1 (ro + 1, 8 * cap + i) = some (.inr (4, cap, g1)) → (∀ a b : Nat, ¬ (a = ro + 1 ∧ b = 8 * cap + i) → h1 (a, b) = h (a, b)) → Q (.inl none) c s h1) → zX d 158 27 [(0, .inr (ro, i)), (1, .inr (ro + 1, 8 * cap + i)), (2, zi (N : Int)), (3, zi (j : Int))] [] c s h Q := by
  intro n
  induction n with
  | zero =>
    intro j g h hj h1 h2 q
    exact r_clear h0 hN hc (by omega) h1 h2 (fun e => q h g h1 h2 (fun _ _ _ => rfl)) (fun e => by omega)
  | succ n ih =>
    intro j g h hj h1 h2 q
    refine r_clear h0 hN hc (by omega) h1 h2 (fun e => by omega) (fun e h7 a1 a2 => ?_)
    exact ih (j + 1) _ h7 (by omega) ((a2 ro i (by omega)).trans h1) a1 (fun h8 g8 b1 b2 b3 => q h8 g8 b1 b2 (fun a b hn => (b3 a b hn).trans (a2 a b hn)))
theorem s_clear (h0 : 0 < ro) (hi : i < 8) (hA : zAL h ro i cap xs) (q : ∀ h1, zAL h1 ro i cap [] → (∀ a b : Nat, ¬ (ro ≤ a ∧ a < ro + 2 ∧ b % 8 = i % 8) → h1 (a, b) = h (a, b)) → Q (.inl none) c s h1) : zX d 158 0 [(0, .inr (ro, i))] [] c s h Q := by
  obtain ⟨md, g, h1, h2, h3, h4, h5, h6⟩ := hA
  by_cases hc : cap = 0
  · subst hc
    have hx0 : xs = [] := List.length_eq_zero_iff.mp (by omega)
    subst hx0
    have h1 : h (ro, i) = some (.inl (0, [.inl (.int md), .inr (0, 1), zi 0])) := h1
    have h2 : h (0, 1) = some (.inr (4, 0, g)) := h2
    refine r_clearE h0 h1 h2 (fun h7 a1 a2 => q h7 ⟨md + Int32.ofInt 1, g, a1, ?_, h3, fun M hM => ?_, Nat.le_refl _, h6⟩ (fun a b hn => a2 a b (by omega)))
    · exact (a2 0 1 (by omega)).trans h2
    · rw [a2 (ro + 1) _ (by omega)]
      exact h4 M hM
  · unfold zAr at h1 h2
    rw [if_neg hc] at h1 h2
    refine r_clear0 h0 h5 h6 h1 h2 (fun h7 a1 a2 => ?_)
    refine l_clear h0 h5 h6 xs.length 0 g h7 (by omega) a1 ((a2 _ _ (by omega)).trans h2) (fun h8 g8 b1 b2 b3 => q h8 ⟨md + Int32.ofInt 1, g8, ?_, ?_, fun j x hx => (by cases hx), fun M hM => ?_, Nat.zero_le _, h6⟩ (fun a b hn => (b3 a b (by omega)).trans (a2 a b (by omega))))
    · unfold zAr
      rw [if_neg hc]
      exact b1
    · unfold zAr
      rw [if_neg hc]
      exact b2
    · rw [b3 _ _ (by omega), a2 _ _ (by omega)]
      exact h4 M hM
end LIST
section CLR
variable {ro i L : Nat} {h : xH}
theorem s_rclr {fa : Nat → Int64} (h0 : 0 < ro) (hL : L ≤ 67108864) (hR : zRes h ro i L fa) (q : ∀ h1, zRes h1 ro i L (fun _ => 0) → (∀ a j : Nat, ¬ (ro ≤ a ∧ a < ro + 2 ∧ j = i) → h1 (a, j) = h (a, j)) → Q (.inl none) c s h1) : zX (d + 1) 26 0 [(0, .inr (ro, i))] [] c s h Q := by
  refine r_rclr h0 hL hR.2.2 hR.1 hR.2.1 (fun h1 a1 a2 a3 => q h1 ⟨?_, a1, fun _ _ => rfl⟩ (fun a j hn => a3 a j (by omega)))
  rw [zcnt_0]
  exact a2
theorem s_tclrA {fn fs fg : Nat → Int32} (h0 : 0 < ro) (hL : L ≤ 67108864) (hR : zTal h ro i L fn fs fg) (q : ∀ h1, zTal h1 ro i L (fun _ => 0) (fun _ => 0) (fun _ => 0) → (∀ a j : Nat, ¬ (ro ≤ a ∧ a < ro + 4 ∧ j = i) → h1 (a, j) = h (a, j)) → Q (.inl none) c s h1) : zX (d + 1) 57 0 [(0, .inr (ro, i))] [] c s h Q := by
  obtain ⟨h1, h2, h3, h4, h5⟩ := hR
  exact r_tclrA h0 hL (fun t ht => (h5 t ht).1) (fun t ht => (h5 t ht).2.1) (fun t ht => (h5 t ht).2.2) h1 h2 h3 h4 (fun h7 a1 a2 a3 a4 => q h7 ⟨(a4 _ _ (by omega)).trans h1, a1, a2, a3, fun _ _ => ⟨rfl, rfl, rfl⟩⟩ (fun a j hn => a4 a j (by omega)))
end CLR
section OUT
variable {N : Nat} {out : List Int64} {h : xH}
theorem s_oat {j : Nat} {x : Int64} {x1 : Int} (hx1 : x1 = (j : Int)) (hO : zOut h N out) (hx : out[j]? = some x) (q : Q (.inl (some (.inl (.long x)))) c s h) : zX d 12 0 [(0, .inr (2, 0)), (1, zi x1)] [] c s h Q := by
  subst hx1
  obtain ⟨fo, h1, h2, h3, -, h5, h6, h7⟩ := hO
  have hj := (List.getElem?_eq_some_iff.mp hx).1
  rw [← h3 j x hx] at q
  exact r_oat h7 (by omega) h1 h2 q
theorem zOut_push {fo : Nat → Int64} {z : Nat} {x : Int64} (h3 : ∀ (i : Nat) (x : Int64), out[i]? = some x → fo i = x) (hz : out.length = z) : ∀ (i : Nat) (y : Int64), (out ++ [x])[i]? = some y → zfi fo z x i = y := by
  intro j y hy
  subst hz
  by_cases hj : j = out.length
  · subst hj
    rw [List.getElem?_append_right (Nat.le_refl _), Nat.sub_self] at hy
    cases hy
    exact if_pos rfl
  · have hlt := (List.getElem?_eq_some_iff.mp hy).1
    rw [List.length_append, List.length_singleton] at hlt
    rw [List.getElem?_append_left (by omega)] at hy
    exact (if_neg hj).trans (h3 j y hy)
theorem s_oadd {x : Int64} (hO : zOut h N out) (hz : out.length < 200000) (q : ∀ h1 N1 c1 s1, zOut h1 N1 (out ++ [x]) → (∀ a b : Nat, ¬ (2 ≤ a ∧ a < 4) → h1 (a, b) = h (a, b)) → N ≤ N1 ∧ c1 + N ≤ c + N1 ∧ s1 + 4 * N ≤ s + 4 * N1 → Q (.inl none) c1 s1 h1) : zX (d + 1) 11 0 [(0, .inr (2, 0)), (1, .inl (.long x))] [] c s h Q := by
  obtain ⟨fo, h1, h2, h3, h4, h5, h6, h7⟩ := hO
  by_cases hl : out.length < N
  · refine r_oadd (d := d + 1) h7 hl h1 h2 (fun h8 a1 a2 a3 => ?_)
    refine q h8 N c s ⟨_, ?_, a1, zOut_push h3 rfl, fun M hM => ?_, ?_, h6, h7⟩ (fun a b hn => a3 a b (by omega)) ⟨by omega, by omega, by omega⟩
    · rw [List.length_append]
      exact a2
    · rw [a3 _ _ (by omega)]
      exact h4 M hM
    · rw [List.length_append]
      exact hl
  · have he : out.length = N := by omega
    have hM : ∃ M : Nat, (M : Int) = (if (320000 : Int) < (N : Int) * 2 then (320000 : Int) else (N : Int) * 2) ∧ M ≤ 2 * N ∧ N < M ∧ M ≤ 320000 ∧ 4 * N ≤ 3 * M := by
      by_cases h2 : 320000 < N * 2
      · refine ⟨320000, ?_, by omega, by omega, by omega, by omega⟩
        rw [if_pos (by omega)]
        rfl
      · refine ⟨N * 2, ?_, by omega, by omega, by omega, by omega⟩
        rw [if_neg (by omega)]
        omega
    obtain ⟨M, m1, m2, m3, m4, m5⟩ := hM
    rw [he] at h1
    refine r_oaddG (d := d) (by omega) h6 m1 m2 m3 m4 h1 h2 (h4 M m3) (fun h8 a1 a2 a3 => ?_)
    refine q h8 M (c + 1) (s + M) ⟨zfi (fun j => if j < N then fo j else 0) N x, ?_, a1, zOut_push (fun j y hy => ?_) he, fun M1 hM1 => ?_, ?_, by omega, m4⟩ (fun a b hn => a3 a b (by omega)) ⟨by omega, by omega, by omega⟩
    · rw [List.length_append, he]
      exact a2
    · have hj := (List.getElem?_eq_some_iff.mp hy).1
      exact (if_pos (by omega)).trans (h3 j y hy)
    · rw [a3 _ _ (by omega)]
      exact h4 M1 (by omega)
    · rw [List.length_append, he]
      exact m3
end OUT
end ZS49
