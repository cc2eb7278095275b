set_option maxRecDepth 100000
section ZS47
variable {d c s : Nat} {Q : xR → Nat → Nat → xH → Prop}
section FILL
variable {ro i L : Nat}
theorem l_fillJ {y : Int64} (h0 : 0 < ro) (hL : L ≤ 67108864) : ∀ (n j : Nat) (f : Nat → Int64) (h : xH), j + n = L → h (ro, i) = some (.inr (1, L, zJ f)) → (∀ h1, h1 (ro, i) = some (.inr (1, L, zJ (fun t => if j ≤ t ∧ t < L then y else f t))) → (∀ a b : Nat, ¬ (a = ro ∧ b = i) → h1 (a, b) = h (a, b)) → Q (.inl none) c s h1) → zX d 159 6 [(0, .inr (ro, i)), (1, .inl (.long y)), (3, zi (j : Int)), (4, zi (L : Int))] [] c s h Q := by
  intro n
  induction n with
  | zero =>
    intro j f h hj ha q
    refine r_fillJ h0 hL (by omega) ha (fun e => q h ?_ (fun _ _ _ => rfl)) (fun e => by omega)
    rw [show (fun t => if j ≤ t ∧ t < L then y else f t) = f from funext (fun t => if_neg (by omega))]
    exact ha
  | succ n ih =>
    intro j f h hj ha q
    refine r_fillJ h0 hL (by omega) ha (fun e => by omega) (fun e h1 a1 a2 => ?_)
    refine ih (j + 1) (zfi f j y) h1 (by omega) a1 (fun h2 b1 b2 => q h2 ?_ (fun a b hn => (b2 a b hn).trans (a2 a b hn)))
    rw [show (fun t => if j ≤ t ∧ t < L then y else f t) = (fun t => if j + 1 ≤ t ∧ t < L then y else zfi f j y t) from funext (fun t => by
      by_cases ht : t = j
      · subst ht
        rw [if_pos ⟨Nat.le_refl _, by omega⟩, if_neg (by omega)]
        exact (if_pos rfl).symm
      · rw [show zfi f j y t = f t from if_neg ht]
        by_cases h3 : j + 1 ≤ t ∧ t < L
        · rw [if_pos h3, if_pos ⟨by omega, h3.2⟩]
        · rw [if_neg h3, if_neg (fun z => h3 ⟨by omega, z.2⟩)])]
    exact b1
theorem l_fillI {y : Int32} (h0 : 0 < ro) (hL : L ≤ 67108864) : ∀ (n j : Nat) (f : Nat → Int32) (h : xH), j + n = L → h (ro, i) = some (.inr (0, L, zI f)) → (∀ h1, h1 (ro, i) = some (.inr (0, L, zI (fun t => if j ≤ t ∧ t < L then y else f t))) → (∀ a b : Nat, ¬ (a = ro ∧ b = i) → h1 (a, b) = h (a, b)) → Q (.inl none) c s h1) → zX d 160 5 [(0, .inr (ro, i)), (1, .inl (.int y)), (2, zi (j : Int)), (3, zi (L : Int))] [] c s h Q := by
  intro n
  induction n with
  | zero =>
    intro j f h hj ha q
    refine r_fillI h0 hL (by omega) ha (fun e => q h ?_ (fun _ _ _ => rfl)) (fun e => by omega)
    rw [show (fun t => if j ≤ t ∧ t < L then y else f t) = f from funext (fun t => if_neg (by omega))]
    exact ha
  | succ n ih =>
    intro j f h hj ha q
    refine r_fillI h0 hL (by omega) ha (fun e => by omega) (fun e h1 a1 a2 => ?_)
    refine ih (j + 1) (zfi f j y) h1 (by omega) a1 (fun h2 b1 b2 => q h2 ?_ (fun a b hn => (b2 a b hn).trans (a2 a b hn)))
    rw [show (fun t => if j ≤ t ∧ t < L then y else f t) = (fun t => if j + 1 ≤ t ∧ t < L then y else zfi f j y t) from funext (fun t => by
      by_cases ht : t = j
      · subst ht
        rw [if_pos ⟨Nat.le_refl _, by omega⟩, if_neg (by omega)]
        exact (if_pos rfl).symm
      · rw [show zfi f j y t = f t from if_neg ht]
        by_cases h3 : j + 1 ≤ t ∧ t < L
        · rw [if_pos h3, if_pos ⟨by omega, h3.2⟩]
        · rw [if_neg h3, if_neg (fun z => h3 ⟨by omega, z.2⟩)])]
    exact b1
/-- where nothing but zeros was behind, nothing but zeros is left -/
theorem s_fillI {f : Nat → Int32} {h : xH} (h0 : 0 < ro) (hL : L ≤ 67108864) (hf : ∀ t, L ≤ t → f t = 0) (ha : h (ro, i) = some (.inr (0, L, zI f))) (q : ∀ h1, h1 (ro, i) = some (.inr (0, L, zI (fun _ => 0))) → (∀ a b : Nat, ¬ (a = ro ∧ b = i) → h1 (a, b) = h (a, b)) → Q (.inl none) c s h1) : zX d 160 0 [(0, .inr (ro, i)), (1, .inl (.int 0))] [] c s h Q := by
  refine r_fillI0 h0 hL ha (l_fillI h0 hL L 0 f h (by omega) ha (fun h1 a1 a2 => q h1 ?_ a2))
  rw [a1]
  have e : (fun t => if 0 ≤ t ∧ t < L then (0 : Int32) else f t) = fun _ => 0 := funext (fun t => by
    by_cases ht : t < L
    · exact if_pos ⟨Nat.zero_le _, ht⟩
    · exact (if_neg (fun z => ht z.2)).trans (hf t (by omega)))
  rw [e]
theorem s_fillJ0 {f : Nat → Int64} {h : xH} (h0 : 0 < ro) (hL : L ≤ 67108864) (hf : ∀ t, L ≤ t → f t = 0) (ha : h (ro, i) = some (.inr (1, L, zJ f))) (q : ∀ h1, h1 (ro, i) = some (.inr (1, L, zJ (fun _ => 0))) → (∀ a b : Nat, ¬ (a = ro ∧ b = i) → h1 (a, b) = h (a, b)) → Q (.inl none) c s h1) : zX d 159 0 [(0, .inr (ro, i)), (1, .inl (.long 0))] [] c s h Q := by
  refine r_fillJ0 h0 hL ha (l_fillJ h0 hL L 0 f h (by omega) ha (fun h1 a1 a2 => q h1 ?_ a2))
  rw [a1]
  have e : (fun t => if 0 ≤ t ∧ t < L then (0 : Int64) else f t) = fun _ => 0 := funext (fun t => by
    by_cases ht : t < L
    · exact if_pos ⟨Nat.zero_le _, ht⟩
    · exact (if_neg (fun z => ht z.2)).trans (hf t (by omega)))
  rw [e]
end FILL
section LIST
variable {ro i cap : Nat} {xs : List (Nat × Nat)} {h : xH}
theorem s_get {j : Nat} {x : Nat × Nat} {x1 : Int} (hx1 : x1 = (j : Int)) (h0 : 0 < ro) (hA : zAL h ro i cap xs) (hx : xs[j]? = some x) (q : Q (.inl (some (.inr x))) c s h) : zX (d + 2) 153 0 [(0, .inr (ro, i)), (1, zi x1)] [] c s h Q := by
  subst hx1
  obtain ⟨md, g, h1, h2, h3, -, h4, h5⟩ := hA
  have hj := (List.getElem?_eq_some_iff.mp hx).1
  exact r_get h0 hj h4 h5 (h3 _ _ hx) h1 h2 q
theorem s_size (hA : zAL h ro i cap xs) (q : Q (.inl (some (zi (xs.length : Int)))) c s h) : zX d 150 0 [(0, .inr (ro, i))] [] c s h Q := by
  obtain ⟨md, g, h1, h2, -⟩ := hA
  exact r_size h1 h2 q
theorem s_isEmpty (hA : zAL h ro i cap xs) (q0 : ¬ xs = [] → Q (.inl (some (zi 0))) c s h) (q1 : xs = [] → Q (.inl (some (zi 1))) c s h) : zX d 151 0 [(0, .inr (ro, i))] [] c s h Q := by
  obtain ⟨md, g, h1, h2, -, -, h4, h5⟩ := hA
  refine r_isEmpty h4 h5 h1 h2 (fun e => q0 (fun z => e (by rw [z]; rfl))) (fun e => q1 (List.length_eq_zero_iff.mp (by omega)))
theorem zAL_push {g : Nat → xV} {n : Nat} {x : Nat × Nat} (hg : ∀ (j : Nat) (x : Nat × Nat), xs[j]? = some x → g j = .inr x) (hn : xs.length = n) : ∀ (j : Nat) (y : Nat × Nat), (xs ++ [x])[j]? = some y → xfu g n (.inr x) j = .inr y := by
  intro j y hy
  subst hn
  by_cases hj : j = xs.length
  · subst hj
    rw [List.getElem?_append_right (Nat.le_refl _), Nat.sub_self] at hy
    cases hy
    exact if_pos rfl
  · have hlt := (List.getElem?_eq_some_iff.mp hy).1
    rw [List.length_append, List.length_singleton] at hlt
    rw [List.getElem?_append_left (by omega)] at hy
    exact (if_neg hj).trans (hg j y hy)
/-- one element more; what it costs is paid by the room that the list takes -/
theorem s_add {x : Nat × Nat} {ci : Nat} {fs : List xV} (h0 : 0 < ro) (hi : i < 8) (hA : zAL h ro i cap xs) (hl : xs.length ≤ 72) (hE : zEl h ro xs) (hx : x.1 ≠ ro ∧ x.1 ≠ ro + 1) (hxo : h x = some (.inl (ci, fs))) (hci : [0, 1, 2, 3, 4, 5, 6, 7, 8, 9, 10].elem ci = true)
    (q : ∀ h1 cap1 c1 s1, zAL h1 ro i cap1 (xs ++ [x]) → (∀ a b : Nat, ¬ (ro ≤ a ∧ a < ro + 2 ∧ b % 8 = i % 8) → h1 (a, b) = h (a, b)) → cap ≤ cap1 ∧ c1 + cap ≤ c + cap1 ∧ s1 + 4 * cap ≤ s + 4 * cap1 → Q (.inl (some (zi 1))) c1 s1 h1) : zX (d + 6) 155 0 [(0, .inr (ro, i)), (1, .inr x)] [] c s h Q := by
  obtain ⟨md, g, h1, h2, h3, h4, h5, h6⟩ := hA
  obtain ⟨xa, xi⟩ := x
  have hci2 : [1000, 0, 1, 2, 3, 4, 5, 6, 7, 8, 9, 10].elem ci = true := by
    have := List.elem_iff.mp hci
    exact List.elem_iff.mpr (List.mem_cons_of_mem _ this)
  have len : ((xs ++ [(xa, xi)]).length : Int) = (xs.length : Int) + 1 := by
    rw [List.length_append]
    rfl
  by_cases hlt : xs.length < cap
  · unfold zAr at h1 h2
    rw [if_neg (by omega)] at h1 h2
    refine r_addA (d := d + 5) (n := xs.length) (cap := cap) h0 h5 h6 hx hci2 hlt h1 h2 hxo (fun h7 a1 a2 a3 => ?_)
    refine q h7 cap c s ⟨md + Int32.ofInt 1, _, ?_, ?_, zAL_push h3 rfl, fun M hM => ?_, ?_, h6⟩ (fun a b hn => a3 a b (by omega)) ⟨by omega, by omega, by omega⟩
    · unfold zAr
      rw [if_neg (by omega), len]
      exact a1
    · unfold zAr
      rw [if_neg (by omega)]
      exact a2
    · rw [a3 (ro + 1) _ (by omega)]
      exact h4 M hM
    · rw [List.length_append]
      exact hlt
  · by_cases hc : cap = 0
    · subst hc
      have hx0 : xs = [] := List.length_eq_zero_iff.mp (by omega)
      subst hx0
      have h1 : h (ro, i) = some (.inl (0, [.inl (.int md), .inr (0, 1), zi 0])) := h1
      have h2 : h (0, 1) = some (.inr (4, 0, g)) := h2
      refine r_addB (d := d + 3) h0 hx hci2 h1 h2 hxo (by rw [show 80 + i = 8 * 10 + i from rfl]; exact h4 10 (by omega)) (fun h7 a1 a2 a3 => ?_)
      refine q h7 10 (c + 1) (s + 10) ⟨md + Int32.ofInt 1, _, ?_, ?_, zAL_push (n := 0) (g := fun _ => .inl .null) (fun j x hx => by cases hx) rfl, fun M hM => ?_, ?_, by omega⟩ (fun a b hn => a3 a b (by omega)) ⟨by omega, by omega, by omega⟩
      · exact a1
      · exact a2
      · rw [a3 (ro + 1) _ (by omega)]
        exact h4 M (by omega)
      · exact Nat.le_of_ble_eq_true rfl
    · unfold zAr at h1 h2
      rw [if_neg hc] at h1 h2
      have he : xs.length = cap := by omega
      have hcap1 : ∃ cap1 : Nat, (cap1 : Int) = (if 1 < (cap : Int) / 2 then (cap : Int) + (cap : Int) / 2 else (cap : Int) + 1) ∧ cap < cap1 ∧ cap1 ≤ 108 ∧ cap1 ≤ 4 * (cap1 - cap) := by
        by_cases h2 : 1 < cap / 2
        · refine ⟨cap + cap / 2, ?_, by omega, by omega, by omega⟩
          rw [if_pos (by omega)]
          omega
        · refine ⟨cap + 1, ?_, by omega, by omega, by omega⟩
          rw [if_neg (by omega)]
          omega
      obtain ⟨cap1, hc1, hc2, hc3, hc4⟩ := hcap1
      have fin : ∀ h' : xH, h' (ro, i) = some (.inl (0, [.inl (.int (md + (Int32.ofInt 1))), .inr (ro + 1, 8 * cap1 + i), zi ((cap : Int) + 1)])) → h' (ro + 1, 8 * cap1 + i) = some (.inr (4, cap1, (xfu (xcpy g (fun _ => .inl .null) 0 0 cap) cap (.inr (xa, xi))))) → (∀ za zb : Nat, ¬ ((za = ro ∧ zb = i) ∨ (za = ro + 1 ∧ zb = 8 * cap1 + i)) → h' (za, zb) = h (za, zb)) → Q (.inl (some (zi 1))) (c + 1) (s + cap1) h' := by
        intro h7 a1 a2 a3
        refine q h7 cap1 (c + 1) (s + cap1) ⟨md + Int32.ofInt 1, xfu (xcpy g (fun _ => .inl .null) 0 0 cap) cap (.inr (xa, xi)), ?_, ?_, zAL_push (fun j y hy => ?_) he, fun M hM => ?_, ?_, hc3⟩ (fun a b hn => a3 a b (by omega)) ⟨by omega, by omega, by omega⟩
        · unfold zAr
          rw [if_neg (by omega), len, he]
          exact a1
        · unfold zAr
          rw [if_neg (by omega)]
          exact a2
        · have hj := (List.getElem?_eq_some_iff.mp hy).1
          show (if 0 ≤ j ∧ j < 0 + cap then g (0 + (j - 0)) else _) = _
          rw [if_pos ⟨by omega, by omega⟩, show 0 + (j - 0) = j from by omega]
          exact h3 j y hy
        · rw [a3 (ro + 1) _ (by omega)]
          exact h4 M (by omega)
        · rw [List.length_append]
          show xs.length + 1 ≤ cap1
          omega
      rw [he] at h1
      exact r_addC (d := d) h0 (by omega) (by omega) hx hci2 hc1 hE h3 he h1 h2 hxo (h4 cap1 hc2) (fun _ => fin) (fun _ => fin)
end LIST
end ZS47
