set_option maxRecDepth 100000
section ZS44
variable {d c s : Nat} {h : xH} {Q : xR → Nat → Nat → xH → Prop}
theorem zfi_0 {α : Type} {f : Nat → α} {k L : Nat} {x z : α} (hk : k < L) (hf : ∀ t, L ≤ t → f t = z) : ∀ t, L ≤ t → zfi f k x t = z := fun t ht => (if_neg (by omega : ¬ t = k)).trans (hf t ht)
section RES
variable {ro i L k : Nat} {fa : Nat → Int64}
theorem s_at {x1 : Int} (hx1 : x1 = (k : Int)) (h0 : 0 < ro) (hL : L ≤ 67108864) (hk : k < L) (hR : zRes h ro i L fa) (q : Q (.inl (some (.inl (.long (fa k))))) c s h) : zX d 23 0 [(0, .inr (ro, i)), (1, zi x1)] [] c s h Q := by
  subst hx1
  exact  r_at h0 hL hk hR.1 hR.2.1 q
theorem s_put {x1 : Int} (hx1 : x1 = (k : Int)) {y : Int64} (h0 : 0 < ro) (hL : L ≤ 67108864) (hk : k < L) (hy : ¬ y = 0) (hR : zRes h ro i L fa) (q : ∀ h1, zRes h1 ro i L (zfi fa k y) → (∀ a j : Nat, ¬ (ro ≤ a ∧ a < ro + 2 ∧ j = i) → h1 (a, j) = h (a, j)) → Q (.inl none) c s h1) : zX d 24 0 [(0, .inr (ro, i)), (1, zi x1), (2, .inl (.long y))] [] c s h Q := by
  subst hx1
  have hc := zcnt_set (f := fa) (x := y) hk
  rw [if_neg hy] at hc
  refine r_put h0 hL hk (zcnt_le _ _) hR.1 hR.2.1 (fun e h1 a1 a2 a3 => ?_) (fun e h1 a1 a2 a3 => ?_)
  · rw [if_neg e] at hc
    refine q h1 ⟨?_, a2, zfi_0 hk hR.2.2⟩ (fun a j hn => a3 a j (by omega))
    rw [a1, show ((zcnt fa L : Nat) : Int) + 0 = ((zcnt (zfi fa k y) L : Nat) : Int) from by omega]
  · rw [if_pos e] at hc
    refine q h1 ⟨?_, a2, zfi_0 hk hR.2.2⟩ (fun a j hn => a3 a j (by omega))
    rw [a1, show ((zcnt fa L : Nat) : Int) + 1 = ((zcnt (zfi fa k y) L : Nat) : Int) from by omega]
theorem s_clr {x1 : Int} (hx1 : x1 = (k : Int)) (h0 : 0 < ro) (hL : L ≤ 67108864) (hk : k < L) (hR : zRes h ro i L fa) (q : ∀ h1, zRes h1 ro i L (zfi fa k 0) → (∀ a j : Nat, ¬ (ro ≤ a ∧ a < ro + 2 ∧ j = i) → h1 (a, j) = h (a, j)) → Q (.inl none) c s h1) : zX d 25 0 [(0, .inr (ro, i)), (1, zi x1)] [] c s h Q := by
  subst hx1
  have hc := zcnt_set (f := fa) (x := 0) hk
  rw [if_pos rfl] at hc
  refine r_clr h0 hL hk (zcnt_le _ _) hR.1 hR.2.1 (fun e h1 a1 a2 a3 => ?_) (fun e h1 a1 a2 a3 => ?_)
  · rw [if_neg e] at hc
    refine q h1 ⟨?_, a2, zfi_0 hk hR.2.2⟩ (fun a j hn => a3 a j (by omega))
    rw [a1, show ((zcnt fa L : Nat) : Int) - 1 = ((zcnt (zfi fa k 0) L : Nat) : Int) from by omega]
  · rw [if_pos e] at hc
    refine q h1 ⟨?_, a2, zfi_0 hk hR.2.2⟩ (fun a j hn => a3 a j (by omega))
    rw [a1, show ((zcnt fa L : Nat) : Int) - 0 = ((zcnt (zfi fa k 0) L : Nat) : Int) from by omega]
end RES
section TAL
variable {ro i L k j : Nat} {fn fs fg : Nat → Int32}
theorem s_has {x1 : Int} (hx1 : x1 = (k : Int)) (h0 : 0 < ro) (hL : L ≤ 67108864) (hk : k < L) (hR : zTal h ro i L fn fs fg) (q0 : ¬ 0 < fn k → Q (.inl (some (zi 0))) c s h) (q1 : 0 < fn k → Q (.inl (some (zi 1))) c s h) : zX (d + 1) 53 0 [(0, .inr (ro, i)), (1, zi x1)] [] c s h Q := by
  subst hx1
  exact  r_has h0 hL hk hR.1 hR.2.1 hR.2.2.1 hR.2.2.2.1 q0 q1
/-- the greatest of a cell, with one row more -/
def zgr (x v num : Int32) : Int32 := if num = 0 then v else if x < v then v else x
theorem s_tadd {x1 : Int} (hx1 : x1 = (k : Int)) {v : Int} (h0 : 0 < ro) (hL : L ≤ 67108864) (hk : k < L) (hR : zTal h ro i L fn fs fg) (q : ∀ h1, zTal h1 ro i L (zfi fn k (fn k + 1)) (zfi fs k (fs k + Int32.ofInt v)) (zfi fg k (zgr (fg k) (Int32.ofInt v) (fn k))) → (∀ a j : Nat, ¬ (ro ≤ a ∧ a < ro + 4 ∧ j = i) → h1 (a, j) = h (a, j)) → Q (.inl none) c s h1) : zX (d + 1) 54 0 [(0, .inr (ro, i)), (1, zi x1), (2, zi v)] [] c s h Q := by
  subst hx1
  have hb : ∀ (x y z : Int32) (t : Nat), L ≤ t → zfi fn k x t = 0 ∧ zfi fs k y t = 0 ∧ zfi fg k z t = 0 := fun x y z t ht => ⟨zfi_0 hk (fun t ht => (hR.2.2.2.2 t ht).1) t ht, zfi_0 hk (fun t ht => (hR.2.2.2.2 t ht).2.1) t ht, zfi_0 hk (fun t ht => (hR.2.2.2.2 t ht).2.2) t ht⟩
  refine r_tadd h0 hL hk hR.1 hR.2.1 hR.2.2.1 hR.2.2.2.1 (fun e h1 a1 a2 a3 a4 => ?_) (fun e h1 a1 a2 a3 a4 => ?_)
  · refine q h1 ⟨?_, a2, a3, ?_, hb _ _ _⟩ (fun a j hn => a4 a j (by omega))
    · rw [a4 ro i (by omega)]
      exact hR.1
    · unfold zgr
      rw [if_neg e]
      exact a1
  · refine q h1 ⟨?_, a2, a3, ?_, hb _ _ _⟩ (fun a j hn => a4 a j (by omega))
    · rw [a4 ro i (by omega)]
      exact hR.1
    · unfold zgr
      rw [if_pos e]
      exact a1
theorem s_tall {x1 x2 : Int} (hx1 : x1 = (k : Int)) (hx2 : x2 = (j : Int)) (h0 : 0 < ro) (hL : L ≤ 67108864) (hk : k < L) (hj : j < L) (hR : zTal h ro i L fn fs fg) (q0 : ¬ 0 < fn j → Q (.inl none) c s h) (q : 0 < fn j → ∀ h1, zTal h1 ro i L (zfi fn k (fn k + fn j)) (zfi fs k (fs k + fs j)) (zfi fg k (zgr (fg k) (fg j) (fn k))) → (∀ a j : Nat, ¬ (ro ≤ a ∧ a < ro + 4 ∧ j = i) → h1 (a, j) = h (a, j)) → Q (.inl none) c s h1) : zX (d + 2) 55 0 [(0, .inr (ro, i)), (1, zi x1), (2, zi x2)] [] c s h Q := by
  subst hx1
  subst hx2
  have hb : ∀ (x y z : Int32) (t : Nat), L ≤ t → zfi fn k x t = 0 ∧ zfi fs k y t = 0 ∧ zfi fg k z t = 0 := fun x y z t ht => ⟨zfi_0 hk (fun t ht => (hR.2.2.2.2 t ht).1) t ht, zfi_0 hk (fun t ht => (hR.2.2.2.2 t ht).2.1) t ht, zfi_0 hk (fun t ht => (hR.2.2.2.2 t ht).2.2) t ht⟩
  refine r_tall h0 hL hk hj hR.1 hR.2.1 hR.2.2.1 hR.2.2.2.1 q0 (fun e0 e h1 a1 a2 a3 a4 => ?_) (fun e0 e h1 a1 a2 a3 a4 => ?_)
  · refine q e0 h1 ⟨?_, a2, a3, ?_, hb _ _ _⟩ (fun a j hn => a4 a j (by omega))
    · rw [a4 ro i (by omega)]
      exact hR.1
    · unfold zgr
      rw [if_neg e]
      exact a1
  · refine q e0 h1 ⟨?_, a2, a3, ?_, hb _ _ _⟩ (fun a j hn => a4 a j (by omega))
    · rw [a4 ro i (by omega)]
      exact hR.1
    · unfold zgr
      rw [if_pos e]
      exact a1
theorem s_tclr {x1 : Int} (hx1 : x1 = (k : Int)) (h0 : 0 < ro) (hL : L ≤ 67108864) (hk : k < L) (hR : zTal h ro i L fn fs fg) (q : ∀ h1, zTal h1 ro i L (zfi fn k 0) (zfi fs k 0) (zfi fg k 0) → (∀ a j : Nat, ¬ (ro ≤ a ∧ a < ro + 4 ∧ j = i) → h1 (a, j) = h (a, j)) → Q (.inl none) c s h1) : zX (d + 1) 56 0 [(0, .inr (ro, i)), (1, zi x1)] [] c s h Q := by
  subst hx1
  refine r_tclr h0 hL hk hR.1 hR.2.1 hR.2.2.1 hR.2.2.2.1 (fun h1 a1 a2 a3 a4 => ?_)
  refine q h1 ⟨?_, a1, a2, a3, fun t ht => ⟨zfi_0 hk (fun t ht => (hR.2.2.2.2 t ht).1) t ht, zfi_0 hk (fun t ht => (hR.2.2.2.2 t ht).2.1) t ht, zfi_0 hk (fun t ht => (hR.2.2.2.2 t ht).2.2) t ht⟩⟩ (fun a j hn => a4 a j (by omega))
  rw [a4 ro i (by omega)]
  exact hR.1
end TAL
end ZS44
