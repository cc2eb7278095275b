set_option maxRecDepth 100000
section ZX61
variable {d c s : Nat} {h : xH} {Q : xR → Nat → Nat → xH → Prop}
/-- a cell's rows added to another's -/
def zaaN (fn : Nat → Int32) (k j : Nat) : Nat → Int32 := if 0 < fn j then zfi fn k (fn k + fn j) else fn
def zaaS (fn fs : Nat → Int32) (k j : Nat) : Nat → Int32 := if 0 < fn j then zfi fs k (fs k + fs j) else fs
theorem s_tall2 {ro i L k j : Nat} {fn fs fg : Nat → Int32} {x1 x2 : Int} (hx1 : x1 = (k : Int)) (hx2 : x2 = (j : Int)) (h0 : 0 < ro) (hL : L ≤ 67108864) (hk : k < L) (hj : j < L) (hR : zTal h ro i L fn fs fg) (q : ∀ h1 fg1, zTal h1 ro i L (zaaN fn k j) (zaaS fn fs k j) fg1 → (∀ a j : Nat, ¬ (ro ≤ a ∧ a < ro + 4 ∧ j = i) → h1 (a, j) = h (a, j)) → Q (.inl none) c s h1) : zX (d + 2) 55 0 [(0, .inr (ro, i)), (1, zi x1), (2, zi x2)] [] c s h Q := by
  unfold zaaN zaaS at q
  by_cases hz : 0 < fn j
  · rw [if_pos hz, if_pos hz] at q
    exact s_tall hx1 hx2 h0 hL hk hj hR (fun z => absurd hz z) (fun _ h1 a1 a2 => q h1 _ a1 a2)
  · rw [if_neg hz, if_neg hz] at q
    exact s_tall hx1 hx2 h0 hL hk hj hR (fun _ => q h fg hR (fun _ _ _ => rfl)) (fun z => absurd z hz)
section VW
variable {v sz gr : Nat} {bs : Bool} {fi : Int} {dr : Int32} {ci : Nat} {tl : List xV}
/-- what sessions and joins drop -/
def zLate (sz gr : Nat) (e : zE) : Prop := (zeT e : Int) + (sz : Int) + 1 + (gr : Int) ≤ zeA e
theorem s_late {e : zE} (hr : zVr v fi sz gr) (hci : ci = 2 ∨ ci = 6 ∨ ci = 8 ∨ ci = 9) (hE : zEr e) (hv : zVo h ci v bs fi sz gr dr tl) (he : zEn h e) (q0 : ¬ zLate sz gr e → Q (.inl (some (zi 0))) c s h) (q1 : zLate sz gr e → Q (.inl (some (zi 1))) c s h) : zX d 84 0 [(0, .inr (20, v)), (1, .inr (8, zeN e))] [] c s h Q := by
  obtain ⟨r1, r2, r3, r4⟩ := hr
  obtain ⟨e1, e2, e3, e4, e5, e6⟩ := hE
  exact r_late (by omega) r3 r4 hci e2 e3 e4 e6 (zbi_r _) (zbi_r _) e1 e5 hv he (fun z => q0 (Int.not_le.mpr z)) (fun z => q1 z)
theorem s_tell2 {L N : Nat} {fa : Nat → Int64} {out : List Int64} {x : Int} {k : Nat} {y : Int64} (hx : x = (k : Int)) (hk : k < L) (hy : ¬ y = 0) (hr : zVr v fi sz gr) (hci : ci = 2 ∨ ci = 6 ∨ ci = 8 ∨ ci = 9) (hL : L ≤ 67108864) (ho : out.length + 2 < 200000) (hv : zVo h ci v bs fi sz gr dr tl) (hR : zRes h 21 v L fa) (hO : zOut h N out)
    (q : ∀ h1 N1 c1 s1, zRes h1 21 v L (zfi fa k y) → zOut h1 N1 (out ++ [y]) → zFt v h h1 → zCo N c s N1 c1 s1 → Q (.inl none) c1 s1 h1) : zX (d + 2) 78 0 [(0, .inr (20, v)), (1, zi x), (2, .inl (.long y))] [] c s h Q := by
  obtain ⟨r1, r2, r3, r4⟩ := hr
  exact s_tell hx hk hy (by omega) r3 r4 hci hL ho hv hR hO (fun N1 c1 s1 hb h1 a1 a2 a3 => q h1 N1 c1 s1 a1 a2 a3 hb)
end VW
end ZX61
