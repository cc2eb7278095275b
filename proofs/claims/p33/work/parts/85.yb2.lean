set_option maxRecDepth 100000
section ZY85
variable {d v L : Nat} {fa : Nat → Int64} {Q : xR → Nat → Nat → xH → Prop}
theorem l_same {c s : Nat} {h : xH} (hL : L ≤ 67108864) (h1 : zRes h 21 v L fa) (h2 : zRes h 23 v L fa) (q : Q (.inl (some (zi 1))) c s h) : ∀ n j : Nat, j + n = L → zX (d + 1) 32 32 [(0, .inr (23, v)), (1, .inr (21, v)), (2, zi 1), (3, zi (j : Int))] [] c s h Q := by
  have hc : zcnt fa L ≤ 67108864 := Nat.le_trans (zcnt_le fa L) hL
  intro n
  induction n with
  | zero =>
    intro j hj
    exact r_sae (d := d + 1) hL hc (by omega) h1.1 h1.2.1 h2.1 h2.2.1 q
  | succ n ih =>
    intro j hj
    exact r_sa1 hL hc (by omega) h1.1 h1.2.1 h2.1 h2.2.1 (fun z => absurd rfl z) (fun _ => ih (j + 1) (by omega))
/-- what is the same is found so -/
theorem s_same {c s : Nat} {h : xH} (hL : L ≤ 67108864) (h1 : zRes h 21 v L fa) (h2 : zRes h 23 v L fa) (q : Q (.inl (some (zi 1))) c s h) : zX (d + 1) 32 0 [(0, .inr (23, v)), (1, .inr (21, v))] [] c s h Q :=
  r_sa0 (d := d + 1) hL (Nat.le_trans (zcnt_le fa L) hL) h1.1 h1.2.1 h2.1 h2.2.1 (l_same hL h1 h2 q L 0 (by omega))
end ZY85
