set_option maxRecDepth 100000
section ZSP2
variable {d : Nat} {k0 c0 s0 : Nat} {h : xH} {Q : xR → xA → Prop}
/-- outputs: an object, its list, how many are in it -/
abbrev zOut (o q : Nat × Nat) (N z : Nat) (fo : Nat → Int64) : zWorld := [(o, .inl (3, [.inr q, .inl (.int (Int32.ofNat z))])), (q, .inr (1, N, zJ fo))]
/-- the slots that a list of this length has cost at most -/
def zB (N : Nat) : Nat := if N < 320000 then 2 * N else 960000
theorem zsucc {z : Nat} : Int32.ofNat z + 1 = Int32.ofNat (z + 1) := by
  rw [Int32.ofNat_add]
  rfl
/-- one output more -/
theorem s_oadd {o q : Nat × Nat} {N z : Nat} {fo : Nat → Int64} {x : Int64} (hN : N ≤ 320000) (hN0 : 0 < N) (hzN : z ≤ N) (hz : z < 320000) (hfr : zFree k0 h) (hmx : k0 + 320000 < 390000 + N) (hw : zWd h (zOut o q N z fo))
    (k : ∀ (q1 : Nat × Nat) (N1 : Nat) (fo1 : Nat → Int64) (k1 c1 s1 : Nat) (h1 : xH), zWd h1 (zOut o q1 N1 (z + 1) fo1) → zFw [o, q] h h1 → zFree k1 h1 → zSw h (zOut o q N z fo) (zOut o q1 N1 (z + 1) fo1) → N ≤ N1 ∧ N1 ≤ 320000 ∧ z + 1 ≤ N1 → (∀ j, j < z → fo1 j = fo j) → fo1 z = x → (k0 ≤ k1 ∧ k1 + N ≤ k0 + N1 ∧ c1 + N ≤ c0 + N1 ∧ s1 + zB N ≤ s0 + zB N1) → Q (.inl none) (zNm k1, c1, s1, h1)) :
    zW xPP (d + 1) 11 0 [(0, .inr o), (1, .inl (.long x))] [] (zNm k0, c0, s0, h) Q := by
  by_cases hlt : z < N
  · refine w_oadd (by omega) hlt hw (fun h1 hv hf => ?_)
    rw [zsucc, zk_nat (by omega)] at hv
    refine k q N _ k0 c0 s0 h1 hv (hf.w hv.pres) ?_ (zSw.of rfl) ⟨Nat.le_refl _, hN, by omega⟩ (fun j hj => if_neg (by omega)) (if_pos rfl) ⟨Nat.le_refl _, Nat.le_refl _, Nat.le_refl _, Nat.le_refl _⟩
    exact hf.free hfr hw (zsl [0, 1] rfl)
  · have hzN : z = N := by omega
    refine w_oaddG (by omega) hN0 hzN hfr (by unfold zMax; omega) hw (fun h1 hv hf hr => ?_)
    rw [zsucc, zk_nat (by omega)] at hv
    have hgt := zmin_gt (N := N) (by omega) hN0
    have hle : Nat.min (2 * N) 320000 ≤ 2 * N := Nat.min_le_left _ _
    have hle2 : Nat.min (2 * N) 320000 ≤ 320000 := Nat.min_le_right _ _
    have hB : Nat.min (2 * N) 320000 + zB N ≤ zB (Nat.min (2 * N) 320000) := by
      unfold zB
      rw [if_pos (show N < 320000 by omega)]
      by_cases h2 : 2 * N < 320000
      · have e : Nat.min (2 * N) 320000 = 2 * N := Nat.min_eq_left (by omega)
        rw [e, if_pos h2]
        omega
      · have e : Nat.min (2 * N) 320000 = 320000 := Nat.min_eq_right (by omega)
        rw [e, if_neg (by omega)]
        omega
    refine k (1, k0) _ _ (k0 + 1) (c0 + 1) _ h1 (hv.sub [0, 2] rfl (by decide)) hf hr ⟨rfl, fun i p p1 hp hp1 => ?_⟩ ⟨by omega, hle2, by omega⟩ (fun j hj => ?_) (if_pos rfl) ⟨by omega, by omega, by omega, by omega⟩
    · match i, hp, hp1 with
      | 0, hp, hp1 =>
        cases hp
        cases hp1
        exact Or.inl rfl
      | 1, hp, hp1 =>
        cases hp1
        exact Or.inr (hfr k0 (Nat.le_refl _))
      | i + 2, hp, hp1 => cases hp
    · show (if j = z then x else if j < N then fo j else 0) = fo j
      rw [if_neg (by omega), if_pos (by omega)]
section CLR
variable {r a : Nat × Nat} {L : Nat} {fa : Nat → Int64}
theorem s_clr {k : Nat} (hL : L < 2147483647) (hk : k < L) (hw : zWd h (zRes r a L fa)) (q : ∀ h1, zWd h1 (zRes r a L (zfi fa k 0)) → zFr [r, a] h h1 → zSw h (zRes r a L fa) (zRes r a L (zfi fa k 0)) → Q (.inl none) (zNm k0, c0, s0, h1)) : zW xPP d 25 0 [(0, .inr r), (1, .inl (.int (Int32.ofNat k)))] [] (zNm k0, c0, s0, h) Q := by
  have hc := zcnt_set (f := fa) (x := 0) hk
  rw [if_pos rfl] at hc
  refine w_clr (by omega) hw (fun e => ?_) (fun _ e => ?_) (fun h1 hv hf _ _ e => ?_) (fun h1 hv hf _ _ e => ?_)
  · rw [zx_lt0 (by omega)] at e; cases e
  · rw [zx_ge (by omega) hk] at e; cases e
  · rw [zk_nat (by omega)] at hv e
    rw [zcmp0] at e
    have e := of_decide_eq_true e
    rw [if_neg e] at hc
    refine q h1 ?_ hf (zSw.of rfl)
    have e2 : Int32.ofNat (zcnt fa L) - 1 = Int32.ofNat (zcnt (zfi fa k 0) L) := by
      rw [show zcnt fa L = zcnt (zfi fa k 0) L + 1 from by omega, Int32.ofNat_add]
      exact Int32.add_sub_cancel _ _
    rw [e2] at hv
    exact hv
  · rw [zk_nat (by omega)] at hv e
    rw [zcmp0] at e
    have e := Classical.not_not.mp (of_decide_eq_false e)
    rw [if_pos e] at hc
    refine q h1 ?_ hf (zSw.of rfl)
    have e2 : Int32.ofNat (zcnt fa L) - 0 = Int32.ofNat (zcnt (zfi fa k 0) L) := by
      rw [Int32.sub_zero]
      congr 1
      omega
    rw [e2] at hv
    exact hv
end CLR
end ZSP2
