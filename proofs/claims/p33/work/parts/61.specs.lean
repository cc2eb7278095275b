set_option maxRecDepth 100000
section ZSP
variable {d : Nat} {k0 c0 s0 : Nat} {h : xH} {Q : xR → xA → Prop}
/-- results in slots: how many slots hold one -/
def zcnt (f : Nat → Int64) : Nat → Nat
  | 0 => 0
  | n + 1 => zcnt f n + (if f n = 0 then 0 else 1)
theorem zcnt_same {f g : Nat → Int64} {n : Nat} (e : ∀ j, j < n → f j = g j) : zcnt f n = zcnt g n := by
  induction n with
  | zero => rfl
  | succ n ih =>
    unfold zcnt
    rw [ih (fun j hj => e j (by omega)), e n (by omega)]
theorem zcnt_set {f : Nat → Int64} {n k : Nat} {x : Int64} (hk : k < n) : zcnt (zfi f k x) n + (if f k = 0 then 0 else 1) = zcnt f n + (if x = 0 then 0 else 1) := by
  induction n with
  | zero => omega
  | succ n ih =>
    unfold zcnt
    by_cases e : k = n
    · subst e
      have h1 : zcnt (zfi f k x) k = zcnt f k := zcnt_same (fun j hj => if_neg (by omega))
      have h2 : zfi f k x k = x := if_pos rfl
      rw [h1, h2]
      omega
    · have h2 : zfi f k x n = f n := if_neg (fun z => e z.symm)
      rw [h2]
      have := ih (by omega)
      omega
theorem zcnt_le (f : Nat → Int64) (n : Nat) : zcnt f n ≤ n := by
  induction n with
  | zero => exact Nat.le_refl _
  | succ n ih =>
    unfold zcnt
    split <;> omega
section RES
variable {r a : Nat × Nat} {L : Nat} {fa : Nat → Int64}
/-- results: an object, its slots, how many of them hold one -/
abbrev zRes (r a : Nat × Nat) (L : Nat) (fa : Nat → Int64) : zWorld := [(r, .inl (5, [.inr a, .inl (.int (Int32.ofNat (zcnt fa L)))])), (a, .inr (1, L, zJ fa))]
theorem s_at {k : Nat} (hL : L < 2147483648) (hk : k < L) (hw : zWd h (zRes r a L fa)) (q : Q (.inl (some (.inl (.long (fa k))))) (zNm k0, c0, s0, h)) : zW xPP d 23 0 [(0, .inr r), (1, .inl (.int (Int32.ofNat k)))] [] (zNm k0, c0, s0, h) Q := by
  refine w_at hL hw (fun e => ?_) (fun _ e => ?_) (fun _ _ => ?_)
  · rw [zx_lt0 (by omega)] at e; cases e
  · rw [zx_ge hL hk] at e; cases e
  · rw [zk_nat (by omega)]; exact q
theorem zcmp0 {x : Int64} : xcd .ne (lg_cmp x 0) 0 = decide (x ≠ 0) := decide_eq_decide.mpr (not_congr (lg_cmp_eq x 0))
theorem s_put {k : Nat} {y : Int64} (hL : L < 2147483647) (hk : k < L) (hy : y ≠ 0) (hw : zWd h (zRes r a L fa)) (q : ∀ h1, zWd h1 (zRes r a L (zfi fa k y)) → zFr [r, a] h h1 → zSw h (zRes r a L fa) (zRes r a L (zfi fa k y)) → Q (.inl none) (zNm k0, c0, s0, h1)) : zW xPP d 24 0 [(0, .inr r), (1, .inl (.int (Int32.ofNat k))), (2, .inl (.long y))] [] (zNm k0, c0, s0, h) Q := by
  have hc := zcnt_set (f := fa) (x := y) hk
  rw [if_neg hy] at hc
  refine w_put (by omega) hw (fun e => ?_) (fun _ e => ?_) (fun h1 hv hf _ _ e => ?_) (fun h1 hv hf _ _ e => ?_)
  · rw [zx_lt0 (by omega)] at e; cases e
  · rw [zx_ge (by omega) hk] at e; cases e
  · rw [zk_nat (by omega)] at hv e
    rw [zcmp0] at e
    have e := of_decide_eq_true e
    rw [if_neg e] at hc
    refine q h1 ?_ hf (zSw.of rfl)
    have e2 : Int32.ofNat (zcnt fa L) + 0 = Int32.ofNat (zcnt (zfi fa k y) L) := by
      rw [Int32.add_zero]
      congr 1
      omega
    rw [e2] at hv
    exact hv
  · rw [zk_nat (by omega)] at hv e
    rw [zcmp0] at e
    have e := Classical.not_not.mp (of_decide_eq_false e)
    rw [if_pos e] at hc
    refine q h1 ?_ hf (zSw.of rfl)
    have e2 : Int32.ofNat (zcnt fa L) + 1 = Int32.ofNat (zcnt (zfi fa k y) L) := by
      rw [show zcnt (zfi fa k y) L = zcnt fa L + 1 from by omega, Int32.ofNat_add]
      rfl
    rw [e2] at hv
    exact hv
end RES
section TAL
variable {t n s g : Nat × Nat} {L : Nat} {fn fs fg : Nat → Int32}
abbrev zTal (t n s g : Nat × Nat) (L : Nat) (fn fs fg : Nat → Int32) : zWorld := [(t, .inl (7, [.inr n, .inr s, .inr g])), (n, .inr (0, L, zI fn)), (s, .inr (0, L, zI fs)), (g, .inr (0, L, zI fg))]
theorem s_hasRows {k : Nat} (hL : L < 2147483648) (hk : k < L) (hw : zWd h (zTal t n s g L fn fs fg)) (q0 : ¬ 0 < fn k → Q (.inl (some (.inl (.int 0)))) (zNm k0, c0, s0, h)) (q1 : 0 < fn k → Q (.inl (some (.inl (.int 1)))) (zNm k0, c0, s0, h)) : zW xPP (d + 1) 53 0 [(0, .inr t), (1, .inl (.int (Int32.ofNat k)))] [] (zNm k0, c0, s0, h) Q := by
  refine w_hasRows hL hw (fun e => ?_) (fun _ e => ?_) (fun _ _ e => ?_) (fun _ _ e => ?_)
  · rw [zx_lt0 (by omega)] at e; cases e
  · rw [zx_ge hL hk] at e; cases e
  · rw [zk_nat (by omega)] at e
    exact q0 (fun z => absurd (of_decide_eq_true e) (Int32.not_le.mpr z))
  · rw [zk_nat (by omega)] at e
    exact q1 (Int32.not_le.mp (of_decide_eq_false e))
/-- a row more in a cell -/
def zgr (x v : Int32) (num : Int32) : Int32 := if num = 0 then v else if x < v then v else x
theorem s_add {k : Nat} {v : Int32} (hL : L < 2147483648) (hk : k < L) (hw : zWd h (zTal t n s g L fn fs fg)) (q : ∀ h1, zWd h1 (zTal t n s g L (zfi fn k (fn k + 1)) (zfi fs k (fs k + v)) (zfi fg k (zgr (fg k) v (fn k)))) → zFr [t, n, s, g] h h1 → zSw h (zTal t n s g L fn fs fg) (zTal t n s g L (zfi fn k (fn k + 1)) (zfi fs k (fs k + v)) (zfi fg k (zgr (fg k) v (fn k)))) → Q (.inl none) (zNm k0, c0, s0, h1)) : zW xPP (d + 1) 54 0 [(0, .inr t), (1, .inl (.int (Int32.ofNat k))), (2, .inl (.int v))] [] (zNm k0, c0, s0, h) Q := by
  refine w_add hL hw (fun e => ?_) (fun _ e => ?_) (fun h1 hv hf _ _ e => ?_) (fun h1 hv hf _ _ e => ?_)
  · rw [zx_lt0 (by omega)] at e; cases e
  · rw [zx_ge hL hk] at e; cases e
  · rw [zk_nat (by omega)] at hv e
    have e : ¬ fn k = 0 := of_decide_eq_true e
    refine q h1 ?_ hf (zSw.of rfl)
    unfold zgr
    rw [if_neg e]
    exact hv
  · rw [zk_nat (by omega)] at hv e
    have e : fn k = 0 := Classical.not_not.mp (of_decide_eq_false e)
    refine q h1 ?_ hf (zSw.of rfl)
    unfold zgr
    rw [if_pos e]
    exact hv
end TAL
end ZSP
