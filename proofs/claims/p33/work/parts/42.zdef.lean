set_option maxRecDepth 20000
section ZDEF
/-- Arrays.copyOf of references: the one method whose end is known beforehand -/
def zct : zCt := fun d mid as A => match Nat.beq mid 161 with
  | true => match as with
    | [.inr z, .inl (.int x)] => match A.2.2.2 z, A.1 with
      | some (.inr (4, n0, f)), q :: nm => if (2 ≤ d ∧ ¬ x < 0 ∧ x.toNatClampNeg ≤ 67108864) ∧ ((A.2.2.2 q).isNone = true ∧ q.1 ≠ 0) ∧ n0 ≤ x.toNatClampNeg ∧ xcpk A.2.2.2 [0, 1, 2, 3, 4, 5, 6, 7, 8, 9, 10] 4 f 0 n0 = true then some (.inl (some (.inr q)), (nm, A.2.1 + 1, A.2.2.1 + x.toNatClampNeg, xup A.2.2.2 q (.inr (4, x.toNatClampNeg, xcpy f (fun _ => .inl .null) 0 0 n0)))) else none
      | _, _ => none
    | _ => none
  | false => none
abbrev zX (d mid pc : Nat) (l : xL) (st : List xV) (c s : Nat) (h : xH) (Q : xR → Nat → Nat → xH → Prop) : Prop := zXc xPP zct d mid pc l st c s h Q
/-- results in slots: how many slots hold one -/
def zcnt (f : Nat → Int64) : Nat → Nat
  | 0 => 0
  | n + 1 => zcnt f n + (if f n = 0 then 0 else 1)
theorem zcnt_same {f g : Nat → Int64} {n : Nat} (e : ∀ j, j < n → f j = g j) : zcnt f n = zcnt g n := by
  induction n with
  | zero => rfl
  | succ n ih =>
    unfold zcnt
    rw [ih (fun j hj => e j (by omega)), e n (by omega)]
theorem zcnt_set {f : Nat → Int64} {n k : Nat} {x : Int64} (hk : k < n) : zcnt (zfi f k x) n + (if f k = 0 then 0 else 1) = zcnt f n + (if x = 0 then 0 else 1) := by
  induction n with
  | zero => omega
  | succ n ih =>
    unfold zcnt
    by_cases e : k = n
    · subst e
      have h1 : zcnt (zfi f k x) k = zcnt f k := zcnt_same (fun j hj => if_neg (by omega))
      have h2 : zfi f k x k = x := if_pos rfl
      rw [h1, h2]
      omega
    · have h2 : zfi f k x n = f n := if_neg (fun z => e z.symm)
      rw [h2]
      have := ih (by omega)
      omega
theorem zcnt_le (f : Nat → Int64) (n : Nat) : zcnt f n ≤ n := by
  induction n with
  | zero => exact Nat.le_refl _
  | succ n ih =>
    unfold zcnt
    split <;> omega
theorem zcnt_0 (n : Nat) : zcnt (fun _ => 0) n = 0 := by
  induction n with
  | zero => rfl
  | succ n ih =>
    unfold zcnt
    rw [ih]
    rfl
/-- results: an object, its slots, how many of them hold one -/
abbrev zRes (h : xH) (ro i L : Nat) (fa : Nat → Int64) : Prop := h (ro, i) = some (.inl (5, [.inr (ro + 1, i), zi ((zcnt fa L : Nat) : Int)])) ∧ h (ro + 1, i) = some (.inr (1, L, zJ fa))
/-- a tally: three arrays -/
abbrev zTal (h : xH) (ro i L : Nat) (fn fs fg : Nat → Int32) : Prop := h (ro, i) = some (.inl (7, [.inr (ro + 1, i), .inr (ro + 2, i), .inr (ro + 3, i)])) ∧ h (ro + 1, i) = some (.inr (0, L, zI fn)) ∧ h (ro + 2, i) = some (.inr (0, L, zI fs)) ∧ h (ro + 3, i) = some (.inr (0, L, zI fg))
/-- the outputs -/
def zOut (h : xH) (N : Nat) (out : List Int64) : Prop := ∃ fo : Nat → Int64, h (2, 0) = some (.inl (3, [.inr (3, N), zi (out.length : Int)])) ∧ h (3, N) = some (.inr (1, N, zJ fo)) ∧ (∀ (i : Nat) (x : Int64), out[i]? = some x → fo i = x) ∧ (∀ M, N < M → h (3, M) = none) ∧ out.length ≤ N ∧ 64 ≤ N ∧ N ≤ 320000
theorem zOut.fr {h h1 : xH} {N : Nat} {out : List Int64} (ho : zOut h N out) (e : ∀ a i : Nat, 2 ≤ a ∧ a < 4 → h1 (a, i) = h (a, i)) : zOut h1 N out := by
  obtain ⟨fo, h2, h3, h4, h5, h6⟩ := ho
  exact ⟨fo, by rw [e 2 0 (by omega)]; exact h2, by rw [e 3 N (by omega)]; exact h3, h4, fun M hM => by rw [e 3 M (by omega)]; exact h5 M hM, h6⟩
/-- where a list's elements lie -/
def zAr (ro i cap : Nat) : Nat × Nat := if cap = 0 then (0, 1) else (ro, 8 * cap + i)
/-- a list of references -/
def zAL (h : xH) (ro i cap : Nat) (xs : List (Nat × Nat)) : Prop := ∃ (md : Int32) (g : Nat → xV), h (ro, i) = some (.inl (0, [.inl (.int md), .inr (zAr (ro + 1) i cap), zi (xs.length : Int)])) ∧ h (zAr (ro + 1) i cap) = some (.inr (4, cap, g)) ∧ (∀ (j : Nat) (x : Nat × Nat), xs[j]? = some x → g j = .inr x) ∧ (∀ M, cap < M → h (ro + 1, 8 * M + i) = none) ∧ xs.length ≤ cap ∧ cap ≤ 108
theorem zAL.fr {h h1 : xH} {ro i cap : Nat} {xs : List (Nat × Nat)} (ha : zAL h ro i cap xs) (e : ∀ a j : Nat, (ro ≤ a ∧ a < ro + 2 ∧ j % 8 = i % 8) ∨ a = 0 → h1 (a, j) = h (a, j)) : zAL h1 ro i cap xs := by
  obtain ⟨md, g, h2, h3, h4, h5, h6⟩ := ha
  refine ⟨md, g, by rw [e ro i (by omega)]; exact h2, ?_, h4, fun M hM => by rw [e (ro + 1) _ (by omega)]; exact h5 M hM, h6⟩
  unfold zAr at h3 ⊢
  split
  next hc =>
    rw [if_pos hc] at h3
    rw [e 0 1 (by omega)]
    exact h3
  next hc =>
    rw [if_neg hc] at h3
    rw [e (ro + 1) _ (by omega)]
    exact h3
/-- objects of the program -/
def zEl (h : xH) (xs : List (Nat × Nat)) : Prop := ∀ x ∈ xs, ∃ (ci : Nat) (fs : List xV), h x = some (.inl (ci, fs)) ∧ [0, 1, 2, 3, 4, 5, 6, 7, 8, 9, 10].elem ci = true
theorem zcpk {h : xH} {xs : List (Nat × Nat)} {g : Nat → xV} {sp n : Nat} (hE : zEl h xs) (hg : ∀ (j : Nat) (x : Nat × Nat), xs[j]? = some x → g j = .inr x) (hn : sp + n ≤ xs.length) : xcpk h [0, 1, 2, 3, 4, 5, 6, 7, 8, 9, 10] 4 g sp n = true := by
  unfold xcpk
  refine List.all_eq_true.mpr (fun j hj => ?_)
  have hj := List.mem_range.mp hj
  have hx := List.getElem?_eq_getElem (l := xs) (i := sp + j) (by omega)
  rw [hg _ _ hx]
  obtain ⟨ci, fs, h1, h2⟩ := hE _ (List.mem_of_getElem? hx)
  show (Nat.beq 4 4 && (match h xs[sp + j] with
    | some (.inl (ci, _)) => [0, 1, 2, 3, 4, 5, 6, 7, 8, 9, 10].elem ci
    | _ => false)) = true
  rw [h1]
  exact h2
end ZDEF
