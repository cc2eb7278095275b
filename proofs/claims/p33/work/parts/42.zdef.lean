set_option maxRecDepth 20000
section ZDEF
/-- Arrays.copyOf of references: the one method whose end is known beforehand -/
def zct : zCt := fun d mid as A => match Nat.beq mid 161 with
  | true => match as with
    | [.inr z, .inl (.int x)] => match A.2.2.2 z, A.1 with
      | some (.inr (4, n0, f)), q :: nm => if (2 ≤ d ∧ ¬ x < 0 ∧ x.toNatClampNeg ≤ 67108864) ∧ ((A.2.2.2 q).isNone = true ∧ q.1 ≠ 0) ∧ n0 ≤ x.toNatClampNeg ∧ xcpk A.2.2.2 [0, 1, 2, 3, 4, 5, 6, 7, 8, 9, 10] 4 f 0 n0 = true then some (.inl (some (.inr q)), (nm, A.2.1 + 1, A.2.2.1 + x.toNatClampNeg, xup A.2.2.2 q (.inr (4, x.toNatClampNeg, xcpy f (fun _ => .inl .null) 0 0 n0)))) else none
      | _, _ => none
    | _ => none
  | false => none
abbrev zX (d mid pc : Nat) (l : xL) (st : List xV) (c s : Nat) (h : xH) (Q : xR → Nat → Nat → xH → Prop) : Prop := zXc xPP zct d mid pc l st c s h Q
/-- results in slots: how many slots hold one -/
def zcnt (f : Nat → Int64) : Nat → Nat
  | 0 => 0
  | n + 1 => zcnt f n + (if f n = 0 then 0 else 1)
theorem zcnt_same {f g : Nat → Int64} {n : Nat} (e : ∀ j, j < n → f j = g j) : zcnt f n = zcnt g n := by
  induction n with
  | zero => rfl
  | succ n ih =>
    unfold zcnt
    rw [ih (fun j hj => e j (by omega)), e n (by omega)]
theorem zcnt_set {f : Nat → Int64} {n k : Nat} {x : Int64} (hk : k < n) : zcnt (zfi f k x) n + (if f k = 0 then 0 else 1) = zcnt f n + (if x = 0 then 0 else 1) := by
  induction n with
  | zero => omega
  | succ n ih =>
    unfold zcnt
    by_cases e : k = n
    · subst e
      have h1 : zcnt (zfi f k x) k = zcnt f k := zcnt_same (fun j hj => if_neg (by omega))
      have h2 : zfi f k x k = x := if_pos rfl
      rw [h1, h2]
      omega
    · have h2 : zfi f k x n = f n := if_neg (fun z => e z.symm)
      rw [h2]
      have := ih (by omega)
      omega
theorem zcnt_le (f : Nat → Int64) (n : Nat) : zcnt f n ≤ n := by
  induction n with
  | zero => exact Nat.le_refl _
  | succ n ih =>
    unfold zcnt
    split <;> omega
theorem zcnt_0 (n : Nat) : zcnt (fun _ => 0) n = 0 := by
  induction n with
  | zero => rfl
  | succ n ih =>
    unfold zcnt
    rw [ih]
    rfl
/-- results: an object, its slots, how many of them hold one; nothing beyond -/
def zRes (h : xH) (ro i L : Nat) (fa : Nat → Int64) : Prop := h (ro, i) = some (.inl (5, [.inr (ro + 1, i), zi ((zcnt fa L : Nat) : Int)])) ∧ h (ro + 1, i) = some (.inr (1, L, zJ fa)) ∧ ∀ t, L ≤ t → fa t = 0
theorem zRes.fr {h h1 : xH} {ro i L : Nat} {fa : Nat → Int64} (hr : zRes h ro i L fa) (e : ∀ a j : Nat, ro ≤ a ∧ a < ro + 2 ∧ j = i → h1 (a, j) = h (a, j)) : zRes h1 ro i L fa :=
  ⟨(e _ _ (by omega)).trans hr.1, (e _ _ (by omega)).trans hr.2.1, hr.2.2⟩
/-- a tally: three arrays -/
def zTal (h : xH) (ro i L : Nat) (fn fs fg : Nat → Int32) : Prop := h (ro, i) = some (.inl (7, [.inr (ro + 1, i), .inr (ro + 2, i), .inr (ro + 3, i)])) ∧ h (ro + 1, i) = some (.inr (0, L, zI fn)) ∧ h (ro + 2, i) = some (.inr (0, L, zI fs)) ∧ h (ro + 3, i) = some (.inr (0, L, zI fg)) ∧ ∀ t, L ≤ t → fn t = 0 ∧ fs t = 0 ∧ fg t = 0
theorem zTal.fr {h h1 : xH} {ro i L : Nat} {fn fs fg : Nat → Int32} (hr : zTal h ro i L fn fs fg) (e : ∀ a j : Nat, ro ≤ a ∧ a < ro + 4 ∧ j = i → h1 (a, j) = h (a, j)) : zTal h1 ro i L fn fs fg :=
  ⟨(e _ _ (by omega)).trans hr.1, (e _ _ (by omega)).trans hr.2.1, (e _ _ (by omega)).trans hr.2.2.1, (e _ _ (by omega)).trans hr.2.2.2.1, hr.2.2.2.2⟩
/-- the outputs -/
def zOut (h : xH) (N : Nat) (out : List Int64) : Prop := ∃ fo : Nat → Int64, h (2, 0) = some (.inl (3, [.inr (3, N), zi (out.length : Int)])) ∧ h (3, N) = some (.inr (1, N, zJ fo)) ∧ (∀ (i : Nat) (x : Int64), out[i]? = some x → fo i = x) ∧ (∀ M, N < M → h (3, M) = none) ∧ out.length ≤ N ∧ 64 ≤ N ∧ N ≤ 320000
theorem zOut.fr {h h1 : xH} {N : Nat} {out : List Int64} (ho : zOut h N out) (e : ∀ a i : Nat, 2 ≤ a ∧ a < 4 → h1 (a, i) = h (a, i)) : zOut h1 N out := by
  obtain ⟨fo, h2, h3, h4, h5, h6⟩ := ho
  exact ⟨fo, by rw [e 2 0 (by omega)]; exact h2, by rw [e 3 N (by omega)]; exact h3, h4, fun M hM => by rw [e 3 M (by omega)]; exact h5 M hM, h6⟩
/-- where a list's elements lie -/
def zAr (ro i cap : Nat) : Nat × Nat := if cap = 0 then (0, 1) else (ro, 8 * cap + i)
/-- a list of references -/
def zAL (h : xH) (ro i cap : Nat) (xs : List (Nat × Nat)) : Prop := ∃ (md : Int32) (g : Nat → xV), h (ro, i) = some (.inl (0, [.inl (.int md), .inr (zAr (ro + 1) i cap), zi (xs.length : Int)])) ∧ h (zAr (ro + 1) i cap) = some (.inr (4, cap, g)) ∧ (∀ (j : Nat) (x : Nat × Nat), xs[j]? = some x → g j = .inr x) ∧ (∀ M, cap < M → h (ro + 1, 8 * M + i) = none) ∧ xs.length ≤ cap ∧ cap ≤ 108
theorem zAL.fr {h h1 : xH} {ro i cap : Nat} {xs : List (Nat × Nat)} (ha : zAL h ro i cap xs) (e : ∀ a j : Nat, (ro ≤ a ∧ a < ro + 2 ∧ j % 8 = i % 8) ∨ a = 0 → h1 (a, j) = h (a, j)) : zAL h1 ro i cap xs := by
  obtain ⟨md, g, h2, h3, h4, h5, h6⟩ := ha
  refine ⟨md, g, by rw [e ro i (by omega)]; exact h2, ?_, h4, fun M hM => by rw [e (ro + 1) _ (by omega)]; exact h5 M hM, h6⟩
  unfold zAr at h3 ⊢
  split
  next hc =>
    rw [if_pos hc] at h3
    rw [e 0 1 (by omega)]
    exact h3
  next hc =>
    rw [if_neg hc] at h3
    rw [e (ro + 1) _ (by omega)]
    exact h3
theorem zOut.ob {h : xH} {N : Nat} {out : List Int64} (ho : zOut h N out) : h (2, 0) = some (.inl (3, [.inr (3, N), zi (out.length : Int)])) := by
  obtain ⟨fo, h2, -⟩ := ho
  exact h2
theorem zX.invA {st : List xV} {h : xH} {idx n mid2 ro i cap : Nat} {xs : List (Nat × Nat)} {tb : List Nat} {as rest : List xV} (hd : st.drop n = .inr (ro, i) :: rest) (hq : zAL h ro i cap xs) (hp : xpick 0 tb = some mid2) (ha : (.inr (ro, i) :: (st.take n).reverse) = as) : xinv (.invokevirtual idx) (n :: tb) st h = some (mid2, as, rest) := by
  obtain ⟨md, g, h1, -⟩ := hq
  exact zX.inv hd h1 hp ha
/-- objects of the program -/
def zEl (h : xH) (ro : Nat) (xs : List (Nat × Nat)) : Prop := ∀ x ∈ xs, (x.1 ≠ ro ∧ x.1 ≠ ro + 1) ∧ ∃ (ci : Nat) (fs : List xV), h x = some (.inl (ci, fs)) ∧ [0, 1, 2, 3, 4, 5, 6, 7, 8, 9, 10].elem ci = true
theorem zEl.fr {h h1 : xH} {ro : Nat} {xs : List (Nat × Nat)} (hE : zEl h ro xs) (e : ∀ a j : Nat, ¬ (ro ≤ a ∧ a < ro + 2) → h1 (a, j) = h (a, j)) : zEl h1 ro xs := fun x hx => by
  obtain ⟨h1, ci, fs, h2, h3⟩ := hE x hx
  obtain ⟨a, j⟩ := x
  exact ⟨h1, ci, fs, (e a j (by dsimp only at h1; omega)).trans h2, h3⟩
theorem zcpk {h : xH} {ro : Nat} {xs : List (Nat × Nat)} {g : Nat → xV} {sp n : Nat} (hE : zEl h ro xs) (hg : ∀ (j : Nat) (x : Nat × Nat), xs[j]? = some x → g j = .inr x) (hn : sp + n ≤ xs.length) : xcpk h [0, 1, 2, 3, 4, 5, 6, 7, 8, 9, 10] 4 g sp n = true := by
  unfold xcpk
  refine List.all_eq_true.mpr (fun j hj => ?_)
  have hj := List.mem_range.mp hj
  have hx := List.getElem?_eq_getElem (l := xs) (i := sp + j) (by omega)
  rw [hg _ _ hx]
  obtain ⟨-, ci, fs, h1, h2⟩ := hE _ (List.mem_of_getElem? hx)
  show (Nat.beq 4 4 && (match h xs[sp + j] with
    | some (.inl (ci, _)) => [0, 1, 2, 3, 4, 5, 6, 7, 8, 9, 10].elem ci
    | _ => false)) = true
  rw [h1]
  exact h2
theorem zct_ok {d c s n n0 : Nat} {h : xH} {x : Int} {z q : Nat × Nat} {f : Nat → xV} (hd : 2 ≤ d) (hz : h z = some (.inr (4, n0, f))) (hq : h q = none) (h0 : q.1 ≠ 0) (hx : x = (n : Int)) (hn : n0 ≤ n) (hm : n ≤ 67108864) (hck : xcpk h [0, 1, 2, 3, 4, 5, 6, 7, 8, 9, 10] 4 f 0 n0 = true) (N : List (Nat × Nat)) : zct d 161 [.inr z, zi x] ([q] ++ N, c, s, h) = some (.inl (some (.inr q)), (N, c + 1, s + n, xup h q (.inr (4, n, xcpy f (fun _ => .inl .null) 0 0 n0)))) := by
  have e1 := zI_nat hx (by omega)
  have e2 : ¬ Int32.ofInt x < 0 := fun z => zI_in (n := n + 1) hx (by omega) (by omega) (Or.inl z)
  show (match h z, [q] ++ N with
      | some (.inr (4, n0, f)), q :: nm => if (2 ≤ d ∧ ¬ Int32.ofInt x < 0 ∧ (Int32.ofInt x).toNatClampNeg ≤ 67108864) ∧ ((h q).isNone = true ∧ q.1 ≠ 0) ∧ n0 ≤ (Int32.ofInt x).toNatClampNeg ∧ xcpk h [0, 1, 2, 3, 4, 5, 6, 7, 8, 9, 10] 4 f 0 n0 = true then some ((Sum.inl (some (.inr q)) : xR), ((nm, c + 1, s + (Int32.ofInt x).toNatClampNeg, xup h q (.inr (4, (Int32.ofInt x).toNatClampNeg, xcpy f (fun _ => .inl .null) 0 0 n0))) : xA)) else none
      | _, _ => none) = _
  rw [hz]
  dsimp only [List.cons_append, List.nil_append]
  rw [e1]
  exact if_pos ⟨⟨hd, e2, hm⟩, ⟨by rw [hq]; rfl, h0⟩, hn, hck⟩
theorem zI_shr1 {a : Int} (ha : 0 ≤ a ∧ a < 2147483648) : Int32.ofInt a >>> (Int32.ofInt 1 &&& 31) = Int32.ofInt (a / 2) := by
  apply Int32.toInt_inj.mp
  rw [zI_to ⟨by omega, by omega⟩]
  show (BitVec.toInt ((Int32.ofInt a).toBitVec.sshiftRight' ((Int32.ofInt 1 &&& 31).toBitVec.smod 32))) = _
  rw [BitVec.sshiftRight', BitVec.toInt_sshiftRight, show ((Int32.ofInt 1 &&& 31).toBitVec.smod 32).toNat = 1 from by decide, Int.shiftRight_eq_div_pow]
  show (Int32.ofInt a).toInt / 2 ^ 1 = _
  rw [zI_to ⟨by omega, by omega⟩]
  rfl
theorem zX.ishr1 {P : xPr} {ct : zCt} {d mid pc : Nat} {l : xL} {c s : Nat} {h : xH} {Q : xR → Nat → Nat → xH → Prop} {ops : List Nat} {a : Int} {r : List xV} (hc : zC P mid pc .ishr ops) (ha : 0 ≤ a ∧ a < 2147483648) (k : zXc P ct d mid (pc + 1) l (zi (a / 2) :: r) c s h Q) : zXc P ct d mid pc l (zi 1 :: zi a :: r) c s h Q :=
  zX.s1 hc (by rw [show zi (a / 2) = .inl (.int (Int32.ofInt a >>> (Int32.ofInt 1 &&& 31))) from congrArg (fun z => (.inl (.int z) : xV)) (zI_shr1 ha).symm]; rfl) k
end ZDEF
