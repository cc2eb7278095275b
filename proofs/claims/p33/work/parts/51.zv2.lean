set_option maxRecDepth 100000
section ZV51
variable {d c s : Nat} {h : xH} {Q : xR → Nat → Nat → xH → Prop}
/-- a row or a mark: its name's number; part, is it a row, key, time, value; its order, the mark ahead, the mark that it bids -/
abbrev zE : Type := Nat × (Nat × Bool × Nat × Nat × Int) × (Nat × Int × Int)
abbrev zeN (e : zE) : Nat := e.1
abbrev zeP (e : zE) : Nat := e.2.1.1
abbrev zeR (e : zE) : Bool := e.2.1.2.1
abbrev zeK (e : zE) : Nat := e.2.1.2.2.1
abbrev zeT (e : zE) : Nat := e.2.1.2.2.2.1
abbrev zeV (e : zE) : Int := e.2.1.2.2.2.2
abbrev zeO (e : zE) : Nat := e.2.2.1
abbrev zeA (e : zE) : Int := e.2.2.2.1
abbrev zeB (e : zE) : Int := e.2.2.2.2
/-- is it of a left part -/
abbrev zeL (e : zE) : Bool := !decide (zeP e = 2)
def zbi (b : Bool) : Int := if b = true then 1 else 0
theorem zbi_1 {b : Bool} : ¬ zbi b = 0 ↔ b = true := by cases b <;> decide
theorem zbi_0 {b : Bool} : zbi b = 0 ↔ b = false := by cases b <;> decide
theorem zbi_r (b : Bool) : 0 ≤ zbi b ∧ zbi b ≤ 1 := by cases b <;> decide
/-- it lies there -/
def zEn (h : xH) (e : zE) : Prop := h (8, zeN e) = some (.inl (1, [zi (zeP e : Int), zi (zbi (zeR e)), zi (zbi (zeL e)), zi (zeK e : Int), zi (zeT e : Int), zi (zeV e), zi (zeO e : Int), zi (zeA e), zi (zeB e)]))
/-- its numbers are in range -/
def zEr (e : zE) : Prop := zeP e < 3 ∧ zeK e < 8 ∧ zeT e < 1000 ∧ (-99 ≤ zeV e ∧ zeV e ≤ 99) ∧ zeO e < 240 ∧ (-1 ≤ zeA e ∧ zeA e < 1000)
/-- does a view let it in: bs, are both sides wanted; fi, the filter -/
def zLet (bs : Bool) (fi : Int) (e : zE) : Bool := zeR e && ((zeL e || bs) && ((!decide (fi = 101) || decide ((Int32.ofInt (zeV e) &&& Int32.ofInt 1) = 0)) && (!decide (fi = 112) || decide (0 < zeV e))))
section VW
variable {v sz gr : Nat} {bs : Bool} {fi : Int} {dr : Int32} {ci : Nat} {tl : List xV}
/-- a view: what all kinds have, and the rest -/
def zVo (h : xH) (ci v : Nat) (bs : Bool) (fi : Int) (sz gr : Nat) (dr : Int32) (tl : List xV) : Prop := h (20, v) = some (.inl (ci, (zi (v : Int) :: zi (zbi bs) :: zi fi :: zi (sz : Int) :: zi (gr : Int) :: .inr (2, 0) :: .inr (21, v) :: .inr (23, v) :: .inr (25, v) :: .inl (.int dr) :: tl)))
/-- the numbers of a view are in range -/
def zVr (v : Nat) (fi : Int) (sz gr : Nat) : Prop := v < 5 ∧ (fi = 97 ∨ fi = 101 ∨ fi = 112) ∧ (1 ≤ sz ∧ sz ≤ 200) ∧ gr ≤ 200
theorem s_lets {e : zE} (hr : zVr v fi sz gr) (hci : ci = 2 ∨ ci = 6 ∨ ci = 8 ∨ ci = 9) (hE : zEr e) (hv : zVo h ci v bs fi sz gr dr tl) (he : zEn h e) (q0 : zLet bs fi e = false → Q (.inl (some (zi 0))) c s h) (q1 : zLet bs fi e = true → Q (.inl (some (zi 1))) c s h) : zX d 75 0 [(0, .inr (20, v)), (1, .inr (8, zeN e))] [] c s h Q := by
  obtain ⟨r1, r2, r3, r4⟩ := hr
  obtain ⟨e1, e2, e3, e4, e5, e6⟩ := hE
  have hb := zbi_r bs
  have hb2 := zbi_r (zeR e)
  have hb3 := zbi_r (zeL e)
  have hf : 0 ≤ fi ∧ fi < 65536 := by omega
  unfold zLet at q0 q1
  refine r_lets (by omega) r3 r4 hci e2 e3 e4 e6 hb2 hb3 e1 e5 hb hf hv he (fun a => q0 ?_) (fun a b c1 c2 => q1 ?_) (fun a b c1 c2 c3 => q0 ?_) (fun a b c1 c2 c3 => q1 ?_) (fun a b c1 c2 => q0 ?_) (fun a b c1 c2 => q1 ?_) (fun a b z c1 c2 => q1 ?_) (fun a b z c1 c2 c3 => q0 ?_) (fun a b z c1 c2 c3 => q1 ?_) (fun a b z c1 c2 => q0 ?_) (fun a b z c1 c2 => q1 ?_) (fun a b z => q0 ?_)
  · rw [zbi_0.mp a]; rfl
  · rw [zbi_1.mp a, zbi_1.mp b, decide_eq_false c1, decide_eq_false c2]; rfl
  · rw [zbi_1.mp a, zbi_1.mp b, decide_eq_false c1, decide_eq_true c2, decide_eq_false (Int.not_lt.mpr c3)]; rfl
  · rw [zbi_1.mp a, zbi_1.mp b, decide_eq_false c1, decide_eq_true c3]; simp
  · rw [zbi_1.mp a, zbi_1.mp b, decide_eq_true c1, decide_eq_false c2]; rfl
  · rw [zbi_1.mp a, zbi_1.mp b, decide_eq_true c2, decide_eq_false (show ¬ fi = 112 by omega)]; simp
  · rw [zbi_1.mp a, zbi_0.mp b, zbi_1.mp z, decide_eq_false c1, decide_eq_false c2]; rfl
  · rw [zbi_1.mp a, zbi_0.mp b, zbi_1.mp z, decide_eq_false c1, decide_eq_true c2, decide_eq_false (Int.not_lt.mpr c3)]; rfl
  · rw [zbi_1.mp a, zbi_0.mp b, zbi_1.mp z, decide_eq_false c1, decide_eq_true c3]; simp
  · rw [zbi_1.mp a, zbi_0.mp b, zbi_1.mp z, decide_eq_true c1, decide_eq_false c2]; rfl
  · rw [zbi_1.mp a, zbi_0.mp b, zbi_1.mp z, decide_eq_true c2, decide_eq_false (show ¬ fi = 112 by omega)]; simp
  · rw [zbi_1.mp a, zbi_0.mp b, zbi_0.mp z]; rfl
end VW
section TELL
variable {v L N : Nat} {fa : Nat → Int64} {out : List Int64} {sz gr : Nat} {bs : Bool} {fi : Int} {dr : Int32} {ci : Nat} {tl : List xV}
/-- a result taken back -/
def zback (x : Int64) : Int64 := x ||| Int64.ofNat 1152921504606846976
/-- what takeBack and tellAnew make: the results and the outputs -/
def zbkF (fa : Nat → Int64) (k : Nat) : Nat → Int64 := if fa k = 0 then fa else zfi fa k 0
def zbkL (fa : Nat → Int64) (k : Nat) : List Int64 := if fa k = 0 then [] else [zback (fa k)]
def zanF (fa : Nat → Int64) (k j : Nat) (y : Int64) : Nat → Int64 := if fa k = y then fa else zfi (zbkF fa k) j y
def zanL (fa : Nat → Int64) (k : Nat) (y : Int64) : List Int64 := if fa k = y then [] else zbkL fa k ++ [y]
/-- what a view's telling touches -/
abbrev zFt (v : Nat) (h h1 : xH) : Prop := ∀ a b : Nat, ¬ ((21 ≤ a ∧ a < 23 ∧ b = v) ∨ (2 ≤ a ∧ a < 4)) → h1 (a, b) = h (a, b)
/-- what a list that grew has cost -/
abbrev zCo (N c s N1 c1 s1 : Nat) : Prop := N ≤ N1 ∧ c1 + N ≤ c + N1 ∧ s1 + 4 * N ≤ s + 4 * N1
theorem s_tback {x : Int} {k : Nat} (hx : x = (k : Int)) (hk : k < L) (hr : zVr v fi sz gr) (hci : ci = 2 ∨ ci = 6 ∨ ci = 8 ∨ ci = 9) (hL : L ≤ 67108864) (ho : out.length + 2 < 200000) (hv : zVo h ci v bs fi sz gr dr tl) (hR : zRes h 21 v L fa) (hO : zOut h N out)
    (q : ∀ h1 N1 c1 s1, zRes h1 21 v L (zbkF fa k) → zOut h1 N1 (out ++ zbkL fa k) → zFt v h h1 → zCo N c s N1 c1 s1 → Q (.inl none) c1 s1 h1) : zX (d + 2) 79 0 [(0, .inr (20, v)), (1, zi x)] [] c s h Q := by
  obtain ⟨r1, r2, r3, r4⟩ := hr
  unfold zbkF zbkL at q
  refine r_tback hx hk (by omega) r3 r4 hci hL ho hv hR hO (fun e => ?_) (fun e N1 c1 s1 hb h1 a1 a2 a3 => ?_)
  · rw [if_pos e, if_pos e, List.append_nil] at q
    exact q h N c s hR hO (fun _ _ _ => rfl) ⟨Nat.le_refl _, Nat.le_refl _, Nat.le_refl _⟩
  · rw [if_neg e, if_neg e] at q
    exact q h1 N1 c1 s1 a1 a2 a3 hb
theorem s_tanew {x x2 : Int} {k j : Nat} {y : Int64} (hx : x = (k : Int)) (hk : k < L) (hx2 : x2 = (j : Int)) (hj : j < L) (hy : ¬ y = 0) (hr : zVr v fi sz gr) (hci : ci = 2 ∨ ci = 6 ∨ ci = 8 ∨ ci = 9) (hL : L ≤ 67108864) (ho : out.length + 2 < 200000) (hv : zVo h ci v bs fi sz gr dr tl) (hR : zRes h 21 v L fa) (hO : zOut h N out)
    (q : ∀ h1 N1 c1 s1, zRes h1 21 v L (zanF fa k j y) → zOut h1 N1 (out ++ zanL fa k y) → zFt v h h1 → zCo N c s N1 c1 s1 → Q (.inl none) c1 s1 h1) : zX (d + 3) 80 0 [(0, .inr (20, v)), (1, zi x), (2, zi x2), (3, .inl (.long y))] [] c s h Q := by
  obtain ⟨r1, r2, r3, r4⟩ := hr
  unfold zanF zanL zbkF zbkL at q
  refine r_tanew hx hk hx2 hj hy (by omega) r3 r4 hci hL ho hv hR hO (fun e => ?_) (fun e e2 N1 c1 s1 hb h1 a1 a2 a3 => ?_) (fun e e2 N1 c1 s1 hb N2 c2 s2 hb2 h1 a1 a2 a3 => ?_)
  · rw [if_pos e, if_pos e, List.append_nil] at q
    exact q h N c s hR hO (fun _ _ _ => rfl) ⟨Nat.le_refl _, Nat.le_refl _, Nat.le_refl _⟩
  · rw [if_neg e, if_pos e2, if_neg e, if_pos e2, List.nil_append] at q
    exact q h1 N1 c1 s1 a1 a2 a3 hb
  · rw [if_neg e, if_neg e2, if_neg e, if_neg e2, ← List.append_assoc] at q
    exact q h1 N2 c2 s2 a1 a2 a3 ⟨by omega, by omega, by omega⟩
theorem s_hold {hd : Nat → Int32} {x m : Int} {k : Nat} (hx : x = (k : Int)) (hk : k < 8) (hr : zVr v fi sz gr) (hci : ci = 2 ∨ ci = 6 ∨ ci = 8 ∨ ci = 9) (hv : zVo h ci v bs fi sz gr dr tl) (hH : h (25, v) = some (.inr (0, 8, zI hd)))
    (q : ∀ h1, h1 (25, v) = some (.inr (0, 8, zI (zfi hd k (hd k + Int32.ofInt m)))) → (∀ a b : Nat, ¬ (a = 25 ∧ b = v) → h1 (a, b) = h (a, b)) → Q (.inl none) c s h1) : zX d 81 0 [(0, .inr (20, v)), (1, zi x), (2, zi m)] [] c s h Q := by
  obtain ⟨r1, r2, r3, r4⟩ := hr
  exact r_hold hx hk (by omega) r3 r4 hci hv hH q
theorem s_heldOf {hd : Nat → Int32} {x : Int} {k : Nat} (hx : x = (k : Int)) (hk : k < 8) (hr : zVr v fi sz gr) (hci : ci = 2 ∨ ci = 6 ∨ ci = 8 ∨ ci = 9) (hv : zVo h ci v bs fi sz gr dr tl) (hH : h (25, v) = some (.inr (0, 8, zI hd)))
    (q : Q (.inl (some (.inl (.int (hd k))))) c s h) : zX d 82 0 [(0, .inr (20, v)), (1, zi x)] [] c s h Q := by
  obtain ⟨r1, r2, r3, r4⟩ := hr
  exact r_heldOf hx hk (by omega) r3 r4 hci hv hH q
/-- the sum of what is held -/
def zhs (hd : Nat → Int32) : Nat → Int32
  | 0 => 0
  | n + 1 => zhs hd n + hd n
theorem l_hall {hd : Nat → Int32} (hr : zVr v fi sz gr) (hci : ci = 2 ∨ ci = 6 ∨ ci = 8 ∨ ci = 9) (hv : zVo h ci v bs fi sz gr dr tl) (hH : h (25, v) = some (.inr (0, 8, zI hd)))
    (q : Q (.inl (some (.inl (.int (zhs hd 8))))) c s h) : ∀ n j : Nat, j + n = 8 → zX d 83 4 [(0, .inr (20, v)), (1, .inl (.int (zhs hd j))), (2, zi (j : Int))] [] c s h Q := by
  obtain ⟨r1, r2, r3, r4⟩ := hr
  intro n
  induction n with
  | zero =>
    intro j hj
    refine r_hall (by omega) (by omega) r3 r4 hci hv hH (fun _ => ?_) (fun e => by omega)
    rw [show j = 8 from hj]
    exact q
  | succ n ih =>
    intro j hj
    exact r_hall (by omega) (by omega) r3 r4 hci hv hH (fun e => by omega) (fun e => ih (j + 1) (by omega))
theorem s_hall {hd : Nat → Int32} (hr : zVr v fi sz gr) (hci : ci = 2 ∨ ci = 6 ∨ ci = 8 ∨ ci = 9) (hv : zVo h ci v bs fi sz gr dr tl) (hH : h (25, v) = some (.inr (0, 8, zI hd)))
    (q : Q (.inl (some (.inl (.int (zhs hd 8))))) c s h) : zX d 83 0 [(0, .inr (20, v))] [] c s h Q :=
  r_hall0 (by have := hr.1; omega) hr.2.2.1 hr.2.2.2 hci hv hH (l_hall hr hci hv hH q 8 0 rfl)
end TELL
end ZV51
