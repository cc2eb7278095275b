set_option maxRecDepth 20000
section ZX3
variable {P : xPr} {ct : zCt} {d mid pc : Nat} {l : xL} {st : List xV} {c s : Nat} {h : xH} {Q : xR → Nat → Nat → xH → Prop} {i : Instr} {ops : List Nat}
theorem zX.getf {idx kx : Nat} {cis : List Nat} {q : Nat × Nat} {r : List xV} {ci : Nat} {fs : List xV} {v : xV} (hc : zC P mid pc (.getfield idx) (kx :: cis)) (hq : h q = some (.inl (ci, fs))) (he : cis.elem ci = true) (hv : fs[kx]? = some v) (k : zXc P ct d mid (pc + 3) l (v :: r) c s h Q) : zXc P ct d mid pc l (.inr q :: r) c s h Q := by
  refine zX.s2 [] hc (fun _ => rfl) rfl (fun N => ?_) k
  simp only [xs2]
  rw [hq]
  show (if cis.elem ci = true then (match fs[kx]? with
    | some v => some (pc + 3, l, v :: r, ((N, c, s, h) : xA))
    | none => none) else none) = _
  rw [if_pos he, hv]
theorem zX.putf {idx kx t : Nat} {cis : List Nat} {q : Nat × Nat} {r : List xV} {ci : Nat} {fs : List xV} {v : xV} (hc : zC P mid pc (.putfield idx) (kx :: t :: cis)) (hq : h q = some (.inl (ci, fs))) (he : cis.elem ci = true) (h0 : q.1 ≠ 0) (hv : xfit t v = true) (k : zXc P ct d mid (pc + 3) l r c s (xup h q (.inl (ci, fs.set kx v))) Q) : zXc P ct d mid pc l (v :: .inr q :: r) c s h Q := by
  refine zX.s2 [] hc (fun _ => by cases v with | inl w => cases w <;> rfl | inr w => rfl) (by cases v with | inl w => cases w <;> rfl | inr w => rfl) (fun N => ?_) k
  simp only [xs2]
  rw [show h q = _ from hq]
  exact if_pos ⟨he, h0, hv⟩
/-- an array of small numbers -/
abbrev zA (f : Nat → Int) : Nat → xV := fun j => zi (f j)
theorem zfi_A (f : Nat → Int) (i : Nat) (x : Int) : xfu (zA f) i (zi x) = zA (zfi f i x) := by
  funext j
  show (if j = i then _ else _) = Sum.inl (Value.int (Int32.ofInt (if j = i then x else f j)))
  split <;> rfl
theorem zX.ald {q : Nat × Nat} {r : List xV} {n : Nat} {f : Nat → xV} {x : Int} {j k : Nat} (hi : i = .iaload ∧ k = 0 ∨ i = .laload ∧ k = 1 ∨ i = .aaload ∧ k = 4) (hc : zC P mid pc i ops) (hq : h q = some (.inr (k, n, f))) (hj : x = (j : Int)) (hb : j < n) (hn : n ≤ 2147483648) (kk : zXc P ct d mid (pc + 1) l (f j :: r) c s h Q) : zXc P ct d mid pc l (zi x :: .inr q :: r) c s h Q := by
  have key : ∀ N : List (Nat × Nat), xs2 i ops pc l (zi x :: .inr q :: r) (N, c, s, h) = some (pc + 1, l, f j :: r, (N, c, s, h)) := by
    intro N
    have hin := zI_in hj hb hn
    rcases hi with ⟨rfl, rfl⟩ | ⟨rfl, rfl⟩ | ⟨rfl, rfl⟩ <;> simp only [xs2] <;> rw [show h q = _ from hq]
    · show (match xarr 0 (Int32.ofInt x) n f 0 with
        | some v => some (pc + 1, l, v :: r, ((N, c, s, h) : xA))
        | none => none) = _
      rw [show xarr 0 (Int32.ofInt x) n f 0 = some (f (Int32.ofInt x).toNatClampNeg) from if_pos ⟨Or.inl rfl, hin⟩, zI_nat hj (by omega)]
    · show (match xarr 1 (Int32.ofInt x) n f 1 with
        | some v => some (pc + 1, l, v :: r, ((N, c, s, h) : xA))
        | none => none) = _
      rw [show xarr 1 (Int32.ofInt x) n f 1 = some (f (Int32.ofInt x).toNatClampNeg) from if_pos ⟨Or.inl rfl, hin⟩, zI_nat hj (by omega)]
    · show (match xarr 4 (Int32.ofInt x) n f 4 with
        | some v => some (pc + 1, l, v :: r, ((N, c, s, h) : xA))
        | none => none) = _
      rw [show xarr 4 (Int32.ofInt x) n f 4 = some (f (Int32.ofInt x).toNatClampNeg) from if_pos ⟨Or.inl rfl, hin⟩, zI_nat hj (by omega)]
  rcases hi with ⟨rfl, -⟩ | ⟨rfl, -⟩ | ⟨rfl, -⟩ <;> exact zX.s2 [] hc (fun _ => rfl) rfl key kk
theorem zX.iald {q : Nat × Nat} {r : List xV} {n : Nat} {f : Nat → xV} {x : Int} {j : Nat} (hc : zC P mid pc .iaload ops) (hq : h q = some (.inr (0, n, f))) (hj : x = (j : Int)) (hb : j < n) (hn : n ≤ 2147483648) (kk : zXc P ct d mid (pc + 1) l (f j :: r) c s h Q) : zXc P ct d mid pc l (zi x :: .inr q :: r) c s h Q := zX.ald (Or.inl ⟨rfl, rfl⟩) hc hq hj hb hn kk
theorem zX.lald {q : Nat × Nat} {r : List xV} {n : Nat} {f : Nat → xV} {x : Int} {j : Nat} (hc : zC P mid pc .laload ops) (hq : h q = some (.inr (1, n, f))) (hj : x = (j : Int)) (hb : j < n) (hn : n ≤ 2147483648) (kk : zXc P ct d mid (pc + 1) l (f j :: r) c s h Q) : zXc P ct d mid pc l (zi x :: .inr q :: r) c s h Q := zX.ald (Or.inr (Or.inl ⟨rfl, rfl⟩)) hc hq hj hb hn kk
theorem zX.aald {q : Nat × Nat} {r : List xV} {n : Nat} {f : Nat → xV} {x : Int} {j : Nat} (hc : zC P mid pc .aaload ops) (hq : h q = some (.inr (4, n, f))) (hj : x = (j : Int)) (hb : j < n) (hn : n ≤ 2147483648) (kk : zXc P ct d mid (pc + 1) l (f j :: r) c s h Q) : zXc P ct d mid pc l (zi x :: .inr q :: r) c s h Q := zX.ald (Or.inr (Or.inr ⟨rfl, rfl⟩)) hc hq hj hb hn kk
/-- the script's own array: it is only read -/
theorem zX.sald {q : Nat × Nat} {r : List xV} {n : Nat} {f : Nat → xV} {x : Int} {j : Nat} (hc : zC P mid pc .iaload ops) (hq : h q = some (.inr (9, n, f))) (hj : x = (j : Int)) (hb : j < n) (hn : n ≤ 2147483648) (kk : zXc P ct d mid (pc + 1) l (f j :: r) c s h Q) : zXc P ct d mid pc l (zi x :: .inr q :: r) c s h Q := by
  refine zX.s2 [] hc (fun _ => rfl) rfl (fun N => ?_) kk
  simp only [xs2]
  rw [show h q = _ from hq]
  show (match xarr 9 (Int32.ofInt x) n f 0 with
    | some v => some (pc + 1, l, v :: r, ((N, c, s, h) : xA))
    | none => none) = _
  rw [show xarr 9 (Int32.ofInt x) n f 0 = some (f (Int32.ofInt x).toNatClampNeg) from if_pos ⟨Or.inr ⟨rfl, rfl⟩, zI_in hj hb hn⟩, zI_nat hj (by omega)]
theorem zX.ast {q : Nat × Nat} {r : List xV} {n : Nat} {f : Nat → xV} {x : Int} {j k : Nat} {v : xV} (hi : i = .iastore ∧ k = 0 ∧ (∃ y, v = .inl (.int y)) ∨ i = .lastore ∧ k = 1 ∧ (∃ y, v = .inl (.long y)) ∨ i = .aastore ∧ k = 4 ∧ (v = .inl .null ∨ ∃ z ci fs, v = .inr z ∧ h z = some (.inl (ci, fs)) ∧ ops.elem ci = true)) (hc : zC P mid pc i ops) (hq : h q = some (.inr (k, n, f))) (h0 : q.1 ≠ 0) (hj : x = (j : Int)) (hb : j < n) (hn : n ≤ 2147483648) (kk : zXc P ct d mid (pc + 1) l r c s (xup h q (.inr (k, n, xfu f j v))) Q) : zXc P ct d mid pc l (v :: zi x :: .inr q :: r) c s h Q := by
  have key : ∀ N : List (Nat × Nat), xs2 i ops pc l (v :: zi x :: .inr q :: r) (N, c, s, h) = some (pc + 1, l, r, (N, c, s, xup h q (.inr (k, n, xfu f j v)))) := by
    intro N
    have hin := zI_in hj hb hn
    have hst : ∀ v : xV, xsto ((N, c, s, h) : xA) q k (Int32.ofInt x) n f k v = some ((N, c, s, xup h q (.inr (k, n, xfu f j v))) : xA) := fun v => by
      have e1 : xsto ((N, c, s, h) : xA) q k (Int32.ofInt x) n f k v = some ((N, c, s, xup h q (.inr (k, n, xfu f (Int32.ofInt x).toNatClampNeg v))) : xA) := if_pos ⟨rfl, h0, hin⟩
      rw [e1, zI_nat hj (by omega)]
    rcases hi with ⟨rfl, rfl, y, rfl⟩ | ⟨rfl, rfl, y, rfl⟩ | ⟨rfl, rfl, h4⟩
    · simp only [xs2]
      rw [show h q = _ from hq]
      dsimp only
      rw [hst]
    · simp only [xs2]
      rw [show h q = _ from hq]
      dsimp only
      rw [hst]
    · rcases h4 with rfl | ⟨z, ci, fs, rfl, hz, he⟩
      · simp only [xs2]
        rw [show h q = _ from hq]
        dsimp only
        rw [if_pos (Or.inl rfl), hst]
      · simp only [xs2]
        rw [show h q = _ from hq, show h z = _ from hz]
        dsimp only
        rw [if_pos ⟨he, Or.inl rfl⟩, hst]
  rcases hi with ⟨rfl, -, y, rfl⟩ | ⟨rfl, -, y, rfl⟩ | ⟨rfl, -, rfl | ⟨z, ci, fs, rfl, -⟩⟩ <;> exact zX.s2 [] hc (fun _ => rfl) rfl key kk
theorem zX.iast {q : Nat × Nat} {r : List xV} {n : Nat} {f : Nat → Int32} {x : Int} {y : Int32} {j : Nat} (hc : zC P mid pc .iastore ops) (hq : h q = some (.inr (0, n, zI f))) (h0 : q.1 ≠ 0) (hj : x = (j : Int)) (hb : j < n) (hn : n ≤ 2147483648) (kk : zXc P ct d mid (pc + 1) l r c s (xup h q (.inr (0, n, zI (zfi f j y)))) Q) : zXc P ct d mid pc l (.inl (.int y) :: zi x :: .inr q :: r) c s h Q :=
  zX.ast (Or.inl ⟨rfl, rfl, _, rfl⟩) hc hq h0 hj hb hn (by rw [zfi_I]; exact kk)
theorem zX.Aast {q : Nat × Nat} {r : List xV} {n : Nat} {f : Nat → Int} {x y : Int} {j : Nat} (hc : zC P mid pc .iastore ops) (hq : h q = some (.inr (0, n, zA f))) (h0 : q.1 ≠ 0) (hj : x = (j : Int)) (hb : j < n) (hn : n ≤ 2147483648) (kk : zXc P ct d mid (pc + 1) l r c s (xup h q (.inr (0, n, zA (zfi f j y)))) Q) : zXc P ct d mid pc l (zi y :: zi x :: .inr q :: r) c s h Q :=
  zX.ast (Or.inl ⟨rfl, rfl, _, rfl⟩) hc hq h0 hj hb hn (by rw [zfi_A]; exact kk)
theorem zX.last {q : Nat × Nat} {r : List xV} {n : Nat} {f : Nat → Int64} {x : Int} {y : Int64} {j : Nat} (hc : zC P mid pc .lastore ops) (hq : h q = some (.inr (1, n, zJ f))) (h0 : q.1 ≠ 0) (hj : x = (j : Int)) (hb : j < n) (hn : n ≤ 2147483648) (kk : zXc P ct d mid (pc + 1) l r c s (xup h q (.inr (1, n, zJ (zfi f j y)))) Q) : zXc P ct d mid pc l (.inl (.long y) :: zi x :: .inr q :: r) c s h Q :=
  zX.ast (Or.inr (Or.inl ⟨rfl, rfl, _, rfl⟩)) hc hq h0 hj hb hn (by rw [zfi_J]; exact kk)
theorem zX.aast {q z : Nat × Nat} {r fs : List xV} {n ci : Nat} {f : Nat → xV} {x : Int} {j : Nat} (hc : zC P mid pc .aastore ops) (hq : h q = some (.inr (4, n, f))) (h0 : q.1 ≠ 0) (hj : x = (j : Int)) (hb : j < n) (hn : n ≤ 2147483648) (hz : h z = some (.inl (ci, fs))) (he : ops.elem ci = true) (kk : zXc P ct d mid (pc + 1) l r c s (xup h q (.inr (4, n, xfu f j (.inr z)))) Q) : zXc P ct d mid pc l (.inr z :: zi x :: .inr q :: r) c s h Q :=
  zX.ast (Or.inr (Or.inr ⟨rfl, rfl, Or.inr ⟨z, ci, fs, rfl, hz, he⟩⟩)) hc hq h0 hj hb hn kk
theorem zX.nast {q : Nat × Nat} {r : List xV} {n : Nat} {f : Nat → xV} {x : Int} {j : Nat} (hc : zC P mid pc .aastore ops) (hq : h q = some (.inr (4, n, f))) (h0 : q.1 ≠ 0) (hj : x = (j : Int)) (hb : j < n) (hn : n ≤ 2147483648) (kk : zXc P ct d mid (pc + 1) l r c s (xup h q (.inr (4, n, xfu f j (.inl .null)))) Q) : zXc P ct d mid pc l (.inl .null :: zi x :: .inr q :: r) c s h Q :=
  zX.ast (Or.inr (Or.inr ⟨rfl, rfl, Or.inl rfl⟩)) hc hq h0 hj hb hn kk
theorem zX.alen {q : Nat × Nat} {r : List xV} {kd n : Nat} {f : Nat → xV} (hc : zC P mid pc .arraylength ops) (hq : h q = some (.inr (kd, n, f))) (k : zXc P ct d mid (pc + 1) l (zi (n : Int) :: r) c s h Q) : zXc P ct d mid pc l (.inr q :: r) c s h Q := by
  have e : zi (n : Int) = .inl (.int (Int32.ofNat n)) := congrArg (fun z => (.inl (.int z) : xV)) Int32.ofInt_eq_ofNat
  rw [e] at k
  refine zX.s2 [] hc (fun _ => rfl) rfl (fun N => ?_) k
  simp only [xs2]
  rw [show h q = _ from hq]
  rfl
/-- making -/
theorem zX.newa {ty : ArrayType} {kd n : Nat} {x : Int} {r : List xV} (q : Nat × Nat) (hc : zC P mid pc (.newarray ty) [kd]) (hq : h q = none) (h0 : q.1 ≠ 0) (hx : x = (n : Int)) (hn : n ≤ 67108864) (kk : zXc P ct d mid (pc + 2) l (.inr q :: r) (c + 1) (s + n) (xup h q (.inr (kd, n, fun _ => .inl (defaultValue (xak kd))))) Q) : zXc P ct d mid pc l (zi x :: r) c s h Q := by
  have e1 := zI_nat hx (by omega)
  have e2 : ¬ Int32.ofInt x < 0 := fun z => zI_in (n := n + 1) hx (by omega) (by omega) (Or.inl z)
  refine zX.s2 [q] hc (fun _ => rfl) rfl (fun N => ?_) kk
  simp only [xs2, List.cons_append, List.nil_append]
  rw [e1]
  exact if_pos ⟨e2, hn, by rw [hq]; rfl, h0⟩
theorem zX.anewa {idx kd n : Nat} {x : Int} {r : List xV} (q : Nat × Nat) (hc : zC P mid pc (.anewarray idx) [kd]) (hq : h q = none) (h0 : q.1 ≠ 0) (hx : x = (n : Int)) (hn : n ≤ 67108864) (kk : zXc P ct d mid (pc + 3) l (.inr q :: r) (c + 1) (s + n) (xup h q (.inr (kd, n, fun _ => .inl .null))) Q) : zXc P ct d mid pc l (zi x :: r) c s h Q := by
  have e1 := zI_nat hx (by omega)
  have e2 : ¬ Int32.ofInt x < 0 := fun z => zI_in (n := n + 1) hx (by omega) (by omega) (Or.inl z)
  refine zX.s2 [q] hc (fun _ => rfl) rfl (fun N => ?_) kk
  simp only [xs2, List.cons_append, List.nil_append]
  rw [e1]
  exact if_pos ⟨e2, hn, by rw [hq]; rfl, h0⟩
theorem zX.new {idx ci : Nat} {tc : List Nat} (q : Nat × Nat) (hc : zC P mid pc (.new idx) (ci :: tc)) (hq : h q = none) (h0 : q.1 ≠ 0) (kk : zXc P ct d mid (pc + 3) l (.inr q :: st) (c + 1) (s + tc.length) (xup h q (.inl (ci, tc.map xd0))) Q) : zXc P ct d mid pc l st c s h Q := by
  refine zX.s2 [q] hc (fun _ => rfl) rfl (fun N => ?_) kk
  simp only [xs2, List.cons_append, List.nil_append]
  exact if_pos ⟨by rw [hq]; rfl, h0⟩
theorem zX.cast {idx : Nat} {q : Nat × Nat} {r fs : List xV} {ci : Nat} (hc : zC P mid pc (.checkcast idx) ops) (hq : h q = some (.inl (ci, fs))) (he : ops.elem ci = true) (k : zXc P ct d mid (pc + 3) l (.inr q :: r) c s h Q) : zXc P ct d mid pc l (.inr q :: r) c s h Q := by
  refine zX.s2 [] hc (fun _ => rfl) rfl (fun N => ?_) k
  simp only [xs2]
  rw [show h q = _ from hq]
  exact if_pos he
theorem zX.obj {idx : Nat} {q : Nat × Nat} {r : List xV} (hc : zC P mid pc (.invokespecial idx) []) (hs : (r.map xcat).sum ≤ 8) (k : zXc P ct d mid (pc + 3) l r c s h Q) : zXc P ct d mid pc l (.inr q :: r) c s h Q :=
  zX.step [] hc rfl (fun _ => if_pos hs) k
theorem zX.maxi {idx : Nat} {x y : Int} {r : List xV} (hc : zC P mid pc (.invokestatic idx) [81]) (hx : -2147483648 ≤ x ∧ x < 2147483648) (hy : -2147483648 ≤ y ∧ y < 2147483648) (hs : (r.map xcat).sum ≤ 8) (k : zXc P ct d mid (pc + 3) l (zi (if x < y then y else x) :: r) c s h Q) : zXc P ct d mid pc l (zi y :: zi x :: r) c s h Q := by
  have e : zi (if x < y then y else x) = .inl (.int (if Int32.ofInt x < Int32.ofInt y then Int32.ofInt y else Int32.ofInt x)) := by
    by_cases hxy : x < y
    · rw [if_pos hxy, if_pos ((zI_lt hx hy).mpr hxy)]
    · rw [if_neg hxy, if_neg (fun z => hxy ((zI_lt hx hy).mp z))]
  rw [e] at k
  exact zX.step [] hc rfl (fun _ => if_pos hs) k
theorem zX.mini {idx : Nat} {x y : Int} {r : List xV} (hc : zC P mid pc (.invokestatic idx) [82]) (hx : -2147483648 ≤ x ∧ x < 2147483648) (hy : -2147483648 ≤ y ∧ y < 2147483648) (hs : (r.map xcat).sum ≤ 8) (k : zXc P ct d mid (pc + 3) l (zi (if y < x then y else x) :: r) c s h Q) : zXc P ct d mid pc l (zi y :: zi x :: r) c s h Q := by
  have e : zi (if y < x then y else x) = .inl (.int (if Int32.ofInt y < Int32.ofInt x then Int32.ofInt y else Int32.ofInt x)) := by
    by_cases hxy : y < x
    · rw [if_pos hxy, if_pos ((zI_lt hy hx).mpr hxy)]
    · rw [if_neg hxy, if_neg (fun z => hxy ((zI_lt hy hx).mp z))]
  rw [e] at k
  exact zX.step [] hc rfl (fun _ => if_pos hs) k
theorem zX.rmaxi {idx : Nat} {x y : Int32} {r : List xV} (hc : zC P mid pc (.invokestatic idx) [81]) (hs : (r.map xcat).sum ≤ 8) (k : zXc P ct d mid (pc + 3) l (.inl (.int (if x < y then y else x)) :: r) c s h Q) : zXc P ct d mid pc l (.inl (.int y) :: .inl (.int x) :: r) c s h Q :=
  zX.step [] hc rfl (fun _ => if_pos hs) k
theorem zX.absi {idx : Nat} {x : Int} {r : List xV} (hc : zC P mid pc (.invokestatic idx) [83]) (hx : -2147483648 ≤ x ∧ x < 2147483648) (hs : (r.map xcat).sum ≤ 8) (k : zXc P ct d mid (pc + 3) l (zi (if 0 ≤ x then x else 0 - x) :: r) c s h Q) : zXc P ct d mid pc l (zi x :: r) c s h Q := by
  have h0 : (0 : Int32) = Int32.ofInt 0 := rfl
  have e : zi (if 0 ≤ x then x else 0 - x) = .inl (.int (if 0 ≤ Int32.ofInt x then Int32.ofInt x else 0 - Int32.ofInt x)) := by
    by_cases hxy : 0 ≤ x
    · rw [if_pos hxy, if_pos (by rw [h0]; exact (zI_le (by omega) hx).mpr hxy)]
    · rw [if_neg hxy, if_neg (fun z => hxy ((zI_le (by omega) hx).mp (h0 ▸ z))), h0, ← Int32.ofInt_sub]
  rw [e] at k
  exact zX.step [] hc rfl (fun _ => if_pos hs) k
/-- System.arraycopy -/
theorem zX.acp {idx a b kd n0 n1 n sp dp : Nat} {cis : List Nat} {xn xd xs : Int} {q z : Nat × Nat} {r : List xV} {f g : Nat → xV} (hc : zC P mid pc (.invokestatic idx) (90 :: a :: b :: cis)) (hz : h z = some (.inr (kd, n0, f))) (hq : h q = some (.inr (kd, n1, g))) (hk : kd = 1 ∨ kd = 4) (hq0 : q.1 ≠ 0) (e1 : xn = (n : Int)) (e2 : xd = (dp : Int)) (e3 : xs = (sp : Int)) (h1 : sp + n ≤ n0 ∧ n0 < 2147483648) (h2 : dp + n ≤ n1 ∧ n1 < 2147483648) (hck : xcpk h cis kd f sp n = true) (hs : (r.map xcat).sum ≤ 8)
    (kk : zXc P ct d mid (pc + 3) l r c s (xup h q (.inr (kd, n1, xcpy f g sp dp n))) Q) : zXc P ct d mid pc l (zi xn :: zi xd :: .inr q :: zi xs :: .inr z :: r) c s h Q := by
  have nn : ∀ {x : Int} {k : Nat}, x = (k : Int) → k < 2147483648 → ¬ Int32.ofInt x < 0 := fun {x k} e hk z => zI_in (n := k + 1) e (by omega) (by omega) (Or.inl z)
  refine zX.step [] hc rfl (fun N => ?_) kk
  show (match h z, h q with
        | some (.inr (kd, n0, f)), some (.inr (kd1, n1, g)) => if (kd = kd1 ∧ (kd = 1 ∨ kd = 4) ∧ q.1 ≠ 0) ∧ (¬ Int32.ofInt xs < 0 ∧ ¬ Int32.ofInt xd < 0 ∧ ¬ Int32.ofInt xn < 0) ∧ ((Int32.ofInt xs).toNatClampNeg + (Int32.ofInt xn).toNatClampNeg ≤ n0 ∧ (Int32.ofInt xd).toNatClampNeg + (Int32.ofInt xn).toNatClampNeg ≤ n1) ∧ xcpk h cis kd f (Int32.ofInt xs).toNatClampNeg (Int32.ofInt xn).toNatClampNeg = true ∧ (r.map xcat).sum ≤ 8 then some (pc + 3, l, r, ((N, c, s, xup h q (.inr (kd, n1, xcpy f g (Int32.ofInt xs).toNatClampNeg (Int32.ofInt xd).toNatClampNeg (Int32.ofInt xn).toNatClampNeg))) : xA)) else none
        | _, _ => none) = _
  rw [hz, hq]
  rw [zI_nat e1 (by omega), zI_nat e2 (by omega), zI_nat e3 (by omega)]
  exact if_pos ⟨⟨rfl, hk, hq0⟩, ⟨nn e3 (by omega), nn e2 (by omega), nn e1 (by omega)⟩, ⟨h1.1, h2.1⟩, hck, hs⟩
theorem zX.tsw {dflt lo hi : Int} {offs : Array Int} {off : Int} {x : Int} {tgt : Nat} {r : List xV} (hc : zC P mid pc (.tableswitch dflt lo hi offs) ops) (hx : -2147483648 ≤ x ∧ x < 2147483648) (hlo : lo ≤ x ∧ x ≤ hi) (ho : offs[(x - lo).toNat]? = some off) (ht : (pc : Int) + off = (tgt : Int)) (k : zXc P ct d mid tgt l r c s h Q) : zXc P ct d mid pc l (zi x :: r) c s h Q := by
  refine zX.s2 [] hc (fun _ => rfl) rfl (fun N => ?_) k
  simp only [xs2]
  rw [zI_to hx, if_neg (by omega), ho]
  show (if 0 ≤ (pc : Int) + off then some (((pc : Int) + off).toNat, l, r, ((N, c, s, h) : xA)) else none) = _
  rw [if_pos (by omega), ht]
  rfl
theorem zX.tswd {dflt lo hi : Int} {offs : Array Int} {x : Int} {tgt : Nat} {r : List xV} (hc : zC P mid pc (.tableswitch dflt lo hi offs) ops) (hx : -2147483648 ≤ x ∧ x < 2147483648) (hlo : x < lo ∨ hi < x) (ht : (pc : Int) + dflt = (tgt : Int)) (k : zXc P ct d mid tgt l r c s h Q) : zXc P ct d mid pc l (zi x :: r) c s h Q := by
  refine zX.s2 [] hc (fun _ => rfl) rfl (fun N => ?_) k
  simp only [xs2]
  rw [zI_to hx, if_pos hlo]
  show (if 0 ≤ (pc : Int) + dflt then some (((pc : Int) + dflt).toNat, l, r, ((N, c, s, h) : xA)) else none) = _
  rw [if_pos (by omega), ht]
  rfl
/-- who is called -/
theorem zX.inv {idx n mid2 ci : Nat} {tb : List Nat} {q : Nat × Nat} {fs as rest : List xV} (hd : st.drop n = .inr q :: rest) (hq : h q = some (.inl (ci, fs))) (hp : xpick ci tb = some mid2) (ha : (.inr q :: (st.take n).reverse) = as) : xinv (.invokevirtual idx) (n :: tb) st h = some (mid2, as, rest) := zinvV hd hq hp ha
/-- names -/
theorem zn {a b i j : Nat} (e : a ≠ b ∨ i ≠ j) : (a, i) ≠ (b, j) := fun z => by
  have h1 := congrArg Prod.fst z
  have h2 := congrArg Prod.snd z
  dsimp only at h1 h2
  rcases e with e | e
  · exact e h1
  · exact e h2
theorem zuq {q q2 : Nat × Nat} {o : xO} (hne : q2 ≠ q) : xup h q o q2 = h q2 := if_neg hne
end ZX3
