set_option maxRecDepth 100000
section YE0
/-- a run whose names are said beforehand -/
def zU (d mid pc : Nat) (l : xL) (st : List xV) (us : List (Nat × Nat)) (c s : Nat) (h : xH) (r : xR) (c1 s1 : Nat) (h1 : xH) : Prop := ∃ n, ∀ rest : List (Nat × Nat), xrun xPP (fun _ _ _ _ => none) n d mid pc l st (us ++ rest, c, s, h) = some (r, (rest, c1, s1, h1))
variable {d mid pc : Nat} {l : xL} {st : List xV} {us : List (Nat × Nat)} {c s : Nat} {h : xH} {r : xR} {c1 s1 : Nat} {h1 : xH} {i : Instr} {ops : List Nat}
theorem zU.step {pc2 c2 s2 : Nat} {l2 : xL} {st2 : List xV} {h2 : xH} (q : List (Nat × Nat)) (hc : zC xPP mid pc i ops) (hr : xret (xPP.2.1 mid).2.2.2.1 i st = none) (hs : ∀ rest : List (Nat × Nat), xs (xPP.2.1 mid).2.2.1 i ops pc l st (q ++ rest, c, s, h) = some (pc2, l2, st2, (rest, c2, s2, h2))) (k : zU d mid pc2 l2 st2 us c2 s2 h2 r c1 s1 h1) : zU d mid pc l st (q ++ us) c s h r c1 s1 h1 := by
  obtain ⟨n, e⟩ := k
  refine ⟨n + 1, fun rest => ?_⟩
  unfold xrun
  rw [hc.1]
  dsimp only
  rw [hr, hc.2]
  dsimp only
  rw [List.append_assoc, hs]
  exact e rest
theorem zU.sone {pc2 : Nat} {l2 : xL} {st2 : List xV} (hc : zC xPP mid pc i ops) (hs : xs1 (xPP.2.1 mid).2.2.1 i pc l st = some (pc2, l2, st2)) (k : zU d mid pc2 l2 st2 us c s h r c1 s1 h1) : zU d mid pc l st us c s h r c1 s1 h1 :=
  zU.step [] hc (xs1_noret hs _) (fun _ => xs_of1 hs) k
theorem zU.sn {pc2 : Nat} {l2 : xL} {st2 : List xV} (n : Nat) (hs : zsn xPP mid n pc l st = some (pc2, l2, st2)) (k : zU d mid pc2 l2 st2 us c s h r c1 s1 h1) : zU d mid pc l st us c s h r c1 s1 h1 := by
  induction n generalizing pc l st with
  | zero =>
    cases hs
    exact k
  | succ n ih =>
    unfold zsn at hs
    split at hs
    next => cases hs
    next ht =>
      split at hs
      next i ops hc =>
        split at hs
        next z hz => exact zU.sone ⟨hc, ht⟩ hz (ih hs)
        next => cases hs
      next => cases hs
theorem zU.ret {v : Option xV} (hc : xPP.1 mid pc = some (i, ops)) (hv : xret (xPP.2.1 mid).2.2.2.1 i st = some v) : zU d mid pc l st [] c s h (.inl v) c s h := by
  refine ⟨1, fun rest => ?_⟩
  unfold xrun
  rw [hc]
  dsimp only
  rw [hv]
  rfl
theorem zU.anewa {idx kd n : Nat} {x : Int} {rr : List xV} (q : Nat × Nat) (hc : zC xPP mid pc (.anewarray idx) [kd]) (hq : h q = none) (h0 : q.1 ≠ 0) (hx : x = (n : Int)) (hn : n ≤ 67108864) (kk : zU d mid (pc + 3) l (.inr q :: rr) us (c + 1) (s + n) (xup h q (.inr (kd, n, fun _ => .inl .null))) r c1 s1 h1) : zU d mid pc l (zi x :: rr) ([q] ++ us) c s h r c1 s1 h1 := by
  have e1 := zI_nat hx (by omega)
  have e2 : ¬ Int32.ofInt x < 0 := fun z => zI_in (n := n + 1) hx (by omega) (by omega) (Or.inl z)
  refine zU.step [q] hc rfl (fun N => xs_of2 rfl ?_) kk
  simp only [xs2, List.cons_append, List.nil_append]
  rw [e1]
  exact if_pos ⟨e2, hn, by rw [hq]; rfl, h0⟩
theorem zU.alen {q : Nat × Nat} {rr : List xV} {kd n : Nat} {f : Nat → xV} (hc : zC xPP mid pc .arraylength ops) (hq : h q = some (.inr (kd, n, f))) (k : zU d mid (pc + 1) l (zi (n : Int) :: rr) us c s h r c1 s1 h1) : zU d mid pc l (.inr q :: rr) us c s h r c1 s1 h1 := by
  have e : zi (n : Int) = .inl (.int (Int32.ofNat n)) := congrArg (fun z => (.inl (.int z) : xV)) Int32.ofInt_eq_ofNat
  rw [e] at k
  refine zU.step [] hc rfl (fun N => xs_of2 rfl ?_) k
  simp only [xs2]
  rw [show h q = _ from hq]
  rfl
theorem zU.mini {idx : Nat} {x y : Int} {rr : List xV} (hc : zC xPP mid pc (.invokestatic idx) [82]) (hx : -2147483648 ≤ x ∧ x < 2147483648) (hy : -2147483648 ≤ y ∧ y < 2147483648) (hs : (rr.map xcat).sum ≤ 8) (k : zU d mid (pc + 3) l (zi (if y < x then y else x) :: rr) us c s h r c1 s1 h1) : zU d mid pc l (zi y :: zi x :: rr) us c s h r c1 s1 h1 := by
  have e : zi (if y < x then y else x) = .inl (.int (if Int32.ofInt y < Int32.ofInt x then Int32.ofInt y else Int32.ofInt x)) := by
    by_cases hxy : y < x
    · rw [if_pos hxy, if_pos ((zI_lt hy hx).mpr hxy)]
    · rw [if_neg hxy, if_neg (fun z => hxy ((zI_lt hy hx).mp z))]
  rw [e] at k
  exact zU.step [] hc rfl (fun _ => if_pos hs) k
theorem zU.acp {idx a b kd n0 n1 n sp dp : Nat} {cis : List Nat} {xn xd xs : Int} {q z : Nat × Nat} {rr : List xV} {f g : Nat → xV} (hc : zC xPP mid pc (.invokestatic idx) (90 :: a :: b :: cis)) (hz : h z = some (.inr (kd, n0, f))) (hq : h q = some (.inr (kd, n1, g))) (hk : kd = 1 ∨ kd = 4) (hq0 : q.1 ≠ 0) (e1 : xn = (n : Int)) (e2 : xd = (dp : Int)) (e3 : xs = (sp : Int)) (h1' : sp + n ≤ n0 ∧ n0 < 2147483648) (h2 : dp + n ≤ n1 ∧ n1 < 2147483648) (hck : xcpk h cis kd f sp n = true) (hs : (rr.map xcat).sum ≤ 8)
    (kk : zU d mid (pc + 3) l rr us c s (xup h q (.inr (kd, n1, xcpy f g sp dp n))) r c1 s1 h1) : zU d mid pc l (zi xn :: zi xd :: .inr q :: zi xs :: .inr z :: rr) us c s h r c1 s1 h1 := by
  have nn : ∀ {x : Int} {k : Nat}, x = (k : Int) → k < 2147483648 → ¬ Int32.ofInt x < 0 := fun {x k} e hk z => zI_in (n := k + 1) e (by omega) (by omega) (Or.inl z)
  refine zU.step [] hc rfl (fun N => ?_) kk
  show (match h z, h q with
        | some (.inr (kd, n0, f)), some (.inr (kd1, n1, g)) => if (kd = kd1 ∧ (kd = 1 ∨ kd = 4) ∧ q.1 ≠ 0) ∧ (¬ Int32.ofInt xs < 0 ∧ ¬ Int32.ofInt xd < 0 ∧ ¬ Int32.ofInt xn < 0) ∧ ((Int32.ofInt xs).toNatClampNeg + (Int32.ofInt xn).toNatClampNeg ≤ n0 ∧ (Int32.ofInt xd).toNatClampNeg + (Int32.ofInt xn).toNatClampNeg ≤ n1) ∧ xcpk h cis kd f (Int32.ofInt xs).toNatClampNeg (Int32.ofInt xn).toNatClampNeg = true ∧ (rr.map xcat).sum ≤ 8 then some (pc + 3, l, rr, ((N, c, s, xup h q (.inr (kd, n1, xcpy f g (Int32.ofInt xs).toNatClampNeg (Int32.ofInt xd).toNatClampNeg (Int32.ofInt xn).toNatClampNeg))) : xA)) else none
        | _, _ => none) = _
  rw [hz, hq]
  rw [zI_nat e1 (by omega), zI_nat e2 (by omega), zI_nat e3 (by omega)]
  exact if_pos ⟨⟨rfl, hk, hq0⟩, ⟨nn e3 (by omega), nn e2 (by omega), nn e1 (by omega)⟩, ⟨h1'.1, h2.1⟩, hck, hs⟩
theorem xcpk_up {h : xH} {q : Nat × Nat} {o : xO} {cis : List Nat} {f : Nat → xV} {sp n : Nat} (hq : h q = none) (hc : xcpk h cis 4 f sp n = true) : xcpk (xup h q o) cis 4 f sp n = true := by
  have key : ∀ v, xcpv h cis 4 v = true → xcpv (xup h q o) cis 4 v = true := by
    intro v
    cases v with
    | inl w => cases w <;> exact id
    | inr z =>
      intro hv
      have hz : z ≠ q := fun e2 => by
        subst e2
        unfold xcpv at hv
        dsimp only at hv
        rw [hq] at hv
        cases hv
      have e3 : xup h q o z = h z := if_neg hz
      unfold xcpv at hv ⊢
      dsimp only at hv ⊢
      rw [e3]
      exact hv
  exact List.all_eq_true.mpr (fun j hj => key _ (List.all_eq_true.mp hc j hj))
/-- the rest of copyOf, behind its choice of the class -/
theorem zU_cp {n n0 : Nat} {z q : Nat × Nat} {f : Nat → xV} (hz : h z = some (.inr (4, n0, f))) (hq : h q = none) (h0 : q.1 ≠ 0) (hn : n0 ≤ n) (hm : n ≤ 67108864) (hck : xcpk h [0, 1, 2, 3, 4, 5, 6, 7, 8, 9, 10] 4 f 0 n0 = true) :
    zU d 162 6 [(0, .inr z), (1, zi (n : Int))] [] ([q] ++ []) c s h (.inl (some (.inr q))) (c + 1) (s + n) (xup h q (.inr (4, n, xcpy f (fun _ => .inl .null) 0 0 n0))) := by
  have hzq : z ≠ q := fun e => by
    subst e
    rw [hz] at hq
    cases hq
  refine zU.sn 1 (pc2 := 7) (l2 := [(0, .inr z), (1, zi (n : Int))]) (st2 := [zi (n : Int)]) rfl ?_
  refine zU.anewa q ⟨rfl, rfl⟩ hq h0 rfl hm ?_
  refine zU.sn 1 (pc2 := 24) (l2 := [(0, .inr z), (1, zi (n : Int))]) (st2 := [.inr q]) rfl ?_
  refine zU.sn 1 (pc2 := 25) (l2 := [(3, .inr q), (0, .inr z), (1, zi (n : Int))]) (st2 := []) rfl ?_
  refine zU.sn 1 (pc2 := 26) (l2 := [(3, .inr q), (0, .inr z), (1, zi (n : Int))]) (st2 := [.inr z]) rfl ?_
  refine zU.sn 1 (pc2 := 27) (l2 := [(3, .inr q), (0, .inr z), (1, zi (n : Int))]) (st2 := [zi 0, .inr z]) rfl ?_
  refine zU.sn 1 (pc2 := 28) (l2 := [(3, .inr q), (0, .inr z), (1, zi (n : Int))]) (st2 := [.inr q, zi 0, .inr z]) rfl ?_
  refine zU.sn 1 (pc2 := 29) (l2 := [(3, .inr q), (0, .inr z), (1, zi (n : Int))]) (st2 := [zi 0, .inr q, zi 0, .inr z]) rfl ?_
  refine zU.sn 1 (pc2 := 30) (l2 := [(3, .inr q), (0, .inr z), (1, zi (n : Int))]) (st2 := [.inr z, zi 0, .inr q, zi 0, .inr z]) rfl ?_
  have hz2 : xup h q (.inr (4, n, fun _ => .inl .null)) z = some (.inr (4, n0, f)) := (if_neg hzq).trans hz
  have hq2 : xup h q (.inr (4, n, fun _ => .inl .null)) q = some (.inr (4, n, fun _ => .inl .null)) := if_pos rfl
  refine zU.alen ⟨rfl, rfl⟩ hz2 ?_
  refine zU.sn 1 (pc2 := 32) (l2 := [(3, .inr q), (0, .inr z), (1, zi (n : Int))]) (st2 := [zi (n : Int), zi (n0 : Int), zi 0, .inr q, zi 0, .inr z]) rfl ?_
  refine zU.mini ⟨rfl, rfl⟩ (by omega) (by omega) (Nat.le_of_ble_eq_true rfl) ?_
  rw [if_neg (show ¬ (n : Int) < (n0 : Int) from by omega)]
  refine zU.acp (sp := 0) (dp := 0) (n := n0) ⟨rfl, rfl⟩ hz2 hq2 (Or.inr rfl) h0 rfl rfl rfl (by omega) (by omega) (xcpk_up hq hck) (Nat.le_of_ble_eq_true rfl) ?_
  have e : xup (xup h q (.inr (4, n, fun _ => .inl .null))) q (.inr (4, n, xcpy f (fun _ => .inl .null) 0 0 n0)) = xup h q (.inr (4, n, xcpy f (fun _ => .inl .null) 0 0 n0)) := by
    funext j
    unfold xup
    by_cases hj : j = q
    · rw [if_pos hj, if_pos hj]
    · rw [if_neg hj, if_neg hj, if_neg hj]
  rw [e]
  refine zU.sn 1 (pc2 := 39) (l2 := [(3, .inr q), (0, .inr z), (1, zi (n : Int))]) (st2 := [.inr q]) rfl ?_
  exact zU.ret rfl rfl
end YE0
