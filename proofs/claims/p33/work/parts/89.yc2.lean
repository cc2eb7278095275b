set_option maxRecDepth 100000
section YC89
variable {d : Nat} {Q : xR → Nat → Nat → xH → Prop}
/-- a part: place, mark, slack, room, log -/
abbrev zPT : Type := Nat × Int × Nat × Nat × List zE
def zPt (h : xH) (p : Nat) (X : zPT) : Prop := h (5, p) = some (.inl (4, [.inr (6, p), zi (X.1 : Int), zi X.2.1, zi (X.2.2.1 : Int)])) ∧ zAL h 6 p X.2.2.2.1 (zNm X.2.2.2.2) ∧ zKs h X.2.2.2.2 ∧ (-1 ≤ X.2.1 ∧ X.2.1 < 1000) ∧ X.2.2.1 ≤ 99 ∧ X.1 ≤ X.2.2.2.2.length ∧ X.2.2.2.2.length ≤ 72
abbrev zPn : List (Nat × Nat) := [(5, 0), (5, 1), (5, 2)]
theorem zPn_at {p : Nat} (h : p < 3) : zPn[p]? = some (5, p) := by
  match p, h with
  | 0, _ => rfl
  | 1, _ => rfl
  | 2, _ => rfl
/-- the parts lie there -/
def zPs (h : xH) (P : Nat → zPT) : Prop := (∃ cap, zAL h 11 0 cap zPn) ∧ ∀ p, p < 3 → zPt h p (P p)
theorem zPs.mv {h h1 : xH} {P : Nat → zPT} (hP : zPs h P) (e : ∀ a b : Nat, (5 ≤ a ∧ a < 9) ∨ (11 ≤ a ∧ a < 13) ∨ a = 0 → h1 (a, b) = h (a, b)) : zPs h1 P := by
  obtain ⟨⟨cap, h2⟩, h3⟩ := hP
  refine ⟨⟨cap, h2.fr (fun a b z => e a b (by omega))⟩, fun p hp => ?_⟩
  obtain ⟨a1, a2, a3, a4⟩ := h3 p hp
  exact ⟨(e _ _ (by omega)).trans a1, a2.fr (fun a b z => e a b (by omega)), fun x hx => ⟨(a3 x hx).1, (e _ _ (by omega)).trans (a3 x hx).2⟩, a4⟩
/-- the least mark of the parts from the p-th on -/
def zlm (P : Nat → zPT) : Nat → Nat → Int → Int
  | 0, _, a => a
  | n + 1, p, a => zlm P n (p + 1) (if (P p).2.1 < a then (P p).2.1 else a)
theorem l_lm {P : Nat → zPT} {fs : List xV} {c s : Nat} {h : xH} (hf : h (10, 0) = some (.inl (10, zFn fs))) (hP : zPs h P) : ∀ (n p : Nat) (a : Int), p + n = 3 → -1 ≤ a ∧ a ≤ 1000 → (-1 ≤ zlm P n p a ∧ zlm P n p a ≤ 1000 → Q (.inl (some (zi (zlm P n p a)))) c s h) → zX (d + 3) 138 6 [(0, .inr (10, 0)), (1, zi a), (2, zi (p : Int))] [] c s h Q := by
  obtain ⟨⟨cap, hA⟩, hPt⟩ := id hP
  intro n
  induction n with
  | zero =>
    intro p a hp ha q
    refine zX.sn 1 (pc2 := 7) (l2 := [(0, .inr (10, 0)), (1, zi a), (2, zi (p : Int))]) (st2 := [zi (p : Int)]) rfl ?_
    refine zX.sn 1 (pc2 := 8) (l2 := [(0, .inr (10, 0)), (1, zi a), (2, zi (p : Int))]) (st2 := [.inr (10, 0), zi (p : Int)]) rfl ?_
    refine zX.getf ⟨rfl, rfl⟩ hf rfl rfl ?_
    refine zX.call (mid2 := 150) (as := [.inr (11, 0)]) (rest := [zi (p : Int)]) ⟨rfl, rfl⟩ (fun _ => rfl) (zX.invA rfl hA rfl rfl) ⟨Nat.le_of_ble_eq_true rfl, Nat.le_of_ble_eq_true rfl⟩ ?_
    refine s_size hA ?_
    show zX _ 138 14 [(0, .inr (10, 0)), (1, zi a), (2, zi (p : Int))] [zi 3, zi (p : Int)] c s _ _
    refine zX.icmp (tgt := 42) ⟨rfl, rfl⟩ rfl (by omega) (by omega) (fun _ => ?_) (fun (zz : (p : Int) < 3) => absurd zz (by omega))
    refine zX.sn 1 (pc2 := 43) (l2 := [(0, .inr (10, 0)), (1, zi a), (2, zi (p : Int))]) (st2 := [zi a]) rfl ?_
    refine zX.ret rfl rfl ?_
    exact q ha
  | succ n ih =>
    intro p a hp ha q
    obtain ⟨b1, b2, b3, b4, -⟩ := hPt p (by omega)
    refine zX.sn 1 (pc2 := 7) (l2 := [(0, .inr (10, 0)), (1, zi a), (2, zi (p : Int))]) (st2 := [zi (p : Int)]) rfl ?_
    refine zX.sn 1 (pc2 := 8) (l2 := [(0, .inr (10, 0)), (1, zi a), (2, zi (p : Int))]) (st2 := [.inr (10, 0), zi (p : Int)]) rfl ?_
    refine zX.getf ⟨rfl, rfl⟩ hf rfl rfl ?_
    refine zX.call (mid2 := 150) (as := [.inr (11, 0)]) (rest := [zi (p : Int)]) ⟨rfl, rfl⟩ (fun _ => rfl) (zX.invA rfl hA rfl rfl) ⟨Nat.le_of_ble_eq_true rfl, Nat.le_of_ble_eq_true rfl⟩ ?_
    refine s_size hA ?_
    show zX _ 138 14 [(0, .inr (10, 0)), (1, zi a), (2, zi (p : Int))] [zi 3, zi (p : Int)] c s _ _
    refine zX.icmp (tgt := 42) ⟨rfl, rfl⟩ rfl (by omega) (by omega) (fun (zz : (3 : Int) ≤ (p : Int)) => absurd zz (by omega)) (fun _ => ?_)
    refine zX.sn 1 (pc2 := 18) (l2 := [(0, .inr (10, 0)), (1, zi a), (2, zi (p : Int))]) (st2 := [zi a]) rfl ?_
    refine zX.sn 1 (pc2 := 19) (l2 := [(0, .inr (10, 0)), (1, zi a), (2, zi (p : Int))]) (st2 := [.inr (10, 0), zi a]) rfl ?_
    refine zX.getf ⟨rfl, rfl⟩ hf rfl rfl ?_
    refine zX.sn 1 (pc2 := 23) (l2 := [(0, .inr (10, 0)), (1, zi a), (2, zi (p : Int))]) (st2 := [zi (p : Int), .inr (11, 0), zi a]) rfl ?_
    refine zX.call (mid2 := 153) (as := [.inr (11, 0), zi (p : Int)]) (rest := [zi a]) ⟨rfl, rfl⟩ (fun _ => rfl) (zX.invA rfl hA rfl rfl) ⟨Nat.le_of_ble_eq_true rfl, Nat.le_of_ble_eq_true rfl⟩ ?_
    refine s_get (j := p) (x := (5, p)) rfl (by omega) hA (zPn_at (by omega)) ?_
    show zX _ 138 26 [(0, .inr (10, 0)), (1, zi a), (2, zi (p : Int))] [.inr (5, p), zi a] c s _ _
    refine zX.cast ⟨rfl, rfl⟩ b1 rfl ?_
    refine zX.getf ⟨rfl, rfl⟩ b1 rfl rfl ?_
    refine zX.mini ⟨rfl, rfl⟩ (by omega) (by omega) (Nat.le_of_ble_eq_true rfl) ?_
    refine zX.sn 1 (pc2 := 36) (l2 := [(1, zi (if (P p).2.1 < a then (P p).2.1 else a)), (0, .inr (10, 0)), (2, zi (p : Int))]) (st2 := []) rfl ?_
    refine zX.s1 (pc2 := 39) (l2 := [(2, zi ((p : Int) + 1)), (1, zi (if (P p).2.1 < a then (P p).2.1 else a)), (0, .inr (10, 0))]) (st2 := []) ⟨rfl, rfl⟩ (by rw [show (zi ((p : Int) + 1) : xV) = .inl (.int (Int32.ofInt (p : Int) + 1)) from congrArg (fun z => (.inl (.int z) : xV)) (Int32.ofInt_add _ _)]; rfl) ?_
    refine zX.sn 1 (pc2 := 6) (l2 := [(2, zi ((p : Int) + 1)), (1, zi (if (P p).2.1 < a then (P p).2.1 else a)), (0, .inr (10, 0))]) (st2 := []) rfl ?_
    refine zX.re [(0, .inr (10, 0)), (1, zi (if (P p).2.1 < a then (P p).2.1 else a)), (2, zi ((p : Int) + 1))] [2, 1, 0] [2, 1, 0] rfl rfl (by decide) ?_
    exact ih (p + 1) _ (by omega) (by split <;> omega) q
theorem s_lm {P : Nat → zPT} {fs : List xV} {c s : Nat} {h : xH} (hf : h (10, 0) = some (.inl (10, zFn fs))) (hP : zPs h P) (q : -1 ≤ zlm P 3 0 1000 ∧ zlm P 3 0 1000 ≤ 1000 → Q (.inl (some (zi (zlm P 3 0 1000)))) c s h) : zX (d + 3) 138 0 [(0, .inr (10, 0))] [] c s h Q := by
  refine zX.sn 1 (pc2 := 3) (l2 := [(0, .inr (10, 0))]) (st2 := [zi 1000]) rfl ?_
  refine zX.sn 1 (pc2 := 4) (l2 := [(1, zi 1000), (0, .inr (10, 0))]) (st2 := []) rfl ?_
  refine zX.sn 1 (pc2 := 5) (l2 := [(1, zi 1000), (0, .inr (10, 0))]) (st2 := [zi 0]) rfl ?_
  refine zX.sn 1 (pc2 := 6) (l2 := [(2, zi 0), (1, zi 1000), (0, .inr (10, 0))]) (st2 := []) rfl ?_
  refine zX.re [(0, .inr (10, 0)), (1, zi 1000), (2, zi 0)] [2, 1, 0] [2, 1, 0] rfl rfl (by decide) ?_
  exact l_lm hf hP 3 0 1000 rfl (by omega) q
/-- one of the parts -/
theorem s_part1 {P : Nat → zPT} {fs : List xV} {c s p : Nat} {h : xH} (hf : h (10, 0) = some (.inl (10, zFn fs))) (hP : zPs h P) (hp : p < 3) (q : Q (.inl (some (.inr (5, p)))) c s h) : zX (d + 3) 129 0 [(0, .inr (10, 0)), (1, zi (p : Int))] [] c s h Q := by
  obtain ⟨⟨cap, hA⟩, hPt⟩ := id hP
  obtain ⟨b1, -⟩ := hPt p hp
  refine zX.sn 1 (pc2 := 1) (l2 := [(0, .inr (10, 0)), (1, zi (p : Int))]) (st2 := [zi (p : Int)]) rfl ?_
  refine zX.icmp0 (tgt := 15) ⟨rfl, rfl⟩ rfl (by omega) (fun (zz : (p : Int) < 0) => absurd zz (by omega)) (fun _ => ?_)
  refine zX.sn 1 (pc2 := 5) (l2 := [(0, .inr (10, 0)), (1, zi (p : Int))]) (st2 := [zi (p : Int)]) rfl ?_
  refine zX.sn 1 (pc2 := 6) (l2 := [(0, .inr (10, 0)), (1, zi (p : Int))]) (st2 := [.inr (10, 0), zi (p : Int)]) rfl ?_
  refine zX.getf ⟨rfl, rfl⟩ hf rfl rfl ?_
  refine zX.call (mid2 := 150) (as := [.inr (11, 0)]) (rest := [zi (p : Int)]) ⟨rfl, rfl⟩ (fun _ => rfl) (zX.invA rfl hA rfl rfl) ⟨Nat.le_of_ble_eq_true rfl, Nat.le_of_ble_eq_true rfl⟩ ?_
  refine s_size hA ?_
  show zX _ 129 12 [(0, .inr (10, 0)), (1, zi (p : Int))] [zi 3, zi (p : Int)] c s _ _
  refine zX.icmp (tgt := 26) ⟨rfl, rfl⟩ rfl (by omega) (by omega) (fun _ => ?_) (fun (zz : (3 : Int) ≤ (p : Int)) => absurd zz (by omega))
  refine zX.sn 1 (pc2 := 27) (l2 := [(0, .inr (10, 0)), (1, zi (p : Int))]) (st2 := [.inr (10, 0)]) rfl ?_
  refine zX.getf ⟨rfl, rfl⟩ hf rfl rfl ?_
  refine zX.sn 1 (pc2 := 31) (l2 := [(0, .inr (10, 0)), (1, zi (p : Int))]) (st2 := [zi (p : Int), .inr (11, 0)]) rfl ?_
  refine zX.call (mid2 := 153) (as := [.inr (11, 0), zi (p : Int)]) (rest := []) ⟨rfl, rfl⟩ (fun _ => rfl) (zX.invA rfl hA rfl rfl) ⟨Nat.le_of_ble_eq_true rfl, Nat.le_of_ble_eq_true rfl⟩ ?_
  refine s_get (j := p) (x := (5, p)) rfl (by omega) hA (zPn_at hp) ?_
  show zX _ 129 34 [(0, .inr (10, 0)), (1, zi (p : Int))] [.inr (5, p)] c s _ _
  refine zX.cast ⟨rfl, rfl⟩ b1 rfl ?_
  refine zX.ret rfl rfl ?_
  exact q
end YC89
