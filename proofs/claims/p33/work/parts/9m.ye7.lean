set_option maxRecDepth 100000
section YD9m
variable {d : Nat} {Q : xR → Nat → Nat → xH → Prop}
theorem s_outInit {c s : Nat} {h : xH} (hr : h (2, 0) = some (.inl (3, [.inl .null, zi 0]))) (hfr : ∀ M, h (3, M) = none)
    (q : ∀ h1 : xH, zOut h1 64 [] → (∀ a b : Nat, ¬ (a = 2 ∧ b = 0 ∨ a = 3 ∧ b = 64) → h1 (a, b) = h (a, b)) → Q (.inl none) (c + 1) (s + 64) h1) : zX d 10 0 [(0, .inr (2, 0))] [] c s h Q := by
  refine zX.sn 1 (pc2 := 1) (l2 := [(0, .inr (2, 0))]) (st2 := [.inr (2, 0)]) rfl ?_
  refine zX.obj ⟨rfl, rfl⟩ (Nat.le_of_ble_eq_true rfl) ?_
  refine zX.sn 1 (pc2 := 5) (l2 := [(0, .inr (2, 0))]) (st2 := [.inr (2, 0)]) rfl ?_
  refine zX.sn 1 (pc2 := 7) (l2 := [(0, .inr (2, 0))]) (st2 := [zi 64, .inr (2, 0)]) rfl ?_
  refine zX.newa (n := 64) (3, 64) ⟨rfl, rfl⟩ (hfr 64) (by omega) rfl (by omega) ?_
  show zX _ 10 9 [(0, .inr (2, 0))] [.inr (3, 64), .inr (2, 0)] (c + 1) (s + 64) (xup h (3, 64) (.inr (1, 64, zJ (fun _ => 0)))) _
  generalize hh1 : xup h (3, 64) (.inr (1, 64, zJ (fun _ => 0))) = h1
  have hs1 : h1 (3, 64) = some (.inr (1, 64, zJ (fun _ => 0))) := by
    rw [← hh1]
    exact zup_s
  have hn1 : ∀ a b : Nat, ¬ (a = 3 ∧ b = 64) → h1 (a, b) = h (a, b) := fun a b hn => by
    rw [← hh1]
    exact zup_n (zn (by omega)) rfl
  refine zX.putf ⟨rfl, rfl⟩ ((hn1 _ _ (by omega)).trans hr) rfl (by omega) rfl ?_
  show zX _ 10 12 [(0, .inr (2, 0))] [] (c + 1) (s + 64) (xup h1 (2, 0) (.inl (3, [.inr (3, 64), zi 0]))) _
  generalize hh2 : xup h1 (2, 0) (.inl (3, [.inr (3, 64), zi 0])) = h2
  have hs2 : h2 (2, 0) = some (.inl (3, [.inr (3, 64), zi 0])) := by
    rw [← hh2]
    exact zup_s
  have hn2 : ∀ a b : Nat, ¬ (a = 2 ∧ b = 0) → h2 (a, b) = h1 (a, b) := fun a b hn => by
    rw [← hh2]
    exact zup_n (zn (by omega)) rfl
  refine zX.sn 1 (pc2 := 13) (l2 := [(0, .inr (2, 0))]) (st2 := [.inr (2, 0)]) rfl ?_
  refine zX.sn 1 (pc2 := 14) (l2 := [(0, .inr (2, 0))]) (st2 := [zi 0, .inr (2, 0)]) rfl ?_
  refine zX.putf ⟨rfl, rfl⟩ hs2 rfl (by omega) rfl ?_
  show zX _ 10 17 [(0, .inr (2, 0))] [] (c + 1) (s + 64) (xup h2 (2, 0) (.inl (3, [.inr (3, 64), zi 0]))) _
  generalize hh3 : xup h2 (2, 0) (.inl (3, [.inr (3, 64), zi 0])) = h3
  have hs3 : h3 (2, 0) = some (.inl (3, [.inr (3, 64), zi 0])) := by
    rw [← hh3]
    exact zup_s
  have hn3 : ∀ a b : Nat, ¬ (a = 2 ∧ b = 0) → h3 (a, b) = h1 (a, b) := fun a b hn => by
    rw [← hh3]
    exact zup_n (zn (by omega)) (hn2 a b hn)
  refine zX.ret rfl rfl ?_
  refine q h3 ⟨fun _ => 0, hs3, (hn3 _ _ (by omega)).trans hs1, fun i x hx => (by rw [List.getElem?_nil] at hx; cases hx), fun M hM => (hn3 _ _ (by omega)).trans ((hn1 _ _ (by omega)).trans (hfr M)), Nat.zero_le _, Nat.le_refl _, by omega⟩ (fun a b hn => (hn3 a b (by omega)).trans (hn1 a b (by omega)))
/-- a part at first -/
def zP0 : zPT := (0, -1, 0, 0, [])
theorem s_partInit {p c s : Nat} {h : xH} {g : Nat → xV} (hp : p < 3) (hemp : h (0, 1) = some (.inr (4, 0, g))) (hr : h (5, p) = some (.inl (4, [.inl .null, zi 0, zi 0, zi 0]))) (hfr : ∀ a b : Nat, (6 ≤ a ∧ a < 8 ∧ b % 8 = p) → h (a, b) = none)
    (q : ∀ h1 : xH, zPt h1 p zP0 → (∀ a b : Nat, ¬ (5 ≤ a ∧ a < 7 ∧ b = p) → h1 (a, b) = h (a, b)) → Q (.inl none) (c + 1) (s + 3) h1) : zX (d + 3) 13 0 [(0, .inr (5, p))] [] c s h Q := by
  refine zX.sn 1 (pc2 := 1) (l2 := [(0, .inr (5, p))]) (st2 := [.inr (5, p)]) rfl ?_
  refine zX.obj ⟨rfl, rfl⟩ (Nat.le_of_ble_eq_true rfl) ?_
  refine zX.sn 1 (pc2 := 5) (l2 := [(0, .inr (5, p))]) (st2 := [.inr (5, p)]) rfl ?_
  refine zX.new (6, p) ⟨rfl, rfl⟩ (hfr 6 p (by omega)) (by omega) ?_
  show zX _ 13 8 [(0, .inr (5, p))] [.inr (6, p), .inr (5, p)] (c + 1) (s + 3) (xup h (6, p) (.inl (0, [zi 0, .inl .null, zi 0]))) _
  generalize hh1 : xup h (6, p) (.inl (0, [zi 0, .inl .null, zi 0])) = h1
  have hs1 : h1 (6, p) = some (.inl (0, [zi 0, .inl .null, zi 0])) := by
    rw [← hh1]
    exact zup_s
  have hn1 : ∀ a b : Nat, ¬ (a = 6 ∧ b = p) → h1 (a, b) = h (a, b) := fun a b hn => by
    rw [← hh1]
    exact zup_n (zn (by omega)) rfl
  refine zX.sn 1 (pc2 := 9) (l2 := [(0, .inr (5, p))]) (st2 := [.inr (6, p), .inr (6, p), .inr (5, p)]) rfl ?_
  refine zX.call (mid2 := 147) (as := [.inr (6, p)]) (rest := [.inr (6, p), .inr (5, p)]) ⟨rfl, rfl⟩ (fun _ => rfl) rfl ⟨Nat.le_of_ble_eq_true rfl, Nat.le_of_ble_eq_true rfl⟩ ?_
  refine s_listInit (d := d) (by omega) ((hn1 _ _ (by omega)).trans hemp) hs1 (fun M hM => (hn1 _ _ (by omega)).trans (hfr 7 _ (by omega))) (fun h2 r2 m2 => ?_)
  show zX _ 13 12 [(0, .inr (5, p))] [.inr (6, p), .inr (5, p)] (c + 1) (s + 3) _ _
  have hb2 : ∀ a b : Nat, ¬ (a = 6 ∧ b = p) → h2 (a, b) = h (a, b) := fun a b hn => (m2 a b (by omega)).trans (hn1 a b (by omega))
  have hr2 := (hb2 5 p (by omega)).trans hr
  refine zX.putf ⟨rfl, rfl⟩ hr2 rfl (by omega) rfl ?_
  show zX _ 13 15 [(0, .inr (5, p))] [] (c + 1) (s + 3) (xup h2 (5, p) (.inl (4, [.inr (6, p), zi 0, zi 0, zi 0]))) _
  generalize hh3 : xup h2 (5, p) (.inl (4, [.inr (6, p), zi 0, zi 0, zi 0])) = h3
  have hs3 : h3 (5, p) = some (.inl (4, [.inr (6, p), zi 0, zi 0, zi 0])) := by
    rw [← hh3]
    exact zup_s
  have hn3 : ∀ a b : Nat, ¬ (a = 5 ∧ b = p) → h3 (a, b) = h2 (a, b) := fun a b hn => by
    rw [← hh3]
    exact zup_n (zn (by omega)) rfl
  refine zX.sn 1 (pc2 := 16) (l2 := [(0, .inr (5, p))]) (st2 := [.inr (5, p)]) rfl ?_
  refine zX.sn 1 (pc2 := 17) (l2 := [(0, .inr (5, p))]) (st2 := [zi 0, .inr (5, p)]) rfl ?_
  refine zX.putf ⟨rfl, rfl⟩ hs3 rfl (by omega) rfl ?_
  show zX _ 13 20 [(0, .inr (5, p))] [] (c + 1) (s + 3) (xup h3 (5, p) (.inl (4, [.inr (6, p), zi 0, zi 0, zi 0]))) _
  generalize hh4 : xup h3 (5, p) (.inl (4, [.inr (6, p), zi 0, zi 0, zi 0])) = h4
  have hs4 : h4 (5, p) = some (.inl (4, [.inr (6, p), zi 0, zi 0, zi 0])) := by
    rw [← hh4]
    exact zup_s
  have hn4 : ∀ a b : Nat, ¬ (a = 5 ∧ b = p) → h4 (a, b) = h2 (a, b) := fun a b hn => by
    rw [← hh4]
    exact zup_n (zn (by omega)) (hn3 a b hn)
  refine zX.sn 1 (pc2 := 21) (l2 := [(0, .inr (5, p))]) (st2 := [.inr (5, p)]) rfl ?_
  refine zX.sn 1 (pc2 := 22) (l2 := [(0, .inr (5, p))]) (st2 := [zi (-1), .inr (5, p)]) rfl ?_
  refine zX.putf ⟨rfl, rfl⟩ hs4 rfl (by omega) rfl ?_
  show zX _ 13 25 [(0, .inr (5, p))] [] (c + 1) (s + 3) (xup h4 (5, p) (.inl (4, [.inr (6, p), zi 0, zi (-1), zi 0]))) _
  generalize hh5 : xup h4 (5, p) (.inl (4, [.inr (6, p), zi 0, zi (-1), zi 0])) = h5
  have hs5 : h5 (5, p) = some (.inl (4, [.inr (6, p), zi 0, zi (-1), zi 0])) := by
    rw [← hh5]
    exact zup_s
  have hn5 : ∀ a b : Nat, ¬ (a = 5 ∧ b = p) → h5 (a, b) = h2 (a, b) := fun a b hn => by
    rw [← hh5]
    exact zup_n (zn (by omega)) (hn4 a b hn)
  refine zX.sn 1 (pc2 := 26) (l2 := [(0, .inr (5, p))]) (st2 := [.inr (5, p)]) rfl ?_
  refine zX.sn 1 (pc2 := 27) (l2 := [(0, .inr (5, p))]) (st2 := [zi 0, .inr (5, p)]) rfl ?_
  refine zX.putf ⟨rfl, rfl⟩ hs5 rfl (by omega) rfl ?_
  show zX _ 13 30 [(0, .inr (5, p))] [] (c + 1) (s + 3) (xup h5 (5, p) (.inl (4, [.inr (6, p), zi 0, zi (-1), zi 0]))) _
  generalize hh6 : xup h5 (5, p) (.inl (4, [.inr (6, p), zi 0, zi (-1), zi 0])) = h6
  have hs6 : h6 (5, p) = some (.inl (4, [.inr (6, p), zi 0, zi (-1), zi 0])) := by
    rw [← hh6]
    exact zup_s
  have hn6 : ∀ a b : Nat, ¬ (a = 5 ∧ b = p) → h6 (a, b) = h2 (a, b) := fun a b hn => by
    rw [← hh6]
    exact zup_n (zn (by omega)) (hn5 a b hn)
  refine zX.ret rfl rfl ?_
  exact q h6 ⟨hs6, r2.fr (fun a b z => hn6 a b (by omega)), fun x hx => (by cases hx), (show -1 ≤ (-1 : Int) ∧ (-1 : Int) < 1000 by decide), Nat.zero_le _, Nat.zero_le _, Nat.zero_le _⟩ (fun a b hn => (hn6 a b (by omega)).trans (hb2 a b (by omega)))
/-- the workers of the first keys -/
def zwk (n : Nat) : Nat → Int := fun j => if j < n then (j : Int) % 3 else 0
theorem zwk_s (i : Nat) : zwk (i + 1) = zfi (zwk i) i ((i : Int) % 3) := by
  funext j
  show (if j < i + 1 then (j : Int) % 3 else 0) = if j = i then (i : Int) % 3 else (if j < i then (j : Int) % 3 else 0)
  by_cases h : j = i
  · subst h
    rw [if_pos (by omega), if_pos rfl]
  · rw [if_neg h]
    by_cases h2 : j < i
    · rw [if_pos (by omega), if_pos h2]
    · rw [if_neg (by omega), if_neg h2]
theorem l_work {c s : Nat} : ∀ (n i : Nat) (h : xH), i + n = 8 → h (10, 0) = some (.inl (10, zFn (zFf false false false 0 0 0 0))) → h (17, 0) = some (.inr (0, 8, zA (zwk i))) → (∀ h1 : xH, h1 (17, 0) = some (.inr (0, 8, zA (zwk 8))) → (∀ a b : Nat, ¬ (a = 17 ∧ b = 0) → h1 (a, b) = h (a, b)) → Q (.inl none) c s h1) → zX d 99 93 [(0, .inr (10, 0)), (1, zi (i : Int))] [] c s h Q := by
  intro n
  induction n with
  | zero =>
    intro i h hi hf hw q
    refine zX.sn 1 (pc2 := 94) (l2 := [(0, .inr (10, 0)), (1, zi (i : Int))]) (st2 := [zi (i : Int)]) rfl ?_
    refine zX.sn 1 (pc2 := 95) (l2 := [(0, .inr (10, 0)), (1, zi (i : Int))]) (st2 := [.inr (10, 0), zi (i : Int)]) rfl ?_
    refine zX.getf ⟨rfl, rfl⟩ hf rfl rfl ?_
    refine zX.alen ⟨rfl, rfl⟩ hw ?_
    refine zX.icmp (tgt := 117) ⟨rfl, rfl⟩ rfl (by omega) (by omega) (fun _ => ?_) (fun (zz : (i : Int) < ((8 : Nat) : Int)) => absurd zz (by omega))
    refine zX.ret rfl rfl ?_
    obtain rfl : i = 8 := by omega
    exact q h hw (fun _ _ _ => rfl)
  | succ n ih =>
    intro i h hi hf hw q
    refine zX.sn 1 (pc2 := 94) (l2 := [(0, .inr (10, 0)), (1, zi (i : Int))]) (st2 := [zi (i : Int)]) rfl ?_
    refine zX.sn 1 (pc2 := 95) (l2 := [(0, .inr (10, 0)), (1, zi (i : Int))]) (st2 := [.inr (10, 0), zi (i : Int)]) rfl ?_
    refine zX.getf ⟨rfl, rfl⟩ hf rfl rfl ?_
    refine zX.alen ⟨rfl, rfl⟩ hw ?_
    refine zX.icmp (tgt := 117) ⟨rfl, rfl⟩ rfl (by omega) (by omega) (fun (zz : ((8 : Nat) : Int) ≤ (i : Int)) => absurd zz (by omega)) (fun _ => ?_)
    refine zX.sn 1 (pc2 := 103) (l2 := [(0, .inr (10, 0)), (1, zi (i : Int))]) (st2 := [.inr (10, 0)]) rfl ?_
    refine zX.getf ⟨rfl, rfl⟩ hf rfl rfl ?_
    refine zX.sn 1 (pc2 := 107) (l2 := [(0, .inr (10, 0)), (1, zi (i : Int))]) (st2 := [zi (i : Int), .inr (17, 0)]) rfl ?_
    refine zX.sn 1 (pc2 := 108) (l2 := [(0, .inr (10, 0)), (1, zi (i : Int))]) (st2 := [zi (i : Int), zi (i : Int), .inr (17, 0)]) rfl ?_
    refine zX.sn 1 (pc2 := 109) (l2 := [(0, .inr (10, 0)), (1, zi (i : Int))]) (st2 := [zi 3, zi (i : Int), zi (i : Int), .inr (17, 0)]) rfl ?_
    refine zX.irem ⟨rfl, rfl⟩ (by omega) (by omega) ?_
    refine zX.Aast (j := i) ⟨rfl, rfl⟩ hw (by decide) rfl (by omega) (by omega) ?_
    generalize hh1 : xup h (17, 0) _ = h1
    have hs1 : h1 (17, 0) = some (.inr (0, 8, zA (zwk (i + 1)))) := by
      rw [← hh1, show zwk (i + 1) = zfi (zwk i) i ((i : Int) % 3) from zwk_s i]
      exact zup_s
    have hn1 : ∀ a b : Nat, ¬ (a = 17 ∧ b = 0) → h1 (a, b) = h (a, b) := fun a b hn => by
      rw [← hh1]
      exact zup_n (zn (by omega)) rfl
    show zX _ 99 111 [(0, .inr (10, 0)), (1, zi (i : Int))] [] c s _ _
    refine zX.s1 (pc2 := 114) (l2 := [(1, zi ((i : Int) + 1)), (0, .inr (10, 0))]) (st2 := []) ⟨rfl, rfl⟩ (by rw [show (zi ((i : Int) + 1) : xV) = .inl (.int (Int32.ofInt (i : Int) + 1)) from congrArg (fun z => (.inl (.int z) : xV)) (Int32.ofInt_add _ _)]; rfl) ?_
    refine zX.sn 1 (pc2 := 93) (l2 := [(1, zi ((i : Int) + 1)), (0, .inr (10, 0))]) (st2 := []) rfl ?_
    refine zX.re [(0, .inr (10, 0)), (1, zi ((i : Int) + 1))] [1, 0] [1, 0] rfl rfl (by decide) ?_
    exact ih (i + 1) h1 (by omega) ((hn1 _ _ (by omega)).trans hf) hs1 (fun h2 d1 d2 => q h2 d1 (fun a b hn => (d2 a b hn).trans (hn1 a b hn)))
theorem l_parts {g : Nat → xV} : ∀ (n p : Nat) (h : xH) (cap c s : Nat), p + n = 3 → h (10, 0) = some (.inl (10, zFn (zFf false false false 0 0 0 0))) → h (0, 1) = some (.inr (4, 0, g)) → zAL h 11 0 cap ((List.range p).map (fun i => ((5 : Nat), i))) → (∀ i, i < p → zPt h i zP0) → (∀ a b : Nat, 5 ≤ a ∧ a < 8 → p ≤ b % 8 → h (a, b) = none) →
    (∀ h1 cap1 c1 s1, zAL h1 11 0 cap1 zPn → (∀ i, i < 3 → zPt h1 i zP0) → (∀ a b : Nat, ¬ (5 ≤ a ∧ a < 8 ∨ 11 ≤ a ∧ a < 13) → h1 (a, b) = h (a, b)) → cap ≤ cap1 ∧ c1 + cap ≤ c + cap1 + 2 * n ∧ s1 + 4 * cap ≤ s + 4 * cap1 + 7 * n → zX (d + 8) 99 93 [(0, .inr (10, 0)), (1, zi 0)] [] c1 s1 h1 Q) → zX (d + 8) 99 65 [(0, .inr (10, 0)), (1, zi (p : Int))] [] c s h Q := by
  intro n
  induction n with
  | zero =>
    intro p h cap c s hp hf hemp hA hP hfr q
    refine zX.sn 1 (pc2 := 66) (l2 := [(0, .inr (10, 0)), (1, zi (p : Int))]) (st2 := [zi (p : Int)]) rfl ?_
    refine zX.sn 1 (pc2 := 67) (l2 := [(0, .inr (10, 0)), (1, zi (p : Int))]) (st2 := [zi 3, zi (p : Int)]) rfl ?_
    refine zX.icmp (tgt := 91) ⟨rfl, rfl⟩ rfl (by omega) (by omega) (fun _ => ?_) (fun (zz : (p : Int) < 3) => absurd zz (by omega))
    refine zX.sn 1 (pc2 := 92) (l2 := [(0, .inr (10, 0)), (1, zi (p : Int))]) (st2 := [zi 0]) rfl ?_
    refine zX.sn 1 (pc2 := 93) (l2 := [(1, zi 0), (0, .inr (10, 0))]) (st2 := []) rfl ?_
    refine zX.re [(0, .inr (10, 0)), (1, zi 0)] [1, 0] [1, 0] rfl rfl (by decide) ?_
    obtain rfl : p = 3 := by omega
    rw [show ((List.range 3).map (fun i => ((5 : Nat), i))) = zPn from rfl] at hA
    exact q h cap c s hA hP (fun _ _ _ => rfl) (by omega)
  | succ n ih =>
    intro p h cap c s hp hf hemp hA hP hfr q
    refine zX.sn 1 (pc2 := 66) (l2 := [(0, .inr (10, 0)), (1, zi (p : Int))]) (st2 := [zi (p : Int)]) rfl ?_
    refine zX.sn 1 (pc2 := 67) (l2 := [(0, .inr (10, 0)), (1, zi (p : Int))]) (st2 := [zi 3, zi (p : Int)]) rfl ?_
    refine zX.icmp (tgt := 91) ⟨rfl, rfl⟩ rfl (by omega) (by omega) (fun (zz : 3 ≤ (p : Int)) => absurd zz (by omega)) (fun _ => ?_)
    refine zX.sn 1 (pc2 := 71) (l2 := [(0, .inr (10, 0)), (1, zi (p : Int))]) (st2 := [.inr (10, 0)]) rfl ?_
    refine zX.getf ⟨rfl, rfl⟩ hf rfl rfl ?_
    refine zX.new (5, p) ⟨rfl, rfl⟩ (hfr 5 p (by omega) (by omega)) (by omega) ?_
    show zX _ 99 77 [(0, .inr (10, 0)), (1, zi (p : Int))] [.inr (5, p), .inr (11, 0)] (c + 1) (s + 4) (xup h (5, p) (.inl (4, [.inl .null, zi 0, zi 0, zi 0]))) _
    generalize hh1 : xup h (5, p) (.inl (4, [.inl .null, zi 0, zi 0, zi 0])) = h1
    have hs1 : h1 (5, p) = some (.inl (4, [.inl .null, zi 0, zi 0, zi 0])) := by
      rw [← hh1]
      exact zup_s
    have hn1 : ∀ a b : Nat, ¬ (a = 5 ∧ b = p) → h1 (a, b) = h (a, b) := fun a b hn => by
      rw [← hh1]
      exact zup_n (zn (by omega)) rfl
    refine zX.sn 1 (pc2 := 78) (l2 := [(0, .inr (10, 0)), (1, zi (p : Int))]) (st2 := [.inr (5, p), .inr (5, p), .inr (11, 0)]) rfl ?_
    refine zX.call (mid2 := 13) (as := [.inr (5, p)]) (rest := [.inr (5, p), .inr (11, 0)]) ⟨rfl, rfl⟩ (fun _ => rfl) rfl ⟨Nat.le_of_ble_eq_true rfl, Nat.le_of_ble_eq_true rfl⟩ ?_
    refine s_partInit (d := d + 4) (by omega) ((hn1 _ _ (by omega)).trans hemp) hs1 (fun a b z => (hn1 _ _ (by omega)).trans (hfr a b (by omega) (by omega))) (fun h2 a1 a2 => ?_)
    show zX _ 99 81 [(0, .inr (10, 0)), (1, zi (p : Int))] [.inr (5, p), .inr (11, 0)] (c + 1 + 1) (s + 4 + 3) _ _
    have hb2 : ∀ a b : Nat, ¬ (5 ≤ a ∧ a < 7 ∧ b = p) → h2 (a, b) = h (a, b) := fun a b hn => (a2 a b (by omega)).trans (hn1 a b (by omega))
    have hA2 : zAL h2 11 0 cap ((List.range p).map (fun i => ((5 : Nat), i))) := hA.fr (fun a b z => hb2 a b (by omega))
    have hE2 : zEl h2 11 ((List.range p).map (fun i => ((5 : Nat), i))) := fun x hx => by
      obtain ⟨i, hi, rfl⟩ := List.mem_map.mp hx
      have hi := List.mem_range.mp hi
      exact ⟨by dsimp only; omega, 4, _, (hb2 5 i (by omega)).trans (hP i hi).1, rfl⟩
    have hl2 : ((List.range p).map (fun i => ((5 : Nat), i))).length = p := by rw [List.length_map, List.length_range]
    refine zX.call (mid2 := 155) (as := [.inr (11, 0), .inr (5, p)]) (rest := []) ⟨rfl, rfl⟩ (fun _ => rfl) (zX.invA rfl hA2 rfl rfl) ⟨Nat.le_of_ble_eq_true rfl, Nat.le_of_ble_eq_true rfl⟩ ?_
    refine s_add (d := d + 1) (x := (5, p)) (by omega) (by omega) hA2 (by omega) hE2 (by dsimp only; omega) a1.1 rfl (fun h3 cap3 c3 s3 d1 d2 d3 => ?_)
    show zX _ 99 84 [(0, .inr (10, 0)), (1, zi (p : Int))] [zi 1] c3 s3 _ _
    refine zX.sn 1 (pc2 := 85) (l2 := [(0, .inr (10, 0)), (1, zi (p : Int))]) (st2 := []) rfl ?_
    refine zX.s1 (pc2 := 88) (l2 := [(1, zi ((p : Int) + 1)), (0, .inr (10, 0))]) (st2 := []) ⟨rfl, rfl⟩ (by rw [show (zi ((p : Int) + 1) : xV) = .inl (.int (Int32.ofInt (p : Int) + 1)) from congrArg (fun z => (.inl (.int z) : xV)) (Int32.ofInt_add _ _)]; rfl) ?_
    refine zX.sn 1 (pc2 := 65) (l2 := [(1, zi ((p : Int) + 1)), (0, .inr (10, 0))]) (st2 := []) rfl ?_
    refine zX.re [(0, .inr (10, 0)), (1, zi ((p : Int) + 1))] [1, 0] [1, 0] rfl rfl (by decide) ?_
    have hb3 : ∀ a b : Nat, ¬ (5 ≤ a ∧ a < 7 ∧ b = p ∨ 11 ≤ a ∧ a < 13) → h3 (a, b) = h (a, b) := fun a b hn => (d2 a b (by omega)).trans (hb2 a b (by omega))
    refine ih (p + 1) h3 cap3 c3 s3 (by omega) ((hb3 _ _ (by omega)).trans hf) ((hb3 _ _ (by omega)).trans hemp) ?_ (fun i hi => ?_) (fun a b z1 z2 => (hb3 a b (by omega)).trans (hfr a b (by omega) (by omega))) (fun h4 cap4 c4 s4 g1 g2 g3 g4 => q h4 cap4 c4 s4 g1 g2 (fun a b hn => (g3 a b hn).trans (hb3 a b (by omega))) (by have := d3.1; have := d3.2.1; have := d3.2.2; omega))
    · rw [List.range_succ, List.map_append]
      exact d1
    · by_cases hip : i = p
      · subst hip
        obtain ⟨g1, g2, g3, g4⟩ := a1
        exact ⟨(d2 _ _ (by omega)).trans g1, g2.fr (fun a b z => d2 a b (by omega)), fun x hx => (by cases hx), g4⟩
      · obtain ⟨g1, g2, g3, g4⟩ := hP i (by omega)
        exact ⟨(hb3 _ _ (by omega)).trans g1, g2.fr (fun a b z => hb3 a b (by omega)), fun x hx => (by cases hx), g4⟩
set_option maxHeartbeats 4000000 in
/-- a new foundry -/
theorem s_init {c s : Nat} {h : xH} {g : Nat → xV} (hemp : h (0, 1) = some (.inr (4, 0, g))) (ho : h (10, 0) = some (.inl (10, [.inl .null, .inl .null, .inl .null, .inl .null, .inl .null, .inl .null, zi 0, zi 0, zi 0, zi 0, zi 0, zi 0, zi 0]))) (hfr : ∀ a b : Nat, 2 ≤ a ∧ a < 60 → ¬ (a = 10 ∧ b = 0) → h (a, b) = none)
    (q : ∀ (h1 : xH) (c1 s1 : Nat), h1 (10, 0) = some (.inl (10, zFn (zFf false false false 0 0 0 0))) → zPs h1 (fun _ => zP0) → zAL h1 13 0 0 [] → zAL h1 15 0 0 [] → zOut h1 64 [] → h1 (17, 0) = some (.inr (0, 8, zA (zwk 8))) → h1 (18, 0) = some (.inr (0, 5, zI (fun _ => 0))) → (∀ a b : Nat, ¬ (2 ≤ a ∧ a < 4 ∨ 5 ≤ a ∧ a < 8 ∨ 10 ≤ a ∧ a < 19) → h1 (a, b) = h (a, b)) → c1 ≤ c + 130 ∧ s1 ≤ s + 700 → Q (.inl none) c1 s1 h1) : zX (d + 8) 99 0 [(0, .inr (10, 0))] [] c s h Q := by
  refine zX.sn 1 (pc2 := 1) (l2 := [(0, .inr (10, 0))]) (st2 := [.inr (10, 0)]) rfl ?_
  refine zX.obj ⟨rfl, rfl⟩ (Nat.le_of_ble_eq_true rfl) ?_
  have hz0 : ∀ a b : Nat, ¬ (a = 10 ∧ b = 0) → h (a, b) = h (a, b) := fun _ _ _ => rfl
  refine zX.sn 1 (pc2 := 5) (l2 := [(0, .inr (10, 0))]) (st2 := [.inr (10, 0)]) rfl ?_
  refine zX.new (11, 0) ⟨rfl, rfl⟩ ((hz0 _ _ (by omega)).trans (hfr 11 0 (by omega) (by omega))) (by omega) ?_
  show zX _ 99 8 [(0, .inr (10, 0))] [.inr (11, 0), .inr (10, 0)] (c + 1) (s + 3) (xup h (11, 0) (.inl (0, [zi 0, .inl .null, zi 0]))) _
  generalize hha0 : xup h (11, 0) (.inl (0, [zi 0, .inl .null, zi 0])) = ha0
  have hsa0 : ha0 (11, 0) = some (.inl (0, [zi 0, .inl .null, zi 0])) := by
    rw [← hha0]
    exact zup_s
  have hna0 : ∀ a b : Nat, ¬ (a = 11 ∧ b = 0) → ha0 (a, b) = h (a, b) := fun a b hn => by
    rw [← hha0]
    exact zup_n (zn (by omega)) rfl
  refine zX.sn 1 (pc2 := 9) (l2 := [(0, .inr (10, 0))]) (st2 := [.inr (11, 0), .inr (11, 0), .inr (10, 0)]) rfl ?_
  refine zX.call (mid2 := 147) (as := [.inr (11, 0)]) (rest := [.inr (11, 0), .inr (10, 0)]) ⟨rfl, rfl⟩ (fun _ => rfl) rfl ⟨Nat.le_of_ble_eq_true rfl, Nat.le_of_ble_eq_true rfl⟩ ?_
  refine s_listInit (d := d + 5) (by omega) ((hna0 _ _ (by omega)).trans ((hz0 _ _ (by omega)).trans hemp)) hsa0 (fun M hM => (hna0 _ _ (by omega)).trans ((hz0 _ _ (by omega)).trans (hfr 12 _ (by omega) (by omega)))) (fun hb0 ra0 ma0 => ?_)
  show zX _ 99 12 [(0, .inr (10, 0))] [.inr (11, 0), .inr (10, 0)] (c + 1) (s + 3) _ _
  have hc0 : ∀ a b : Nat, ¬ (a = 11 ∧ b = 0) → hb0 (a, b) = h (a, b) := fun a b hn => (ma0 a b hn).trans (hna0 a b hn)
  have hob0 := (hc0 10 0 (by omega)).trans ho
  refine zX.putf ⟨rfl, rfl⟩ hob0 rfl (by omega) rfl ?_
  show zX _ 99 15 [(0, .inr (10, 0))] [] (c + 1) (s + 3) (xup hb0 (10, 0) (.inl (10, [.inr (11, 0), .inl .null, .inl .null, .inl .null, .inl .null, .inl .null, zi 0, zi 0, zi 0, zi 0, zi 0, zi 0, zi 0]))) _
  generalize hh1 : xup hb0 (10, 0) (.inl (10, [.inr (11, 0), .inl .null, .inl .null, .inl .null, .inl .null, .inl .null, zi 0, zi 0, zi 0, zi 0, zi 0, zi 0, zi 0])) = h1
  have hs1 : h1 (10, 0) = some (.inl (10, [.inr (11, 0), .inl .null, .inl .null, .inl .null, .inl .null, .inl .null, zi 0, zi 0, zi 0, zi 0, zi 0, zi 0, zi 0])) := by
    rw [← hh1]
    exact zup_s
  have hn1 : ∀ a b : Nat, ¬ (a = 10 ∧ b = 0) → h1 (a, b) = hb0 (a, b) := fun a b hn => by
    rw [← hh1]
    exact zup_n (zn (by omega)) rfl
  have hz1 : ∀ a b : Nat, ¬ (a = 10 ∧ b = 0 ∨ a = 11 ∧ b = 0) → h1 (a, b) = h (a, b) := fun a b hn => (hn1 a b (by omega)).trans ((hc0 a b (by omega)).trans (hz0 a b (by omega)))
  have ra0_d0 := ra0.fr (fun a b z => hn1 a b (by omega))
  refine zX.sn 1 (pc2 := 16) (l2 := [(0, .inr (10, 0))]) (st2 := [.inr (10, 0)]) rfl ?_
  refine zX.new (13, 0) ⟨rfl, rfl⟩ ((hz1 _ _ (by omega)).trans (hfr 13 0 (by omega) (by omega))) (by omega) ?_
  show zX _ 99 19 [(0, .inr (10, 0))] [.inr (13, 0), .inr (10, 0)] ((c + 1) + 1) ((s + 3) + 3) (xup h1 (13, 0) (.inl (0, [zi 0, .inl .null, zi 0]))) _
  generalize hha1 : xup h1 (13, 0) (.inl (0, [zi 0, .inl .null, zi 0])) = ha1
  have hsa1 : ha1 (13, 0) = some (.inl (0, [zi 0, .inl .null, zi 0])) := by
    rw [← hha1]
    exact zup_s
  have hna1 : ∀ a b : Nat, ¬ (a = 13 ∧ b = 0) → ha1 (a, b) = h1 (a, b) := fun a b hn => by
    rw [← hha1]
    exact zup_n (zn (by omega)) rfl
  refine zX.sn 1 (pc2 := 20) (l2 := [(0, .inr (10, 0))]) (st2 := [.inr (13, 0), .inr (13, 0), .inr (10, 0)]) rfl ?_
  refine zX.call (mid2 := 147) (as := [.inr (13, 0)]) (rest := [.inr (13, 0), .inr (10, 0)]) ⟨rfl, rfl⟩ (fun _ => rfl) rfl ⟨Nat.le_of_ble_eq_true rfl, Nat.le_of_ble_eq_true rfl⟩ ?_
  refine s_listInit (d := d + 5) (by omega) ((hna1 _ _ (by omega)).trans ((hz1 _ _ (by omega)).trans hemp)) hsa1 (fun M hM => (hna1 _ _ (by omega)).trans ((hz1 _ _ (by omega)).trans (hfr 14 _ (by omega) (by omega)))) (fun hb1 ra1 ma1 => ?_)
  show zX _ 99 23 [(0, .inr (10, 0))] [.inr (13, 0), .inr (10, 0)] ((c + 1) + 1) ((s + 3) + 3) _ _
  have hc1 : ∀ a b : Nat, ¬ (a = 13 ∧ b = 0) → hb1 (a, b) = h1 (a, b) := fun a b hn => (ma1 a b hn).trans (hna1 a b hn)
  have ra0_c1 := ra0_d0.fr (fun a b z => hc1 a b (by omega))
  have hob1 := (hc1 10 0 (by omega)).trans hs1
  refine zX.putf ⟨rfl, rfl⟩ hob1 rfl (by omega) rfl ?_
  show zX _ 99 26 [(0, .inr (10, 0))] [] ((c + 1) + 1) ((s + 3) + 3) (xup hb1 (10, 0) (.inl (10, [.inr (11, 0), .inr (13, 0), .inl .null, .inl .null, .inl .null, .inl .null, zi 0, zi 0, zi 0, zi 0, zi 0, zi 0, zi 0]))) _
  generalize hh2 : xup hb1 (10, 0) (.inl (10, [.inr (11, 0), .inr (13, 0), .inl .null, .inl .null, .inl .null, .inl .null, zi 0, zi 0, zi 0, zi 0, zi 0, zi 0, zi 0])) = h2
  have hs2 : h2 (10, 0) = some (.inl (10, [.inr (11, 0), .inr (13, 0), .inl .null, .inl .null, .inl .null, .inl .null, zi 0, zi 0, zi 0, zi 0, zi 0, zi 0, zi 0])) := by
    rw [← hh2]
    exact zup_s
  have hn2 : ∀ a b : Nat, ¬ (a = 10 ∧ b = 0) → h2 (a, b) = hb1 (a, b) := fun a b hn => by
    rw [← hh2]
    exact zup_n (zn (by omega)) rfl
  have hz2 : ∀ a b : Nat, ¬ (a = 10 ∧ b = 0 ∨ a = 11 ∧ b = 0 ∨ a = 13 ∧ b = 0) → h2 (a, b) = h (a, b) := fun a b hn => (hn2 a b (by omega)).trans ((hc1 a b (by omega)).trans (hz1 a b (by omega)))
  have ra0_d1 := ra0_c1.fr (fun a b z => hn2 a b (by omega))
  have ra1_d1 := ra1.fr (fun a b z => hn2 a b (by omega))
  refine zX.sn 1 (pc2 := 27) (l2 := [(0, .inr (10, 0))]) (st2 := [.inr (10, 0)]) rfl ?_
  refine zX.new (15, 0) ⟨rfl, rfl⟩ ((hz2 _ _ (by omega)).trans (hfr 15 0 (by omega) (by omega))) (by omega) ?_
  show zX _ 99 30 [(0, .inr (10, 0))] [.inr (15, 0), .inr (10, 0)] (((c + 1) + 1) + 1) (((s + 3) + 3) + 3) (xup h2 (15, 0) (.inl (0, [zi 0, .inl .null, zi 0]))) _
  generalize hha2 : xup h2 (15, 0) (.inl (0, [zi 0, .inl .null, zi 0])) = ha2
  have hsa2 : ha2 (15, 0) = some (.inl (0, [zi 0, .inl .null, zi 0])) := by
    rw [← hha2]
    exact zup_s
  have hna2 : ∀ a b : Nat, ¬ (a = 15 ∧ b = 0) → ha2 (a, b) = h2 (a, b) := fun a b hn => by
    rw [← hha2]
    exact zup_n (zn (by omega)) rfl
  refine zX.sn 1 (pc2 := 31) (l2 := [(0, .inr (10, 0))]) (st2 := [.inr (15, 0), .inr (15, 0), .inr (10, 0)]) rfl ?_
  refine zX.call (mid2 := 147) (as := [.inr (15, 0)]) (rest := [.inr (15, 0), .inr (10, 0)]) ⟨rfl, rfl⟩ (fun _ => rfl) rfl ⟨Nat.le_of_ble_eq_true rfl, Nat.le_of_ble_eq_true rfl⟩ ?_
  refine s_listInit (d := d + 5) (by omega) ((hna2 _ _ (by omega)).trans ((hz2 _ _ (by omega)).trans hemp)) hsa2 (fun M hM => (hna2 _ _ (by omega)).trans ((hz2 _ _ (by omega)).trans (hfr 16 _ (by omega) (by omega)))) (fun hb2 ra2 ma2 => ?_)
  show zX _ 99 34 [(0, .inr (10, 0))] [.inr (15, 0), .inr (10, 0)] (((c + 1) + 1) + 1) (((s + 3) + 3) + 3) _ _
  have hc2 : ∀ a b : Nat, ¬ (a = 15 ∧ b = 0) → hb2 (a, b) = h2 (a, b) := fun a b hn => (ma2 a b hn).trans (hna2 a b hn)
  have ra0_c2 := ra0_d1.fr (fun a b z => hc2 a b (by omega))
  have ra1_c2 := ra1_d1.fr (fun a b z => hc2 a b (by omega))
  have hob2 := (hc2 10 0 (by omega)).trans hs2
  refine zX.putf ⟨rfl, rfl⟩ hob2 rfl (by omega) rfl ?_
  show zX _ 99 37 [(0, .inr (10, 0))] [] (((c + 1) + 1) + 1) (((s + 3) + 3) + 3) (xup hb2 (10, 0) (.inl (10, [.inr (11, 0), .inr (13, 0), .inr (15, 0), .inl .null, .inl .null, .inl .null, zi 0, zi 0, zi 0, zi 0, zi 0, zi 0, zi 0]))) _
  generalize hh3 : xup hb2 (10, 0) (.inl (10, [.inr (11, 0), .inr (13, 0), .inr (15, 0), .inl .null, .inl .null, .inl .null, zi 0, zi 0, zi 0, zi 0, zi 0, zi 0, zi 0])) = h3
  have hs3 : h3 (10, 0) = some (.inl (10, [.inr (11, 0), .inr (13, 0), .inr (15, 0), .inl .null, .inl .null, .inl .null, zi 0, zi 0, zi 0, zi 0, zi 0, zi 0, zi 0])) := by
    rw [← hh3]
    exact zup_s
  have hn3 : ∀ a b : Nat, ¬ (a = 10 ∧ b = 0) → h3 (a, b) = hb2 (a, b) := fun a b hn => by
    rw [← hh3]
    exact zup_n (zn (by omega)) rfl
  have hz3 : ∀ a b : Nat, ¬ (a = 10 ∧ b = 0 ∨ a = 11 ∧ b = 0 ∨ a = 13 ∧ b = 0 ∨ a = 15 ∧ b = 0) → h3 (a, b) = h (a, b) := fun a b hn => (hn3 a b (by omega)).trans ((hc2 a b (by omega)).trans (hz2 a b (by omega)))
  have ra0_d2 := ra0_c2.fr (fun a b z => hn3 a b (by omega))
  have ra1_d2 := ra1_c2.fr (fun a b z => hn3 a b (by omega))
  have ra2_d2 := ra2.fr (fun a b z => hn3 a b (by omega))
  refine zX.sn 1 (pc2 := 38) (l2 := [(0, .inr (10, 0))]) (st2 := [.inr (10, 0)]) rfl ?_
  refine zX.new (2, 0) ⟨rfl, rfl⟩ ((hz3 _ _ (by omega)).trans (hfr 2 0 (by omega) (by omega))) (by omega) ?_
  show zX _ 99 41 [(0, .inr (10, 0))] [.inr (2, 0), .inr (10, 0)] ((((c + 1) + 1) + 1) + 1) ((((s + 3) + 3) + 3) + 2) (xup h3 (2, 0) (.inl (3, [.inl .null, zi 0]))) _
  generalize hho : xup h3 (2, 0) (.inl (3, [.inl .null, zi 0])) = ho
  have hso : ho (2, 0) = some (.inl (3, [.inl .null, zi 0])) := by
    rw [← hho]
    exact zup_s
  have hno : ∀ a b : Nat, ¬ (a = 2 ∧ b = 0) → ho (a, b) = h3 (a, b) := fun a b hn => by
    rw [← hho]
    exact zup_n (zn (by omega)) rfl
  refine zX.sn 1 (pc2 := 42) (l2 := [(0, .inr (10, 0))]) (st2 := [.inr (2, 0), .inr (2, 0), .inr (10, 0)]) rfl ?_
  refine zX.call (mid2 := 10) (as := [.inr (2, 0)]) (rest := [.inr (2, 0), .inr (10, 0)]) ⟨rfl, rfl⟩ (fun _ => rfl) rfl ⟨Nat.le_of_ble_eq_true rfl, Nat.le_of_ble_eq_true rfl⟩ ?_
  refine s_outInit (d := d + 7) hso (fun M => (hno _ _ (by omega)).trans ((hz3 _ _ (by omega)).trans (hfr 3 M (by omega) (by omega)))) (fun hp ro mo => ?_)
  show zX _ 99 45 [(0, .inr (10, 0))] [.inr (2, 0), .inr (10, 0)] (((((c + 1) + 1) + 1) + 1) + 1) (((((s + 3) + 3) + 3) + 2) + 64) _ _
  have hco : ∀ a b : Nat, ¬ (a = 2 ∧ b = 0 ∨ a = 3 ∧ b = 64) → hp (a, b) = h3 (a, b) := fun a b hn => (mo a b hn).trans (hno a b (by omega))
  have ra0_co := ra0_d2.fr (fun a b z => hco a b (by omega))
  have ra1_co := ra1_d2.fr (fun a b z => hco a b (by omega))
  have ra2_co := ra2_d2.fr (fun a b z => hco a b (by omega))
  have hobo := (hco 10 0 (by omega)).trans hs3
  refine zX.putf ⟨rfl, rfl⟩ hobo rfl (by omega) rfl ?_
  show zX _ 99 48 [(0, .inr (10, 0))] [] (((((c + 1) + 1) + 1) + 1) + 1) (((((s + 3) + 3) + 3) + 2) + 64) (xup hp (10, 0) (.inl (10, [.inr (11, 0), .inr (13, 0), .inr (15, 0), .inr (2, 0), .inl .null, .inl .null, zi 0, zi 0, zi 0, zi 0, zi 0, zi 0, zi 0]))) _
  generalize hh4 : xup hp (10, 0) (.inl (10, [.inr (11, 0), .inr (13, 0), .inr (15, 0), .inr (2, 0), .inl .null, .inl .null, zi 0, zi 0, zi 0, zi 0, zi 0, zi 0, zi 0])) = h4
  have hs4 : h4 (10, 0) = some (.inl (10, [.inr (11, 0), .inr (13, 0), .inr (15, 0), .inr (2, 0), .inl .null, .inl .null, zi 0, zi 0, zi 0, zi 0, zi 0, zi 0, zi 0])) := by
    rw [← hh4]
    exact zup_s
  have hn4 : ∀ a b : Nat, ¬ (a = 10 ∧ b = 0) → h4 (a, b) = hp (a, b) := fun a b hn => by
    rw [← hh4]
    exact zup_n (zn (by omega)) rfl
  have hz4 : ∀ a b : Nat, ¬ (a = 10 ∧ b = 0 ∨ a = 11 ∧ b = 0 ∨ a = 13 ∧ b = 0 ∨ a = 15 ∧ b = 0 ∨ a = 2 ∧ b = 0 ∨ a = 3 ∧ b = 64) → h4 (a, b) = h (a, b) := fun a b hn => (hn4 a b (by omega)).trans ((hco a b (by omega)).trans (hz3 a b (by omega)))
  have ra0_do := ra0_co.fr (fun a b z => hn4 a b (by omega))
  have ra1_do := ra1_co.fr (fun a b z => hn4 a b (by omega))
  have ra2_do := ra2_co.fr (fun a b z => hn4 a b (by omega))
  have ro_do := ro.fr (fun a b z => hn4 a b (by omega))
  refine zX.sn 1 (pc2 := 49) (l2 := [(0, .inr (10, 0))]) (st2 := [.inr (10, 0)]) rfl ?_
  refine zX.sn 1 (pc2 := 51) (l2 := [(0, .inr (10, 0))]) (st2 := [zi 8, .inr (10, 0)]) rfl ?_
  refine zX.newa (n := 8) (17, 0) ⟨rfl, rfl⟩ ((hz4 _ _ (by omega)).trans (hfr 17 0 (by omega) (by omega))) (by omega) rfl (by omega) ?_
  show zX _ 99 53 [(0, .inr (10, 0))] [.inr (17, 0), .inr (10, 0)] ((((((c + 1) + 1) + 1) + 1) + 1) + 1) ((((((s + 3) + 3) + 3) + 2) + 64) + 8) (xup h4 (17, 0) (.inr (0, 8, zA (fun _ => 0)))) _
  generalize hhw17 : xup h4 (17, 0) (.inr (0, 8, zA (fun _ => 0))) = hw17
  have hsw17 : hw17 (17, 0) = some (.inr (0, 8, zA (fun _ => 0))) := by
    rw [← hhw17]
    exact zup_s
  have hnw17 : ∀ a b : Nat, ¬ (a = 17 ∧ b = 0) → hw17 (a, b) = h4 (a, b) := fun a b hn => by
    rw [← hhw17]
    exact zup_n (zn (by omega)) rfl
  have ra0_w17 := ra0_do.fr (fun a b z => hnw17 a b (by omega))
  have ra1_w17 := ra1_do.fr (fun a b z => hnw17 a b (by omega))
  have ra2_w17 := ra2_do.fr (fun a b z => hnw17 a b (by omega))
  have ro_w17 := ro_do.fr (fun a b z => hnw17 a b (by omega))
  have hobw17 := (hnw17 10 0 (by omega)).trans hs4
  refine zX.putf ⟨rfl, rfl⟩ hobw17 rfl (by omega) rfl ?_
  show zX _ 99 56 [(0, .inr (10, 0))] [] ((((((c + 1) + 1) + 1) + 1) + 1) + 1) ((((((s + 3) + 3) + 3) + 2) + 64) + 8) (xup hw17 (10, 0) (.inl (10, [.inr (11, 0), .inr (13, 0), .inr (15, 0), .inr (2, 0), .inr (17, 0), .inl .null, zi 0, zi 0, zi 0, zi 0, zi 0, zi 0, zi 0]))) _
  generalize hh5 : xup hw17 (10, 0) (.inl (10, [.inr (11, 0), .inr (13, 0), .inr (15, 0), .inr (2, 0), .inr (17, 0), .inl .null, zi 0, zi 0, zi 0, zi 0, zi 0, zi 0, zi 0])) = h5
  have hs5 : h5 (10, 0) = some (.inl (10, [.inr (11, 0), .inr (13, 0), .inr (15, 0), .inr (2, 0), .inr (17, 0), .inl .null, zi 0, zi 0, zi 0, zi 0, zi 0, zi 0, zi 0])) := by
    rw [← hh5]
    exact zup_s
  have hn5 : ∀ a b : Nat, ¬ (a = 10 ∧ b = 0) → h5 (a, b) = hw17 (a, b) := fun a b hn => by
    rw [← hh5]
    exact zup_n (zn (by omega)) rfl
  have hz5 : ∀ a b : Nat, ¬ (a = 10 ∧ b = 0 ∨ a = 11 ∧ b = 0 ∨ a = 13 ∧ b = 0 ∨ a = 15 ∧ b = 0 ∨ a = 2 ∧ b = 0 ∨ a = 3 ∧ b = 64 ∨ a = 17 ∧ b = 0) → h5 (a, b) = h (a, b) := fun a b hn => (hn5 a b (by omega)).trans ((hnw17 a b (by omega)).trans (hz4 a b (by omega)))
  have ra0_e17 := ra0_w17.fr (fun a b z => hn5 a b (by omega))
  have ra1_e17 := ra1_w17.fr (fun a b z => hn5 a b (by omega))
  have ra2_e17 := ra2_w17.fr (fun a b z => hn5 a b (by omega))
  have ro_e17 := ro_w17.fr (fun a b z => hn5 a b (by omega))
  have hsw17_e17 := (hn5 _ _ (by omega)).trans hsw17
  refine zX.sn 1 (pc2 := 57) (l2 := [(0, .inr (10, 0))]) (st2 := [.inr (10, 0)]) rfl ?_
  refine zX.sn 1 (pc2 := 58) (l2 := [(0, .inr (10, 0))]) (st2 := [zi 5, .inr (10, 0)]) rfl ?_
  refine zX.newa (n := 5) (18, 0) ⟨rfl, rfl⟩ ((hz5 _ _ (by omega)).trans (hfr 18 0 (by omega) (by omega))) (by omega) rfl (by omega) ?_
  show zX _ 99 60 [(0, .inr (10, 0))] [.inr (18, 0), .inr (10, 0)] (((((((c + 1) + 1) + 1) + 1) + 1) + 1) + 1) (((((((s + 3) + 3) + 3) + 2) + 64) + 8) + 5) (xup h5 (18, 0) (.inr (0, 5, zI (fun _ => 0)))) _
  generalize hhw18 : xup h5 (18, 0) (.inr (0, 5, zI (fun _ => 0))) = hw18
  have hsw18 : hw18 (18, 0) = some (.inr (0, 5, zI (fun _ => 0))) := by
    rw [← hhw18]
    exact zup_s
  have hnw18 : ∀ a b : Nat, ¬ (a = 18 ∧ b = 0) → hw18 (a, b) = h5 (a, b) := fun a b hn => by
    rw [← hhw18]
    exact zup_n (zn (by omega)) rfl
  have ra0_w18 := ra0_e17.fr (fun a b z => hnw18 a b (by omega))
  have ra1_w18 := ra1_e17.fr (fun a b z => hnw18 a b (by omega))
  have ra2_w18 := ra2_e17.fr (fun a b z => hnw18 a b (by omega))
  have ro_w18 := ro_e17.fr (fun a b z => hnw18 a b (by omega))
  have hsw17_w18 := (hnw18 _ _ (by omega)).trans hsw17_e17
  have hobw18 := (hnw18 10 0 (by omega)).trans hs5
  refine zX.putf ⟨rfl, rfl⟩ hobw18 rfl (by omega) rfl ?_
  show zX _ 99 63 [(0, .inr (10, 0))] [] (((((((c + 1) + 1) + 1) + 1) + 1) + 1) + 1) (((((((s + 3) + 3) + 3) + 2) + 64) + 8) + 5) (xup hw18 (10, 0) (.inl (10, [.inr (11, 0), .inr (13, 0), .inr (15, 0), .inr (2, 0), .inr (17, 0), .inr (18, 0), zi 0, zi 0, zi 0, zi 0, zi 0, zi 0, zi 0]))) _
  generalize hh6 : xup hw18 (10, 0) (.inl (10, [.inr (11, 0), .inr (13, 0), .inr (15, 0), .inr (2, 0), .inr (17, 0), .inr (18, 0), zi 0, zi 0, zi 0, zi 0, zi 0, zi 0, zi 0])) = h6
  have hs6 : h6 (10, 0) = some (.inl (10, [.inr (11, 0), .inr (13, 0), .inr (15, 0), .inr (2, 0), .inr (17, 0), .inr (18, 0), zi 0, zi 0, zi 0, zi 0, zi 0, zi 0, zi 0])) := by
    rw [← hh6]
    exact zup_s
  have hn6 : ∀ a b : Nat, ¬ (a = 10 ∧ b = 0) → h6 (a, b) = hw18 (a, b) := fun a b hn => by
    rw [← hh6]
    exact zup_n (zn (by omega)) rfl
  have hz6 : ∀ a b : Nat, ¬ (a = 10 ∧ b = 0 ∨ a = 11 ∧ b = 0 ∨ a = 13 ∧ b = 0 ∨ a = 15 ∧ b = 0 ∨ a = 2 ∧ b = 0 ∨ a = 3 ∧ b = 64 ∨ a = 17 ∧ b = 0 ∨ a = 18 ∧ b = 0) → h6 (a, b) = h (a, b) := fun a b hn => (hn6 a b (by omega)).trans ((hnw18 a b (by omega)).trans (hz5 a b (by omega)))
  have ra0_e18 := ra0_w18.fr (fun a b z => hn6 a b (by omega))
  have ra1_e18 := ra1_w18.fr (fun a b z => hn6 a b (by omega))
  have ra2_e18 := ra2_w18.fr (fun a b z => hn6 a b (by omega))
  have ro_e18 := ro_w18.fr (fun a b z => hn6 a b (by omega))
  have hsw17_e18 := (hn6 _ _ (by omega)).trans hsw17_w18
  have hsw18_e18 := (hn6 _ _ (by omega)).trans hsw18
  refine zX.sn 1 (pc2 := 64) (l2 := [(0, .inr (10, 0))]) (st2 := [zi 0]) rfl ?_
  refine zX.sn 1 (pc2 := 65) (l2 := [(1, zi 0), (0, .inr (10, 0))]) (st2 := []) rfl ?_
  refine zX.re [(0, .inr (10, 0)), (1, zi 0)] [1, 0] [1, 0] rfl rfl (by decide) ?_
  refine l_parts (d := d) 3 0 h6 0 _ _ rfl hs6 ((hz6 _ _ (by omega)).trans hemp) ra0_e18 (fun i hi => absurd hi (by omega)) (fun a b z1 z2 => (hz6 _ _ (by omega)).trans (hfr a b (by omega) (by omega))) (fun h8 cap8 c8 s8 g1 g2 g3 g4 => ?_)
  refine l_work (d := d + 8) 8 0 h8 rfl ((g3 _ _ (by omega)).trans hs6) ((g3 _ _ (by omega)).trans ?_) (fun h9 e1 e2 => ?_)
  · have hz : zwk 0 = fun _ => 0 := funext (fun j => if_neg (by omega))
    rw [hz]
    exact hsw17_e18
  have hb9 : ∀ a b : Nat, ¬ (5 ≤ a ∧ a < 8 ∨ 11 ≤ a ∧ a < 13 ∨ a = 17 ∧ b = 0) → h9 (a, b) = h6 (a, b) := fun a b hn => (e2 a b (by omega)).trans (g3 a b (by omega))
  have hcap : cap8 ≤ 108 := by
    obtain ⟨-, -, -, -, -, -, -, zc⟩ := g1
    exact zc
  refine q h9 c8 s8 ((hb9 _ _ (by omega)).trans hs6) ⟨⟨cap8, g1.fr (fun a b z => e2 a b (by omega))⟩, fun i hi => ?_⟩ (ra1_e18.fr (fun a b z => hb9 a b (by omega))) (ra2_e18.fr (fun a b z => hb9 a b (by omega))) (ro_e18.fr (fun a b z => hb9 a b (by omega))) e1 ((hb9 _ _ (by omega)).trans hsw18_e18) (fun a b z => (hb9 a b (by omega)).trans (hz6 a b (by omega))) (by omega)
  obtain ⟨p1, p2, p3, p4⟩ := g2 i hi
  exact ⟨(e2 _ _ (by omega)).trans p1, p2.fr (fun a b z => e2 a b (by omega)), fun x hx => (by cases hx), p4⟩
end YD9m
