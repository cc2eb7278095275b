set_option maxRecDepth 100000
section YD9c
variable {d : Nat} {Q : xR → Nat → Nat → xH → Prop}
def zaS (P : Nat → zPT) (p x : Nat) : Nat → zPT := fun j => if j = p then ((P p).1, (P p).2.1, x, (P p).2.2.2) else P j
/-- a slack is set while there are no views -/
theorem s_setSlack {capv p x c s : Nat} {fs : List xV} {P : Nat → zPT} {h : xH} (hp : p < 3) (hx : x ≤ 99) (hf : h (10, 0) = some (.inl (10, zFn fs))) (hA : zAL h 13 0 capv []) (hP : zPs h P)
    (q : ∀ h1 : xH, zPs h1 (zaS P p x) → (∀ a b : Nat, ¬ (a = 5) → h1 (a, b) = h (a, b)) → Q (.inl (some (zi ((P p).2.2.1 : Int)))) c s h1) : zX (d + 4) 102 0 [(0, .inr (10, 0)), (1, zi (p : Int)), (2, zi (x : Int))] [] c s h Q := by
  obtain ⟨⟨cap, hq⟩, hPt⟩ := id hP
  obtain ⟨b1, b2, b3, b4, b5, b6, b7⟩ := hPt p hp
  refine zX.sn 1 (pc2 := 1) (l2 := [(0, .inr (10, 0)), (1, zi (p : Int)), (2, zi (x : Int))]) (st2 := [.inr (10, 0)]) rfl ?_
  refine zX.sn 1 (pc2 := 2) (l2 := [(0, .inr (10, 0)), (1, zi (p : Int)), (2, zi (x : Int))]) (st2 := [zi (p : Int), .inr (10, 0)]) rfl ?_
  refine zX.call (mid2 := 129) (as := [.inr (10, 0), zi (p : Int)]) (rest := []) ⟨rfl, rfl⟩ (fun _ => rfl) (zX.inv rfl hf rfl rfl) ⟨Nat.le_of_ble_eq_true rfl, Nat.le_of_ble_eq_true rfl⟩ ?_
  refine s_part1 (d := d) hf hP hp ?_
  show zX _ 102 5 [(0, .inr (10, 0)), (1, zi (p : Int)), (2, zi (x : Int))] [.inr (5, p)] c s _ _
  refine zX.sn 1 (pc2 := 6) (l2 := [(3, .inr (5, p)), (0, .inr (10, 0)), (1, zi (p : Int)), (2, zi (x : Int))]) (st2 := []) rfl ?_
  refine zX.sn 1 (pc2 := 7) (l2 := [(3, .inr (5, p)), (0, .inr (10, 0)), (1, zi (p : Int)), (2, zi (x : Int))]) (st2 := [zi (x : Int)]) rfl ?_
  refine zX.icmp0 (tgt := 16) ⟨rfl, rfl⟩ rfl (by omega) (fun (zz : (x : Int) < 0) => absurd zz (by omega)) (fun _ => ?_)
  refine zX.sn 1 (pc2 := 11) (l2 := [(3, .inr (5, p)), (0, .inr (10, 0)), (1, zi (p : Int)), (2, zi (x : Int))]) (st2 := [zi (x : Int)]) rfl ?_
  refine zX.sn 1 (pc2 := 13) (l2 := [(3, .inr (5, p)), (0, .inr (10, 0)), (1, zi (p : Int)), (2, zi (x : Int))]) (st2 := [zi 99, zi (x : Int)]) rfl ?_
  refine zX.icmp (tgt := 26) ⟨rfl, rfl⟩ rfl (by omega) (by omega) (fun _ => ?_) (fun (zz : (99 : Int) < (x : Int)) => absurd zz (by omega))
  refine zX.sn 1 (pc2 := 27) (l2 := [(3, .inr (5, p)), (0, .inr (10, 0)), (1, zi (p : Int)), (2, zi (x : Int))]) (st2 := [.inr (10, 0)]) rfl ?_
  refine zX.getf ⟨rfl, rfl⟩ hf rfl rfl ?_
  refine zX.call (mid2 := 151) (as := [.inr (13, 0)]) (rest := []) ⟨rfl, rfl⟩ (fun _ => rfl) (zX.invA rfl hA rfl rfl) ⟨Nat.le_of_ble_eq_true rfl, Nat.le_of_ble_eq_true rfl⟩ ?_
  refine s_isEmpty hA (fun z => absurd rfl z) (fun _ => ?_)
  show zX _ 102 33 [(3, .inr (5, p)), (0, .inr (10, 0)), (1, zi (p : Int)), (2, zi (x : Int))] [zi 1] c s _ _
  refine zX.icmp0 (tgt := 46) ⟨rfl, rfl⟩ rfl (by omega) (fun _ => ?_) (fun (zz : 1 = 0) => absurd zz (by omega))
  refine zX.sn 1 (pc2 := 47) (l2 := [(3, .inr (5, p)), (0, .inr (10, 0)), (1, zi (p : Int)), (2, zi (x : Int))]) (st2 := [.inr (5, p)]) rfl ?_
  refine zX.getf ⟨rfl, rfl⟩ b1 rfl rfl ?_
  refine zX.sn 1 (pc2 := 52) (l2 := [(4, zi ((P p).2.2.1 : Int)), (3, .inr (5, p)), (0, .inr (10, 0)), (1, zi (p : Int)), (2, zi (x : Int))]) (st2 := []) rfl ?_
  refine zX.sn 1 (pc2 := 53) (l2 := [(4, zi ((P p).2.2.1 : Int)), (3, .inr (5, p)), (0, .inr (10, 0)), (1, zi (p : Int)), (2, zi (x : Int))]) (st2 := [.inr (5, p)]) rfl ?_
  refine zX.sn 1 (pc2 := 54) (l2 := [(4, zi ((P p).2.2.1 : Int)), (3, .inr (5, p)), (0, .inr (10, 0)), (1, zi (p : Int)), (2, zi (x : Int))]) (st2 := [zi (x : Int), .inr (5, p)]) rfl ?_
  refine zX.putf ⟨rfl, rfl⟩ b1 rfl (by omega) rfl ?_
  show zX _ 102 57 [(4, zi ((P p).2.2.1 : Int)), (3, .inr (5, p)), (0, .inr (10, 0)), (1, zi (p : Int)), (2, zi (x : Int))] [] c s (xup h (5, p) (.inl (4, [.inr (6, p), zi ((P p).1 : Int), zi (P p).2.1, zi (x : Int)]))) _
  generalize hh3 : xup h (5, p) (.inl (4, [.inr (6, p), zi ((P p).1 : Int), zi (P p).2.1, zi (x : Int)])) = h3
  have hs : h3 (5, p) = some (.inl (4, [.inr (6, p), zi ((P p).1 : Int), zi (P p).2.1, zi (x : Int)])) := by
    rw [← hh3]
    exact zup_s
  have hn3 : ∀ a b : Nat, ¬ (a = 5 ∧ b = p) → h3 (a, b) = h (a, b) := fun a b hn => by
    rw [← hh3]
    exact zup_n (zn (by omega)) rfl
  refine zX.sn 1 (pc2 := 59) (l2 := [(4, zi ((P p).2.2.1 : Int)), (3, .inr (5, p)), (0, .inr (10, 0)), (1, zi (p : Int)), (2, zi (x : Int))]) (st2 := [zi ((P p).2.2.1 : Int)]) rfl ?_
  refine zX.ret rfl rfl ?_
  refine q h3 ⟨⟨cap, hq.fr (fun a b z => hn3 a b (by omega))⟩, fun j hj => ?_⟩ (fun a b hn => hn3 a b (by omega))
  obtain ⟨g1, g2, g3, g4⟩ := hPt j hj
  have ks : zKs h3 (P j).2.2.2.2 := fun y hy => ⟨(g3 y hy).1, (hn3 _ _ (by omega)).trans (g3 y hy).2⟩
  by_cases hjp : j = p
  · subst hjp
    rw [show zaS P j x j = ((P j).1, (P j).2.1, x, (P j).2.2.2) from if_pos rfl]
    exact ⟨hs, g2.fr (fun a b z => hn3 a b (by omega)), ks, b4, hx, b6, b7⟩
  · rw [show zaS P p x j = P j from if_neg hjp]
    exact ⟨(hn3 _ _ (by omega)).trans g1, g2.fr (fun a b z => hn3 a b (by omega)), ks, g4⟩
end YD9c
