set_option maxRecDepth 100000
section YC95
variable {d : Nat} {Q : xR → Nat → Nat → xH → Prop}
theorem zaR_0 {P : Nat → zPT} : zaR P 0 = P := funext (fun p => if_neg (by omega))
/-- all that is not promised is forgotten -/
theorem s_empty {n N cap capv c s : Nat} {fs : List xV} {P : Nat → zPT} {J : List zE} {L : zVL} {out : List Int64} {K : zKp} {h : xH} (hn : n ≤ J.length) (hH : ∀ (j : Nat) (C : zCf) (S : zSt), L[j]? = some (C, S) → ∀ t, 8 ≤ t → S.2.1 t = 0) (hf : h (10, 0) = some (.inl (10, zFn fs))) (hA : zAL h 13 0 capv (zVn L)) (hV : zVa h N K L out) (hP : zPs h P) (hJ : zJr h cap J)
    (q : ∀ h1 : xH, zVa h1 N K (zaB out L.length 0 L) [] → (zaB out L.length 0 L).length = L.length → zPs h1 (zaR P 3) → zJr h1 cap (J.take n) → (∀ a b : Nat, ¬ ((20 ≤ a ∧ a < 60) ∨ (2 ≤ a ∧ a < 4) ∨ a = 5 ∨ (15 ≤ a ∧ a < 17)) → h1 (a, b) = h (a, b)) → Q (.inl none) c s h1) : zX (d + 4) 140 0 [(0, .inr (10, 0)), (1, zi (n : Int))] [] c s h Q := by
  have hl := hJ.2.2
  have hnl : (zNm J).length = J.length := List.length_map _
  refine zX.sn 1 (pc2 := 1) (l2 := [(0, .inr (10, 0)), (1, zi (n : Int))]) (st2 := [.inr (10, 0)]) rfl ?_
  refine zX.getf ⟨rfl, rfl⟩ hf rfl rfl ?_
  refine zX.call (mid2 := 150) (as := [.inr (15, 0)]) (rest := []) ⟨rfl, rfl⟩ (fun _ => rfl) (zX.invA rfl hJ.1 rfl rfl) ⟨Nat.le_of_ble_eq_true rfl, Nat.le_of_ble_eq_true rfl⟩ ?_
  refine s_size hJ.1 ?_
  show zX _ 140 7 [(0, .inr (10, 0)), (1, zi (n : Int))] [zi ((zNm J).length : Int)] c s _ _
  rw [hnl]
  refine zX.sn 1 (pc2 := 8) (l2 := [(0, .inr (10, 0)), (1, zi (n : Int))]) (st2 := [zi 1, zi (J.length : Int)]) rfl ?_
  refine zX.isub ⟨rfl, rfl⟩ ?_
  refine zX.sn 1 (pc2 := 10) (l2 := [(2, zi ((J.length : Int) - 1)), (0, .inr (10, 0)), (1, zi (n : Int))]) (st2 := []) rfl ?_
  refine zX.re [(0, .inr (10, 0)), (1, zi (n : Int)), (2, zi ((J.length : Int) - 1))] [1, 2, 0] [2, 0, 1] rfl rfl (by decide) ?_
  refine l_eb1 (d := d + 1) (J.length - n) J h (by omega) hf hJ (fun h1 a1 a2 => ?_)
  refine zX.sn 1 (pc2 := 35) (l2 := [(0, .inr (10, 0))]) (st2 := [zi 0]) rfl ?_
  refine zX.sn 1 (pc2 := 36) (l2 := [(2, zi 0), (0, .inr (10, 0))]) (st2 := []) rfl ?_
  refine zX.re [(0, .inr (10, 0)), (2, zi 0)] [1, 0] [2, 0] rfl rfl (by decide) ?_
  refine l_eb2 (d := d + 1) (P := P) 3 0 h1 rfl ((a2 _ _ (by omega)).trans hf) (by rw [zaR_0]; exact hP.mv (fun a b z => a2 a b (by omega))) (fun h2 b1 b2 => ?_)
  have hF2 : ∀ a b : Nat, ¬ (a = 5 ∨ (15 ≤ a ∧ a < 17)) → h2 (a, b) = h (a, b) := fun a b z => (b2 a b (by omega)).trans (a2 a b (by omega))
  refine zX.sn 1 (pc2 := 76) (l2 := [(0, .inr (10, 0))]) (st2 := [zi 0]) rfl ?_
  refine zX.sn 1 (pc2 := 77) (l2 := [(2, zi 0), (0, .inr (10, 0))]) (st2 := []) rfl ?_
  refine zX.re [(0, .inr (10, 0)), (2, zi 0)] [1, 0] [2, 0] rfl rfl (by decide) ?_
  refine l_eb3 (d := d) L.length 0 L h2 (by omega) (fun j C S hj _ => hH j C S hj) ((hF2 _ _ (by omega)).trans hf) (hA.fr (fun a b z => hF2 a b (by omega))) (hV.mv (fun a b z => hF2 a b (by omega))) (fun h3 c1 c2 c3 => ?_)
  have hf3 : h3 (10, 0) = some (.inl (10, zFn fs)) := (c3 _ _ (by omega)).trans ((hF2 _ _ (by omega)).trans hf)
  obtain ⟨fo, o1, o2, o3, o4, o5, o6⟩ := c1.1
  refine zX.sn 1 (pc2 := 109) (l2 := [(0, .inr (10, 0))]) (st2 := [.inr (10, 0)]) rfl ?_
  refine zX.getf ⟨rfl, rfl⟩ hf3 rfl rfl ?_
  refine zX.sn 1 (pc2 := 113) (l2 := [(0, .inr (10, 0))]) (st2 := [zi 0, .inr (2, 0)]) rfl ?_
  refine zX.putf ⟨rfl, rfl⟩ o1 rfl (by decide) rfl ?_
  show zX _ 140 116 [(0, .inr (10, 0))] [] c s (xup h3 (2, 0) (.inl (3, [.inr (3, N), zi 0]))) _
  refine zX.ret rfl rfl ?_
  have hn4 : ∀ a b : Nat, ¬ (a = 2 ∧ b = 0) → xup h3 (2, 0) (.inl (3, [.inr (3, N), zi 0])) (a, b) = h3 (a, b) := fun a b hn => zup_n (zn (by omega)) rfl
  generalize hh4 : xup h3 (2, 0) (.inl (3, [.inr (3, N), zi 0])) = h4 at hn4 ⊢
  have hs : h4 (2, 0) = some (.inl (3, [.inr (3, N), zi 0])) := by
    rw [← hh4]
    exact zup_s
  have hO : zOut h4 N [] := ⟨fo, hs, (hn4 _ _ (by omega)).trans o2, fun i x hx => (by rw [List.getElem?_nil] at hx; cases hx), fun M hM => (hn4 _ _ (by omega)).trans (o4 M hM), Nat.zero_le _, o6⟩
  have hG : ∀ a b : Nat, ¬ ((20 ≤ a ∧ a < 60) ∨ (2 ≤ a ∧ a < 4) ∨ a = 5 ∨ (15 ≤ a ∧ a < 17)) → h4 (a, b) = h (a, b) := fun a b z => (hn4 a b (by omega)).trans ((c3 a b (by omega)).trans (hF2 a b (by omega)))
  have h41 : ∀ a b : Nat, ¬ ((20 ≤ a ∧ a < 60) ∨ (2 ≤ a ∧ a < 4) ∨ a = 5) → h4 (a, b) = h1 (a, b) := fun a b z => (hn4 a b (by omega)).trans ((c3 a b (by omega)).trans (b2 a b (by omega)))
  refine q h4 ⟨hO, c1.2.1, fun j C S hj => ?_⟩ c2 (b1.mv (fun a b z => (hn4 a b (by omega)).trans (c3 a b (by omega)))) ⟨a1.1.fr (fun a b z => h41 a b (by omega)), fun x hx => ⟨(a1.2.1 x hx).1, (h41 _ _ (by omega)).trans (a1.2.1 x hx).2⟩, a1.2.2⟩ hG
  have hj5 : j < (zaB out L.length 0 L).length := (List.getElem?_eq_some_iff.mp hj).1
  have hl5 := c1.2.1
  exact (c1.2.2 j C S hj).mv (by omega) hO (fun a b z => hn4 a b (by omega))
end YC95
