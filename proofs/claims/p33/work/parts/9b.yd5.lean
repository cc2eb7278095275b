set_option maxRecDepth 100000
section YD9b
variable {d : Nat} {Q : xR → Nat → Nat → xH → Prop}
theorem s_workerOf {k c s : Nat} {fs : List xV} {h : xH} {wk : Nat → Int} (hk : k < 8) (hf : h (10, 0) = some (.inl (10, zFn fs))) (hw : h (17, 0) = some (.inr (0, 8, zA wk))) (q : Q (.inl (some (zi (wk k)))) c s h) : zX (d + 1) 124 0 [(0, .inr (10, 0)), (1, zi (k : Int))] [] c s h Q := by
  refine zX.sn 1 (pc2 := 1) (l2 := [(0, .inr (10, 0)), (1, zi (k : Int))]) (st2 := [.inr (10, 0)]) rfl ?_
  refine zX.sn 1 (pc2 := 2) (l2 := [(0, .inr (10, 0)), (1, zi (k : Int))]) (st2 := [zi (k : Int), .inr (10, 0)]) rfl ?_
  refine zX.call (mid2 := 131) (as := [.inr (10, 0), zi (k : Int)]) (rest := []) ⟨rfl, rfl⟩ (fun _ => rfl) (zX.inv rfl hf rfl rfl) ⟨Nat.le_of_ble_eq_true rfl, Nat.le_of_ble_eq_true rfl⟩ ?_
  refine s_needK hk hf hw ?_
  show zX _ 124 5 [(0, .inr (10, 0)), (1, zi (k : Int))] [] c s _ _
  refine zX.sn 1 (pc2 := 6) (l2 := [(0, .inr (10, 0)), (1, zi (k : Int))]) (st2 := [.inr (10, 0)]) rfl ?_
  refine zX.getf ⟨rfl, rfl⟩ hf rfl rfl ?_
  refine zX.sn 1 (pc2 := 10) (l2 := [(0, .inr (10, 0)), (1, zi (k : Int))]) (st2 := [zi (k : Int), .inr (17, 0)]) rfl ?_
  refine zX.iald (j := k) ⟨rfl, rfl⟩ hw rfl hk (by omega) ?_
  show zX _ 124 11 [(0, .inr (10, 0)), (1, zi (k : Int))] [zi (wk k)] c s _ _
  refine zX.ret rfl rfl ?_
  exact q
theorem s_moveKey {N capv k w c s : Nat} {fs : List xV} {L : zVL} {out : List Int64} {K : zKp} {h : xH} {wk : Nat → Int} (hk : k < 8) (hwl : w < 3) (hw : h (17, 0) = some (.inr (0, 8, zA wk))) (hf : h (10, 0) = some (.inl (10, zFn fs))) (hA : zAL h 13 0 capv (zVn L)) (hV : zVa h N K L out)
    (q : ∀ h1 : xH, h1 (17, 0) = some (.inr (0, 8, zA (zfi wk k (w : Int)))) → (∀ a b : Nat, ¬ (a = 17 ∧ b = 0) → h1 (a, b) = h (a, b)) → Q (.inl (some (.inl (.int (zhk k L 0))))) c s h1) : zX (d + 4) 123 0 [(0, .inr (10, 0)), (1, zi (k : Int)), (2, zi (w : Int))] [] c s h Q := by
  refine zX.sn 1 (pc2 := 1) (l2 := [(0, .inr (10, 0)), (1, zi (k : Int)), (2, zi (w : Int))]) (st2 := [.inr (10, 0)]) rfl ?_
  refine zX.sn 1 (pc2 := 2) (l2 := [(0, .inr (10, 0)), (1, zi (k : Int)), (2, zi (w : Int))]) (st2 := [zi (k : Int), .inr (10, 0)]) rfl ?_
  refine zX.call (mid2 := 131) (as := [.inr (10, 0), zi (k : Int)]) (rest := []) ⟨rfl, rfl⟩ (fun _ => rfl) (zX.inv rfl hf rfl rfl) ⟨Nat.le_of_ble_eq_true rfl, Nat.le_of_ble_eq_true rfl⟩ ?_
  refine s_needK hk hf hw ?_
  show zX _ 123 5 [(0, .inr (10, 0)), (1, zi (k : Int)), (2, zi (w : Int))] [] c s _ _
  refine zX.sn 1 (pc2 := 6) (l2 := [(0, .inr (10, 0)), (1, zi (k : Int)), (2, zi (w : Int))]) (st2 := [.inr (10, 0)]) rfl ?_
  refine zX.sn 1 (pc2 := 7) (l2 := [(0, .inr (10, 0)), (1, zi (k : Int)), (2, zi (w : Int))]) (st2 := [zi (w : Int), .inr (10, 0)]) rfl ?_
  refine zX.call (mid2 := 133) (as := [.inr (10, 0), zi (w : Int)]) (rest := []) ⟨rfl, rfl⟩ (fun _ => rfl) (zX.inv rfl hf rfl rfl) ⟨Nat.le_of_ble_eq_true rfl, Nat.le_of_ble_eq_true rfl⟩ ?_
  refine s_needW hwl ?_
  show zX _ 123 10 [(0, .inr (10, 0)), (1, zi (k : Int)), (2, zi (w : Int))] [] c s _ _
  refine zX.sn 1 (pc2 := 11) (l2 := [(0, .inr (10, 0)), (1, zi (k : Int)), (2, zi (w : Int))]) (st2 := [.inr (10, 0)]) rfl ?_
  refine zX.getf ⟨rfl, rfl⟩ hf rfl rfl ?_
  refine zX.sn 1 (pc2 := 15) (l2 := [(0, .inr (10, 0)), (1, zi (k : Int)), (2, zi (w : Int))]) (st2 := [zi (k : Int), .inr (17, 0)]) rfl ?_
  refine zX.sn 1 (pc2 := 16) (l2 := [(0, .inr (10, 0)), (1, zi (k : Int)), (2, zi (w : Int))]) (st2 := [zi (w : Int), zi (k : Int), .inr (17, 0)]) rfl ?_
  refine zX.Aast (j := k) ⟨rfl, rfl⟩ hw (by decide) rfl hk (by omega) ?_
  show zX _ 123 17 [(0, .inr (10, 0)), (1, zi (k : Int)), (2, zi (w : Int))] [] c s _ _
  generalize hh1 : xup h (17, 0) (.inr (0, 8, zA (zfi wk k (w : Int)))) = h1
  have hs : h1 (17, 0) = some (.inr (0, 8, zA (zfi wk k (w : Int)))) := by
    rw [← hh1]
    exact zup_s
  have hn : ∀ a b : Nat, ¬ (a = 17 ∧ b = 0) → h1 (a, b) = h (a, b) := fun a b hn => by
    rw [← hh1]
    exact zup_n (zn (by omega)) rfl
  refine zX.sn 1 (pc2 := 18) (l2 := [(0, .inr (10, 0)), (1, zi (k : Int)), (2, zi (w : Int))]) (st2 := [.inr (10, 0)]) rfl ?_
  refine zX.sn 1 (pc2 := 19) (l2 := [(0, .inr (10, 0)), (1, zi (k : Int)), (2, zi (w : Int))]) (st2 := [zi (k : Int), .inr (10, 0)]) rfl ?_
  refine zX.call (mid2 := 144) (as := [.inr (10, 0), zi (k : Int)]) (rest := []) ⟨rfl, rfl⟩ (fun _ => rfl) (zX.inv rfl ((hn _ _ (by omega)).trans hf) rfl rfl) ⟨Nat.le_of_ble_eq_true rfl, Nat.le_of_ble_eq_true rfl⟩ ?_
  refine s_hok (d := d) hk ((hn _ _ (by omega)).trans hf) (hA.fr (fun a b z => hn a b (by omega))) (hV.mv (fun a b z => hn a b (by omega))) ?_
  show zX _ 123 22 [(0, .inr (10, 0)), (1, zi (k : Int)), (2, zi (w : Int))] [.inl (.int (zhk k L 0))] c s _ _
  refine zX.ret rfl rfl ?_
  exact q h1 hs hn
end YD9b
