set_option maxRecDepth 100000
section YD9a
variable {d : Nat} {Q : xR → Nat → Nat → xH → Prop}
theorem s_waiting {N c s pr cu pj cj : Nat} {rd ct uw : Bool} {h : xH} {out : List Int64} (hO : zOut h N out) (hf : h (10, 0) = some (.inl (10, zFn (zFf rd ct uw pr cu pj cj)))) (q : Q (.inl (some (zi ((out.length : Int) - ((if uw then cu else pr : Nat) : Int))))) c s h) : zX (d + 1) 115 0 [(0, .inr (10, 0))] [] c s h Q := by
  obtain ⟨fo, o1, o2, o3, o4, o5, o6⟩ := id hO
  refine zX.sn 1 (pc2 := 1) (l2 := [(0, .inr (10, 0))]) (st2 := [.inr (10, 0)]) rfl ?_
  refine zX.getf ⟨rfl, rfl⟩ hf rfl rfl ?_
  refine zX.getf ⟨rfl, rfl⟩ o1 rfl rfl ?_
  refine zX.sn 1 (pc2 := 8) (l2 := [(0, .inr (10, 0))]) (st2 := [.inr (10, 0), zi (out.length : Int)]) rfl ?_
  refine zX.call (mid2 := 141) (as := [.inr (10, 0)]) (rest := [zi (out.length : Int)]) ⟨rfl, rfl⟩ (fun _ => rfl) (zX.inv rfl hf rfl rfl) ⟨Nat.le_of_ble_eq_true rfl, Nat.le_of_ble_eq_true rfl⟩ ?_
  refine s_wfrom hf ?_
  show zX _ 115 11 [(0, .inr (10, 0))] [zi ((if uw then cu else pr : Nat) : Int), zi (out.length : Int)] c s _ _
  refine zX.isub ⟨rfl, rfl⟩ ?_
  refine zX.ret rfl rfl ?_
  exact q
/-- a cut begins -/
theorem s_cut {N cap c s pr cu pj cj : Nat} {rd ct : Bool} {h : xH} {out : List Int64} {J : List zE} (hO : zOut h N out) (hJ : zJr h cap J) (hf : h (10, 0) = some (.inl (10, zFn (zFf rd ct false pr cu pj cj))))
    (q : ∀ h1 : xH, h1 (10, 0) = some (.inl (10, zFn (zFf rd true true pr out.length pj J.length))) → (∀ a b : Nat, ¬ (a = 10 ∧ b = 0) → h1 (a, b) = h (a, b)) → Q (.inl (some (zi ((out.length : Int) - (pr : Int))))) c s h1) : zX (d + 1) 116 0 [(0, .inr (10, 0))] [] c s h Q := by
  have hnl : (zNm J).length = J.length := List.length_map _
  obtain ⟨fo, o1, o2, o3, o4, o5, o6⟩ := id hO
  refine zX.sn 1 (pc2 := 1) (l2 := [(0, .inr (10, 0))]) (st2 := [.inr (10, 0)]) rfl ?_
  refine zX.getf ⟨rfl, rfl⟩ hf rfl rfl ?_
  refine zX.icmp0 (x := 0) (tgt := 17) ⟨rfl, rfl⟩ rfl (by omega) (fun _ => ?_) (fun (zz : ¬ (0 : Int) = 0) => absurd rfl zz)
  refine zX.sn 1 (pc2 := 18) (l2 := [(0, .inr (10, 0))]) (st2 := [.inr (10, 0)]) rfl ?_
  refine zX.sn 1 (pc2 := 19) (l2 := [(0, .inr (10, 0))]) (st2 := [zi 1, .inr (10, 0)]) rfl ?_
  refine zX.putf ⟨rfl, rfl⟩ hf rfl (by decide) rfl ?_
  show zX _ 116 22 [(0, .inr (10, 0))] [] c s (xup h (10, 0) (.inl (10, zFn (zFf rd ct true pr cu pj cj)))) _
  refine zX.sn 1 (pc2 := 23) (l2 := [(0, .inr (10, 0))]) (st2 := [.inr (10, 0)]) rfl ?_
  refine zX.sn 1 (pc2 := 24) (l2 := [(0, .inr (10, 0))]) (st2 := [zi 1, .inr (10, 0)]) rfl ?_
  refine zX.putf ⟨rfl, rfl⟩ zup_s rfl (by decide) rfl ?_
  show zX _ 116 27 [(0, .inr (10, 0))] [] c s (xup (xup h (10, 0) _) (10, 0) (.inl (10, zFn (zFf rd true true pr cu pj cj)))) _
  generalize hh2 : xup (xup h (10, 0) _) (10, 0) (.inl (10, zFn (zFf rd true true pr cu pj cj))) = h2
  have hs2 : h2 (10, 0) = some (.inl (10, zFn (zFf rd true true pr cu pj cj))) := by
    rw [← hh2]
    exact zup_s
  have hn2 : ∀ a b : Nat, ¬ (a = 10 ∧ b = 0) → h2 (a, b) = h (a, b) := fun a b hn => by
    rw [← hh2]
    exact zup_n (zn (by omega)) (zup_n (zn (by omega)) rfl)
  refine zX.sn 1 (pc2 := 28) (l2 := [(0, .inr (10, 0))]) (st2 := [.inr (10, 0)]) rfl ?_
  refine zX.sn 1 (pc2 := 29) (l2 := [(0, .inr (10, 0))]) (st2 := [.inr (10, 0), .inr (10, 0)]) rfl ?_
  refine zX.getf ⟨rfl, rfl⟩ hs2 rfl rfl ?_
  refine zX.getf ⟨rfl, rfl⟩ ((hn2 _ _ (by omega)).trans o1) rfl rfl ?_
  refine zX.putf ⟨rfl, rfl⟩ hs2 rfl (by decide) rfl ?_
  show zX _ 116 38 [(0, .inr (10, 0))] [] c s (xup h2 (10, 0) (.inl (10, zFn (zFf rd true true pr out.length pj cj)))) _
  have hJ3 : zAL (xup h2 (10, 0) (.inl (10, zFn (zFf rd true true pr out.length pj cj)))) 15 0 cap (zNm J) := hJ.1.fr (fun a b z => zup_n (zn (by omega)) (hn2 a b (by omega)))
  refine zX.sn 1 (pc2 := 39) (l2 := [(0, .inr (10, 0))]) (st2 := [.inr (10, 0)]) rfl ?_
  refine zX.sn 1 (pc2 := 40) (l2 := [(0, .inr (10, 0))]) (st2 := [.inr (10, 0), .inr (10, 0)]) rfl ?_
  refine zX.getf ⟨rfl, rfl⟩ zup_s rfl rfl ?_
  refine zX.call (mid2 := 150) (as := [.inr (15, 0)]) (rest := [.inr (10, 0)]) ⟨rfl, rfl⟩ (fun _ => rfl) (zX.invA rfl hJ3 rfl rfl) ⟨Nat.le_of_ble_eq_true rfl, Nat.le_of_ble_eq_true rfl⟩ ?_
  refine s_size hJ3 ?_
  show zX _ 116 46 [(0, .inr (10, 0))] [zi ((zNm J).length : Int), .inr (10, 0)] c s _ _
  rw [hnl]
  refine zX.putf ⟨rfl, rfl⟩ zup_s rfl (by decide) rfl ?_
  show zX _ 116 49 [(0, .inr (10, 0))] [] c s (xup (xup h2 (10, 0) _) (10, 0) (.inl (10, zFn (zFf rd true true pr out.length pj J.length)))) _
  generalize hh4 : xup (xup h2 (10, 0) _) (10, 0) (.inl (10, zFn (zFf rd true true pr out.length pj J.length))) = h4
  have hs4 : h4 (10, 0) = some (.inl (10, zFn (zFf rd true true pr out.length pj J.length))) := by
    rw [← hh4]
    exact zup_s
  have hn4 : ∀ a b : Nat, ¬ (a = 10 ∧ b = 0) → h4 (a, b) = h (a, b) := fun a b hn => by
    rw [← hh4]
    exact zup_n (zn (by omega)) (zup_n (zn (by omega)) (hn2 a b hn))
  refine zX.sn 1 (pc2 := 50) (l2 := [(0, .inr (10, 0))]) (st2 := [.inr (10, 0)]) rfl ?_
  refine zX.getf ⟨rfl, rfl⟩ hs4 rfl rfl ?_
  refine zX.sn 1 (pc2 := 54) (l2 := [(0, .inr (10, 0))]) (st2 := [.inr (10, 0), zi (out.length : Int)]) rfl ?_
  refine zX.getf ⟨rfl, rfl⟩ hs4 rfl rfl ?_
  refine zX.isub ⟨rfl, rfl⟩ ?_
  refine zX.ret rfl rfl ?_
  exact q h4 hs4 hn4
end YD9a
