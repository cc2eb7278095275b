set_option maxRecDepth 100000
section YC98
variable {d : Nat} {Q : xR → Nat → Nat → xH → Prop}
theorem zVi.of9 {h : xH} {N k1 k2 k3 v : Nat} {C : zCf} {T : zSt × List Int64} (hV : zVi h N k1 k2 k3 v C T) : ∃ fs, h (20, v) = some (.inl (C.1, fs)) ∧ (C.1 = 2 ∨ C.1 = 6 ∨ C.1 = 8 ∨ C.1 = 9) ∧ fs[6]? = some (.inr (21, v)) ∧ fs[7]? = some (.inr (23, v)) ∧ fs[9]? = some (.inl (.int T.1.2.2.1)) := by
  rcases hV with ⟨c, r, v1, -⟩ | ⟨c, r, v1, -⟩ | ⟨c, r, ⟨v1, -⟩, -⟩ | ⟨c, r, ⟨v1, -⟩, -, -⟩
  · exact ⟨_, by rw [c.1]; exact v1, by omega, rfl, rfl, rfl⟩
  · exact ⟨_, by rw [c.1]; exact v1, by omega, rfl, rfl, rfl⟩
  · exact ⟨_, by rw [c.1]; exact v1, by omega, rfl, rfl, rfl⟩
  · exact ⟨_, by rw [c]; exact v1, by omega, rfl, rfl, rfl⟩
theorem s_viewOf {N capv i c s : Nat} {fs : List xV} {L : zVL} {out : List Int64} {K : zKp} {h : xH} {C : zCf} {S : zSt} (hx : L[i]? = some (C, S)) (hf : h (10, 0) = some (.inl (10, zFn fs))) (hA : zAL h 13 0 capv (zVn L)) (hV : zVa h N K L out) (q : Q (.inl (some (.inr (20, i)))) c s h) : zX (d + 3) 130 0 [(0, .inr (10, 0)), (1, zi (i : Int))] [] c s h Q := by
  have hl := hV.2.1
  have hnl : (zVn L).length = L.length := zVn_len
  have hlt : i < L.length := (List.getElem?_eq_some_iff.mp hx).1
  obtain ⟨fs2, ho, hc⟩ := (hV.2.2 i C S hx).ob
  refine zX.sn 1 (pc2 := 1) (l2 := [(0, .inr (10, 0)), (1, zi (i : Int))]) (st2 := [zi (i : Int)]) rfl ?_
  refine zX.icmp0 (tgt := 15) ⟨rfl, rfl⟩ rfl (by omega) (fun (zz : (i : Int) < 0) => absurd zz (by omega)) (fun _ => ?_)
  refine zX.sn 1 (pc2 := 5) (l2 := [(0, .inr (10, 0)), (1, zi (i : Int))]) (st2 := [zi (i : Int)]) rfl ?_
  refine zX.sn 1 (pc2 := 6) (l2 := [(0, .inr (10, 0)), (1, zi (i : Int))]) (st2 := [.inr (10, 0), zi (i : Int)]) rfl ?_
  refine zX.getf ⟨rfl, rfl⟩ hf rfl rfl ?_
  refine zX.call (mid2 := 150) (as := [.inr (13, 0)]) (rest := [zi (i : Int)]) ⟨rfl, rfl⟩ (fun _ => rfl) (zX.invA rfl hA rfl rfl) ⟨Nat.le_of_ble_eq_true rfl, Nat.le_of_ble_eq_true rfl⟩ ?_
  refine s_size hA ?_
  show zX _ 130 12 [(0, .inr (10, 0)), (1, zi (i : Int))] [zi ((zVn L).length : Int), zi (i : Int)] c s _ _
  refine zX.icmp (tgt := 26) ⟨rfl, rfl⟩ rfl (by omega) (by omega) (fun _ => ?_) (fun (zz : ((zVn L).length : Int) ≤ (i : Int)) => absurd zz (by omega))
  refine zX.sn 1 (pc2 := 27) (l2 := [(0, .inr (10, 0)), (1, zi (i : Int))]) (st2 := [.inr (10, 0)]) rfl ?_
  refine zX.getf ⟨rfl, rfl⟩ hf rfl rfl ?_
  refine zX.sn 1 (pc2 := 31) (l2 := [(0, .inr (10, 0)), (1, zi (i : Int))]) (st2 := [zi (i : Int), .inr (13, 0)]) rfl ?_
  refine zX.call (mid2 := 153) (as := [.inr (13, 0), zi (i : Int)]) (rest := []) ⟨rfl, rfl⟩ (fun _ => rfl) (zX.invA rfl hA rfl rfl) ⟨Nat.le_of_ble_eq_true rfl, Nat.le_of_ble_eq_true rfl⟩ ?_
  refine s_get (j := i) (x := (20, i)) rfl (by omega) hA (zVn_at hlt) ?_
  show zX _ 130 34 [(0, .inr (10, 0)), (1, zi (i : Int))] [.inr (20, i)] c s _ _
  refine zX.cast ⟨rfl, rfl⟩ ho (by rcases hc with z | z | z | z <;> (rw [z]; rfl)) ?_
  refine zX.ret rfl rfl ?_
  exact q
theorem s_told {N capv i c s : Nat} {fs : List xV} {L : zVL} {out : List Int64} {K : zKp} {h : xH} {C : zCf} {S : zSt} (hx : L[i]? = some (C, S)) (hf : h (10, 0) = some (.inl (10, zFn fs))) (hA : zAL h 13 0 capv (zVn L)) (hV : zVa h N K L out) (q : Q (.inl (some (zi (zcnt S.1 (zuL C) : Int)))) c s h) : zX (d + 4) 109 0 [(0, .inr (10, 0)), (1, zi (i : Int))] [] c s h Q := by
  refine zX.sn 1 (pc2 := 1) (l2 := [(0, .inr (10, 0)), (1, zi (i : Int))]) (st2 := [.inr (10, 0)]) rfl ?_
  refine zX.sn 1 (pc2 := 2) (l2 := [(0, .inr (10, 0)), (1, zi (i : Int))]) (st2 := [zi (i : Int), .inr (10, 0)]) rfl ?_
  refine zX.call (mid2 := 130) (as := [.inr (10, 0), zi (i : Int)]) (rest := []) ⟨rfl, rfl⟩ (fun _ => rfl) (zX.inv rfl hf rfl rfl) ⟨Nat.le_of_ble_eq_true rfl, Nat.le_of_ble_eq_true rfl⟩ ?_
  refine s_viewOf (d := d) hx hf hA hV ?_
  show zX _ 109 5 [(0, .inr (10, 0)), (1, zi (i : Int))] [.inr (20, i)] c s _ _
  have hVi := hV.2.2 i C S hx
  obtain ⟨fs2, ho, hc, f6, f7, f9⟩ := hVi.of9
  refine zX.getf ⟨rfl, rfl⟩ ho (by rcases hc with z | z | z | z <;> (rw [z]; rfl)) f6 ?_
  refine zX.getf ⟨rfl, rfl⟩ hVi.told.1 rfl rfl ?_
  refine zX.ret rfl rfl ?_
  exact q
theorem s_dropped {N capv i c s : Nat} {fs : List xV} {L : zVL} {out : List Int64} {K : zKp} {h : xH} {C : zCf} {S : zSt} (hx : L[i]? = some (C, S)) (hf : h (10, 0) = some (.inl (10, zFn fs))) (hA : zAL h 13 0 capv (zVn L)) (hV : zVa h N K L out) (q : Q (.inl (some (.inl (.int S.2.2.1)))) c s h) : zX (d + 4) 113 0 [(0, .inr (10, 0)), (1, zi (i : Int))] [] c s h Q := by
  refine zX.sn 1 (pc2 := 1) (l2 := [(0, .inr (10, 0)), (1, zi (i : Int))]) (st2 := [.inr (10, 0)]) rfl ?_
  refine zX.sn 1 (pc2 := 2) (l2 := [(0, .inr (10, 0)), (1, zi (i : Int))]) (st2 := [zi (i : Int), .inr (10, 0)]) rfl ?_
  refine zX.call (mid2 := 130) (as := [.inr (10, 0), zi (i : Int)]) (rest := []) ⟨rfl, rfl⟩ (fun _ => rfl) (zX.inv rfl hf rfl rfl) ⟨Nat.le_of_ble_eq_true rfl, Nat.le_of_ble_eq_true rfl⟩ ?_
  refine s_viewOf (d := d) hx hf hA hV ?_
  show zX _ 113 5 [(0, .inr (10, 0)), (1, zi (i : Int))] [.inr (20, i)] c s _ _
  have hVi := hV.2.2 i C S hx
  obtain ⟨fs2, ho, hc, f6, f7, f9⟩ := hVi.of9
  refine zX.getf ⟨rfl, rfl⟩ ho (by rcases hc with z | z | z | z <;> (rw [z]; rfl)) f9 ?_
  refine zX.ret rfl rfl ?_
  exact q
theorem s_held {N capv i c s : Nat} {fs : List xV} {L : zVL} {out : List Int64} {K : zKp} {h : xH} {C : zCf} {S : zSt} (hx : L[i]? = some (C, S)) (hf : h (10, 0) = some (.inl (10, zFn fs))) (hA : zAL h 13 0 capv (zVn L)) (hV : zVa h N K L out) (q : Q (.inl (some (.inl (.int (zhs S.2.1 8))))) c s h) : zX (d + 4) 114 0 [(0, .inr (10, 0)), (1, zi (i : Int))] [] c s h Q := by
  refine zX.sn 1 (pc2 := 1) (l2 := [(0, .inr (10, 0)), (1, zi (i : Int))]) (st2 := [.inr (10, 0)]) rfl ?_
  refine zX.sn 1 (pc2 := 2) (l2 := [(0, .inr (10, 0)), (1, zi (i : Int))]) (st2 := [zi (i : Int), .inr (10, 0)]) rfl ?_
  refine zX.call (mid2 := 130) (as := [.inr (10, 0), zi (i : Int)]) (rest := []) ⟨rfl, rfl⟩ (fun _ => rfl) (zX.inv rfl hf rfl rfl) ⟨Nat.le_of_ble_eq_true rfl, Nat.le_of_ble_eq_true rfl⟩ ?_
  refine s_viewOf (d := d) hx hf hA hV ?_
  show zX _ 114 5 [(0, .inr (10, 0)), (1, zi (i : Int))] [.inr (20, i)] c s _ _
  have hVi := hV.2.2 i C S hx
  obtain ⟨fs2, ho, hc, f6, f7, f9⟩ := hVi.of9
  obtain ⟨bs, dr, tl, o1, o2, o3, o4⟩ := hVi.hd
  refine zX.call (mid2 := 83) (as := [.inr (20, i)]) (rest := []) ⟨rfl, rfl⟩ (fun _ => rfl) (zX.inv rfl ho (by rcases hc with z | z | z | z <;> (rw [z]; rfl)) rfl) ⟨Nat.le_of_ble_eq_true rfl, Nat.le_of_ble_eq_true rfl⟩ ?_
  refine s_hall o2 o3 o1 o4 ?_
  show zX _ 114 8 [(0, .inr (10, 0)), (1, zi (i : Int))] [.inl (.int (zhs S.2.1 8))] c s _ _
  refine zX.ret rfl rfl ?_
  exact q
end YC98
