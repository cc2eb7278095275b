set_option maxRecDepth 100000
section YC99
variable {d : Nat} {Q : xR → Nat → Nat → xH → Prop}
theorem s_entries {c s p : Nat} {fs : List xV} {P : Nat → zPT} {h : xH} (hp : p < 3) (hf : h (10, 0) = some (.inl (10, zFn fs))) (hP : zPs h P) (q : Q (.inl (some (zi ((P p).2.2.2.2.length : Int)))) c s h) : zX (d + 4) 104 0 [(0, .inr (10, 0)), (1, zi (p : Int))] [] c s h Q := by
  have hnl : (zNm (P p).2.2.2.2).length = (P p).2.2.2.2.length := List.length_map _
  obtain ⟨b1, b2, -⟩ := hP.2 p hp
  refine zX.sn 1 (pc2 := 1) (l2 := [(0, .inr (10, 0)), (1, zi (p : Int))]) (st2 := [.inr (10, 0)]) rfl ?_
  refine zX.sn 1 (pc2 := 2) (l2 := [(0, .inr (10, 0)), (1, zi (p : Int))]) (st2 := [zi (p : Int), .inr (10, 0)]) rfl ?_
  refine zX.call (mid2 := 129) (as := [.inr (10, 0), zi (p : Int)]) (rest := []) ⟨rfl, rfl⟩ (fun _ => rfl) (zX.inv rfl hf rfl rfl) ⟨Nat.le_of_ble_eq_true rfl, Nat.le_of_ble_eq_true rfl⟩ ?_
  refine s_part1 (d := d) hf hP hp ?_
  show zX _ 104 5 [(0, .inr (10, 0)), (1, zi (p : Int))] [.inr (5, p)] c s _ _
  refine zX.getf ⟨rfl, rfl⟩ b1 rfl rfl ?_
  refine zX.call (mid2 := 150) (as := [.inr (6, p)]) (rest := []) ⟨rfl, rfl⟩ (fun _ => rfl) (zX.invA rfl b2 rfl rfl) ⟨Nat.le_of_ble_eq_true rfl, Nat.le_of_ble_eq_true rfl⟩ ?_
  refine s_size b2 ?_
  show zX _ 104 11 [(0, .inr (10, 0)), (1, zi (p : Int))] [zi ((zNm (P p).2.2.2.2).length : Int)] c s _ _
  refine zX.ret rfl rfl ?_
  rw [hnl]
  exact q
theorem s_place {c s p : Nat} {fs : List xV} {P : Nat → zPT} {h : xH} (hp : p < 3) (hf : h (10, 0) = some (.inl (10, zFn fs))) (hP : zPs h P) (q : Q (.inl (some (zi ((P p).1 : Int)))) c s h) : zX (d + 4) 106 0 [(0, .inr (10, 0)), (1, zi (p : Int))] [] c s h Q := by
  obtain ⟨b1, b2, -⟩ := hP.2 p hp
  refine zX.sn 1 (pc2 := 1) (l2 := [(0, .inr (10, 0)), (1, zi (p : Int))]) (st2 := [.inr (10, 0)]) rfl ?_
  refine zX.sn 1 (pc2 := 2) (l2 := [(0, .inr (10, 0)), (1, zi (p : Int))]) (st2 := [zi (p : Int), .inr (10, 0)]) rfl ?_
  refine zX.call (mid2 := 129) (as := [.inr (10, 0), zi (p : Int)]) (rest := []) ⟨rfl, rfl⟩ (fun _ => rfl) (zX.inv rfl hf rfl rfl) ⟨Nat.le_of_ble_eq_true rfl, Nat.le_of_ble_eq_true rfl⟩ ?_
  refine s_part1 (d := d) hf hP hp ?_
  show zX _ 106 5 [(0, .inr (10, 0)), (1, zi (p : Int))] [.inr (5, p)] c s _ _
  refine zX.getf ⟨rfl, rfl⟩ b1 rfl rfl ?_
  refine zX.ret rfl rfl ?_
  exact q
theorem s_markOf {c s p : Nat} {fs : List xV} {P : Nat → zPT} {h : xH} (hp : p < 3) (hf : h (10, 0) = some (.inl (10, zFn fs))) (hP : zPs h P) (q : Q (.inl (some (zi (P p).2.1))) c s h) : zX (d + 4) 107 0 [(0, .inr (10, 0)), (1, zi (p : Int))] [] c s h Q := by
  obtain ⟨b1, b2, -⟩ := hP.2 p hp
  refine zX.sn 1 (pc2 := 1) (l2 := [(0, .inr (10, 0)), (1, zi (p : Int))]) (st2 := [.inr (10, 0)]) rfl ?_
  refine zX.sn 1 (pc2 := 2) (l2 := [(0, .inr (10, 0)), (1, zi (p : Int))]) (st2 := [zi (p : Int), .inr (10, 0)]) rfl ?_
  refine zX.call (mid2 := 129) (as := [.inr (10, 0), zi (p : Int)]) (rest := []) ⟨rfl, rfl⟩ (fun _ => rfl) (zX.inv rfl hf rfl rfl) ⟨Nat.le_of_ble_eq_true rfl, Nat.le_of_ble_eq_true rfl⟩ ?_
  refine s_part1 (d := d) hf hP hp ?_
  show zX _ 107 5 [(0, .inr (10, 0)), (1, zi (p : Int))] [.inr (5, p)] c s _ _
  refine zX.getf ⟨rfl, rfl⟩ b1 rfl rfl ?_
  refine zX.ret rfl rfl ?_
  exact q
theorem s_mark {c s : Nat} {fs : List xV} {P : Nat → zPT} {h : xH} (hf : h (10, 0) = some (.inl (10, zFn fs))) (hP : zPs h P) (q : -1 ≤ zlm P 3 0 1000 ∧ zlm P 3 0 1000 ≤ 1000 → Q (.inl (some (zi (zlm P 3 0 1000)))) c s h) : zX (d + 4) 108 0 [(0, .inr (10, 0))] [] c s h Q := by
  refine zX.sn 1 (pc2 := 1) (l2 := [(0, .inr (10, 0))]) (st2 := [.inr (10, 0)]) rfl ?_
  refine zX.call (mid2 := 138) (as := [.inr (10, 0)]) (rest := []) ⟨rfl, rfl⟩ (fun _ => rfl) (zX.inv rfl hf rfl rfl) ⟨Nat.le_of_ble_eq_true rfl, Nat.le_of_ble_eq_true rfl⟩ ?_
  refine s_lm (d := d) hf hP (fun hml => ?_)
  show zX _ 108 4 [(0, .inr (10, 0))] [zi (zlm P 3 0 1000)] c s _ _
  refine zX.ret rfl rfl ?_
  exact q hml
/-- the foundry's fields all: what is read, cut, under way; promised, cut's number; rows promised, rows at the cut -/
abbrev zFf (rd ct uw : Bool) (pr cu : Nat) (pj cj : Nat) : List xV := [zi (zbi rd), zi (zbi ct), zi (zbi uw), zi (pr : Int), zi (cu : Int), zi (pj : Int), zi (cj : Int)]
theorem s_promised {c s pr cu pj cj : Nat} {rd ct uw : Bool} {h : xH} (hf : h (10, 0) = some (.inl (10, zFn (zFf rd ct uw pr cu pj cj)))) (q : Q (.inl (some (zi (pr : Int)))) c s h) : zX d 119 0 [(0, .inr (10, 0))] [] c s h Q := by
  refine zX.sn 1 (pc2 := 1) (l2 := [(0, .inr (10, 0))]) (st2 := [.inr (10, 0)]) rfl ?_
  refine zX.getf ⟨rfl, rfl⟩ hf rfl rfl ?_
  refine zX.ret rfl rfl ?_
  exact q
theorem s_wfrom {c s pr cu pj cj : Nat} {rd ct uw : Bool} {h : xH} (hf : h (10, 0) = some (.inl (10, zFn (zFf rd ct uw pr cu pj cj)))) (q : Q (.inl (some (zi ((if uw then cu else pr : Nat) : Int)))) c s h) : zX d 141 0 [(0, .inr (10, 0))] [] c s h Q := by
  have hb := zbi_r uw
  refine zX.sn 1 (pc2 := 1) (l2 := [(0, .inr (10, 0))]) (st2 := [.inr (10, 0)]) rfl ?_
  refine zX.getf ⟨rfl, rfl⟩ hf rfl rfl ?_
  refine zX.icmp0 (tgt := 14) ⟨rfl, rfl⟩ rfl (by omega) (fun (z : zbi uw = 0) => ?_) (fun (z : ¬ zbi uw = 0) => ?_)
  · rw [zbi_0] at z
    subst z
    refine zX.sn 1 (pc2 := 15) (l2 := [(0, .inr (10, 0))]) (st2 := [.inr (10, 0)]) rfl ?_
    refine zX.getf ⟨rfl, rfl⟩ hf rfl rfl ?_
    refine zX.ret rfl rfl ?_
    exact q
  · rw [zbi_1] at z
    subst z
    refine zX.sn 1 (pc2 := 8) (l2 := [(0, .inr (10, 0))]) (st2 := [.inr (10, 0)]) rfl ?_
    refine zX.getf ⟨rfl, rfl⟩ hf rfl rfl ?_
    refine zX.sn 1 (pc2 := 18) (l2 := [(0, .inr (10, 0))]) (st2 := [zi (cu : Int)]) rfl ?_
    refine zX.ret rfl rfl ?_
    exact q
end YC99
