set_option maxRecDepth 100000
section YC93
variable {d : Nat} {Q : xR → Nat → Nat → xH → Prop}
/-- the journal is cut behind its first n rows -/
theorem l_eb1 {n cap c s : Nat} {fs : List xV} : ∀ (k : Nat) (J : List zE) (h : xH), J.length = n + k → h (10, 0) = some (.inl (10, zFn fs)) → zJr h cap J →
    (∀ h1 : xH, zJr h1 cap (J.take n) → (∀ a b : Nat, ¬ (15 ≤ a ∧ a < 17) → h1 (a, b) = h (a, b)) → zX (d + 3) 140 34 [(0, .inr (10, 0))] [] c s h1 Q) → zX (d + 3) 140 10 [(0, .inr (10, 0)), (1, zi (n : Int)), (2, zi ((J.length : Int) - 1))] [] c s h Q := by
  intro k
  induction k with
  | zero =>
    intro J h hk hf hJ q
    have hl := hJ.2.2
    refine zX.sn 1 (pc2 := 11) (l2 := [(0, .inr (10, 0)), (1, zi (n : Int)), (2, zi ((J.length : Int) - 1))]) (st2 := [zi ((J.length : Int) - 1)]) rfl ?_
    refine zX.sn 1 (pc2 := 12) (l2 := [(0, .inr (10, 0)), (1, zi (n : Int)), (2, zi ((J.length : Int) - 1))]) (st2 := [zi (n : Int), zi ((J.length : Int) - 1)]) rfl ?_
    refine zX.icmp (tgt := 34) ⟨rfl, rfl⟩ rfl (by omega) (by omega) (fun _ => ?_) (fun (zz : (n : Int) ≤ (J.length : Int) - 1) => absurd zz (by omega))
    refine zX.re [(0, .inr (10, 0))] [0] [0, 1, 2] rfl rfl (by decide) ?_
    refine q h ?_ (fun _ _ _ => rfl)
    rw [List.take_of_length_le (by omega)]
    exact hJ
  | succ k ih =>
    intro J h hk hf hJ q
    have hl := hJ.2.2
    have hlt : J.length - 1 < J.length := by omega
    have hx := List.getElem?_eq_getElem hlt
    have hi : (J.length : Int) - 1 = ((J.length - 1 : Nat) : Int) := by omega
    have hnl : (zNm J).length = J.length := List.length_map _
    have hk1 : zKs h J := hJ.2.1
    refine zX.sn 1 (pc2 := 11) (l2 := [(0, .inr (10, 0)), (1, zi (n : Int)), (2, zi ((J.length : Int) - 1))]) (st2 := [zi ((J.length : Int) - 1)]) rfl ?_
    refine zX.sn 1 (pc2 := 12) (l2 := [(0, .inr (10, 0)), (1, zi (n : Int)), (2, zi ((J.length : Int) - 1))]) (st2 := [zi (n : Int), zi ((J.length : Int) - 1)]) rfl ?_
    refine zX.icmp (tgt := 34) ⟨rfl, rfl⟩ rfl (by omega) (by omega) (fun (zz : (J.length : Int) - 1 < (n : Int)) => absurd zz (by omega)) (fun _ => ?_)
    refine zX.sn 1 (pc2 := 16) (l2 := [(0, .inr (10, 0)), (1, zi (n : Int)), (2, zi ((J.length : Int) - 1))]) (st2 := [zi ((J.length : Int) - 1)]) rfl ?_
    refine zX.icmp0 (tgt := 34) ⟨rfl, rfl⟩ rfl (by omega) (fun (zz : (J.length : Int) - 1 < 0) => absurd zz (by omega)) (fun _ => ?_)
    refine zX.sn 1 (pc2 := 20) (l2 := [(0, .inr (10, 0)), (1, zi (n : Int)), (2, zi ((J.length : Int) - 1))]) (st2 := [.inr (10, 0)]) rfl ?_
    refine zX.getf ⟨rfl, rfl⟩ hf rfl rfl ?_
    refine zX.sn 1 (pc2 := 24) (l2 := [(0, .inr (10, 0)), (1, zi (n : Int)), (2, zi ((J.length : Int) - 1))]) (st2 := [zi ((J.length : Int) - 1), .inr (15, 0)]) rfl ?_
    refine zX.call (mid2 := 156) (as := [.inr (15, 0), zi ((J.length : Int) - 1)]) (rest := []) ⟨rfl, rfl⟩ (fun _ => rfl) (zX.invA rfl hJ.1 rfl rfl) ⟨Nat.le_of_ble_eq_true rfl, Nat.le_of_ble_eq_true rfl⟩ ?_
    refine s_rem (j := J.length - 1) (x := (8, zeN J[J.length - 1])) hi (by omega) (by omega) hJ.1 (hk1.el (by omega)) (zmap_at hx) (fun h1 a1 a2 => ?_)
    show zX _ 140 27 [(0, .inr (10, 0)), (1, zi (n : Int)), (2, zi ((J.length : Int) - 1))] [.inr (8, zeN J[J.length - 1])] c s _ _
    refine zX.sn 1 (pc2 := 28) (l2 := [(0, .inr (10, 0)), (1, zi (n : Int)), (2, zi ((J.length : Int) - 1))]) (st2 := []) rfl ?_
    have hm1 : (J.length : Int) - 1 + (-1) = (((J.eraseIdx (J.length - 1)).length : Nat) : Int) - 1 := by
      rw [List.length_eraseIdx_of_lt hlt]
      omega
    refine zX.s1 (pc2 := 31) (l2 := [(2, zi ((J.length : Int) - 1 + (-1))), (0, .inr (10, 0)), (1, zi (n : Int))]) (st2 := []) ⟨rfl, rfl⟩ (by rw [show (zi ((J.length : Int) - 1 + (-1)) : xV) = .inl (.int (Int32.ofInt ((J.length : Int) - 1) + (-1))) from congrArg (fun z => (.inl (.int z) : xV)) (Int32.ofInt_add _ _)]; rfl) ?_
    refine zX.sn 1 (pc2 := 10) (l2 := [(2, zi ((J.length : Int) - 1 + (-1))), (0, .inr (10, 0)), (1, zi (n : Int))]) (st2 := []) rfl ?_
    refine zX.re [(0, .inr (10, 0)), (1, zi (n : Int)), (2, zi ((J.length : Int) - 1 + (-1)))] [1, 2, 0] [2, 0, 1] rfl rfl (by decide) ?_
    rw [hm1]
    rw [zNm_erase] at a1
    have hF : ∀ a b : Nat, ¬ (15 ≤ a ∧ a < 17) → h1 (a, b) = h (a, b) := fun a b hn => a2 a b (by omega)
    have hle : (J.eraseIdx (J.length - 1)).length = J.length - 1 := List.length_eraseIdx_of_lt hlt
    refine ih (J.eraseIdx (J.length - 1)) h1 (by omega) ((hF _ _ (by omega)).trans hf) ⟨a1, fun x hx => ?_, by omega⟩ (fun h2 b1 b2 => q h2 ?_ (fun a b hn => (b2 a b hn).trans (hF a b hn)))
    · have hm := hJ.2.1 x (List.mem_of_mem_eraseIdx hx)
      exact ⟨hm.1, (hF _ _ (by omega)).trans hm.2⟩
    · have ht : (J.eraseIdx (J.length - 1)).take n = J.take n := by
        rw [List.eraseIdx_eq_take_drop_succ, List.take_append_of_le_length (by rw [List.length_take]; omega), List.take_take, Nat.min_eq_left (by omega)]
      rw [ht] at b1
      exact b1
end YC93
