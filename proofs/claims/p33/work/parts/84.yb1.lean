set_option maxRecDepth 100000
section ZR84
set_option maxHeartbeats 4000000 in
theorem r_sa0 {d c s : Nat} {h : xH} {Q : xR → Nat → Nat → xH → Prop} {v L : Nat} {fa : Nat → Int64} (hL : L ≤ 67108864) (hc : zcnt fa L ≤ 67108864) (H_21_v : h (21, v) = some (.inl (5, [.inr (22, v), zi (zcnt fa L : Int)]))) (H_22_v : h (22, v) = some (.inr (1, L, zJ fa))) (H_23_v : h (23, v) = some (.inl (5, [.inr (24, v), zi (zcnt fa L : Int)]))) (H_24_v : h (24, v) = some (.inr (1, L, zJ fa)))
    (k1 : zX d 32 32 [(0, .inr (23, v)), (1, .inr (21, v)), (2, zi 1), (3, zi 0)] [] c s h Q) :
    zX d 32 0 [(0, .inr (23, v)), (1, .inr (21, v))] [] c s h Q := by
  refine zX.sn 1 (pc2 := 1) (l2 := [(0, .inr (23, v)), (1, .inr (21, v))]) (st2 := [.inr (23, v)]) rfl ?_
  refine zX.getf ⟨rfl, rfl⟩ H_23_v rfl rfl ?_
  refine zX.sn 1 (pc2 := 5) (l2 := [(0, .inr (23, v)), (1, .inr (21, v))]) (st2 := [.inr (21, v), zi (zcnt fa L : Int)]) rfl ?_
  refine zX.getf ⟨rfl, rfl⟩ H_21_v rfl rfl ?_
  refine zX.icmp (tgt := 28) ⟨rfl, rfl⟩ rfl (by omega) (by omega) (fun (zz : ¬ (zcnt fa L : Int) = (zcnt fa L : Int)) => absurd zz (by omega)) (fun (e1 : (zcnt fa L : Int) = (zcnt fa L : Int)) => ?_)
  refine zX.sn 1 (pc2 := 12) (l2 := [(0, .inr (23, v)), (1, .inr (21, v))]) (st2 := [.inr (23, v)]) rfl ?_
  refine zX.getf ⟨rfl, rfl⟩ H_23_v rfl rfl ?_
  refine zX.alen ⟨rfl, rfl⟩ H_24_v ?_
  refine zX.sn 1 (pc2 := 17) (l2 := [(0, .inr (23, v)), (1, .inr (21, v))]) (st2 := [.inr (21, v), zi (L : Int)]) rfl ?_
  refine zX.getf ⟨rfl, rfl⟩ H_21_v rfl rfl ?_
  refine zX.alen ⟨rfl, rfl⟩ H_22_v ?_
  refine zX.icmp (tgt := 28) ⟨rfl, rfl⟩ rfl (by omega) (by omega) (fun (zz : ¬ (L : Int) = (L : Int)) => absurd zz (by omega)) (fun (e2 : (L : Int) = (L : Int)) => ?_)
  refine zX.sn 1 (pc2 := 25) (l2 := [(0, .inr (23, v)), (1, .inr (21, v))]) (st2 := [zi 1]) rfl ?_
  refine zX.sn 1 (pc2 := 29) (l2 := [(0, .inr (23, v)), (1, .inr (21, v))]) (st2 := [zi 1]) rfl ?_
  refine zX.sn 1 (pc2 := 30) (l2 := [(2, zi 1), (0, .inr (23, v)), (1, .inr (21, v))]) (st2 := []) rfl ?_
  refine zX.sn 1 (pc2 := 31) (l2 := [(2, zi 1), (0, .inr (23, v)), (1, .inr (21, v))]) (st2 := [zi 0]) rfl ?_
  refine zX.sn 1 (pc2 := 32) (l2 := [(3, zi 0), (2, zi 1), (0, .inr (23, v)), (1, .inr (21, v))]) (st2 := []) rfl ?_
  refine zX.re [(0, .inr (23, v)), (1, .inr (21, v)), (2, zi 1), (3, zi 0)] [2, 3, 1, 0] [3, 2, 0, 1] rfl rfl (by decide) ?_
  exact k1

set_option maxHeartbeats 4000000 in
theorem r_sae {d c s : Nat} {h : xH} {Q : xR → Nat → Nat → xH → Prop} {v L : Nat} {fa : Nat → Int64} {j : Nat} (hL : L ≤ 67108864) (hc : zcnt fa L ≤ 67108864) (hj : j = L) (H_21_v : h (21, v) = some (.inl (5, [.inr (22, v), zi (zcnt fa L : Int)]))) (H_22_v : h (22, v) = some (.inr (1, L, zJ fa))) (H_23_v : h (23, v) = some (.inl (5, [.inr (24, v), zi (zcnt fa L : Int)]))) (H_24_v : h (24, v) = some (.inr (1, L, zJ fa)))
    (k1 : Q (.inl (some (zi 1))) c s h) :
    zX d 32 32 [(0, .inr (23, v)), (1, .inr (21, v)), (2, zi 1), (3, zi (j : Int))] [] c s h Q := by
  refine zX.sn 1 (pc2 := 33) (l2 := [(0, .inr (23, v)), (1, .inr (21, v)), (2, zi 1), (3, zi (j : Int))]) (st2 := [zi (j : Int)]) rfl ?_
  refine zX.sn 1 (pc2 := 34) (l2 := [(0, .inr (23, v)), (1, .inr (21, v)), (2, zi 1), (3, zi (j : Int))]) (st2 := [.inr (23, v), zi (j : Int)]) rfl ?_
  refine zX.getf ⟨rfl, rfl⟩ H_23_v rfl rfl ?_
  refine zX.alen ⟨rfl, rfl⟩ H_24_v ?_
  refine zX.icmp (tgt := 72) ⟨rfl, rfl⟩ rfl (by omega) (by omega) (fun (e1 : (L : Int) ≤ (j : Int)) => ?_) (fun (zz : (j : Int) < (L : Int)) => absurd zz (by omega))
  refine zX.sn 1 (pc2 := 73) (l2 := [(0, .inr (23, v)), (1, .inr (21, v)), (2, zi 1), (3, zi (j : Int))]) (st2 := [zi 1]) rfl ?_
  refine zX.ret rfl (zret_z rfl (by decide)) ?_
  exact k1

set_option maxHeartbeats 4000000 in
theorem r_sa1 {d c s : Nat} {h : xH} {Q : xR → Nat → Nat → xH → Prop} {v L : Nat} {fa : Nat → Int64} {j : Nat} (hL : L ≤ 67108864) (hc : zcnt fa L ≤ 67108864) (hj : j < L) (H_21_v : h (21, v) = some (.inl (5, [.inr (22, v), zi (zcnt fa L : Int)]))) (H_22_v : h (22, v) = some (.inr (1, L, zJ fa))) (H_23_v : h (23, v) = some (.inl (5, [.inr (24, v), zi (zcnt fa L : Int)]))) (H_24_v : h (24, v) = some (.inr (1, L, zJ fa)))
    (k1 : (¬ (fa j) = (fa j)) → zX (d + 1) 32 32 [(0, .inr (23, v)), (1, .inr (21, v)), (2, zi 0), (3, zi ((j : Int) + 1))] [] c s h Q)
    (k2 : ((fa j) = (fa j)) → zX (d + 1) 32 32 [(0, .inr (23, v)), (1, .inr (21, v)), (2, zi 1), (3, zi ((j : Int) + 1))] [] c s h Q) :
    zX (d + 1) 32 32 [(0, .inr (23, v)), (1, .inr (21, v)), (2, zi 1), (3, zi (j : Int))] [] c s h Q := by
  refine zX.sn 1 (pc2 := 33) (l2 := [(0, .inr (23, v)), (1, .inr (21, v)), (2, zi 1), (3, zi (j : Int))]) (st2 := [zi (j : Int)]) rfl ?_
  refine zX.sn 1 (pc2 := 34) (l2 := [(0, .inr (23, v)), (1, .inr (21, v)), (2, zi 1), (3, zi (j : Int))]) (st2 := [.inr (23, v), zi (j : Int)]) rfl ?_
  refine zX.getf ⟨rfl, rfl⟩ H_23_v rfl rfl ?_
  refine zX.alen ⟨rfl, rfl⟩ H_24_v ?_
  refine zX.icmp (tgt := 72) ⟨rfl, rfl⟩ rfl (by omega) (by omega) (fun (zz : (L : Int) ≤ (j : Int)) => absurd zz (by omega)) (fun (e1 : (j : Int) < (L : Int)) => ?_)
  refine zX.sn 1 (pc2 := 42) (l2 := [(0, .inr (23, v)), (1, .inr (21, v)), (2, zi 1), (3, zi (j : Int))]) (st2 := [zi 1]) rfl ?_
  refine zX.icmp0 (tgt := 72) ⟨rfl, rfl⟩ rfl (by omega) (fun (zz : 1 = 0) => absurd zz (by omega)) (fun (e2 : ¬ 1 = 0) => ?_)
  refine zX.sn 1 (pc2 := 46) (l2 := [(0, .inr (23, v)), (1, .inr (21, v)), (2, zi 1), (3, zi (j : Int))]) (st2 := [.inr (23, v)]) rfl ?_
  refine zX.getf ⟨rfl, rfl⟩ H_23_v rfl rfl ?_
  refine zX.sn 1 (pc2 := 50) (l2 := [(0, .inr (23, v)), (1, .inr (21, v)), (2, zi 1), (3, zi (j : Int))]) (st2 := [zi (j : Int), .inr (24, v)]) rfl ?_
  refine zX.lald (j := j) ⟨rfl, rfl⟩ H_24_v rfl (by omega) (by omega) ?_
  show zX _ 32 51 [(0, .inr (23, v)), (1, .inr (21, v)), (2, zi 1), (3, zi (j : Int))] [.inl (.long (fa j))] c s _ _
  refine zX.sn 1 (pc2 := 52) (l2 := [(0, .inr (23, v)), (1, .inr (21, v)), (2, zi 1), (3, zi (j : Int))]) (st2 := [.inr (21, v), .inl (.long (fa j))]) rfl ?_
  refine zX.sn 1 (pc2 := 53) (l2 := [(0, .inr (23, v)), (1, .inr (21, v)), (2, zi 1), (3, zi (j : Int))]) (st2 := [zi (j : Int), .inr (21, v), .inl (.long (fa j))]) rfl ?_
  refine zX.call (mid2 := 23) (as := [.inr (21, v), zi (j : Int)]) (rest := [.inl (.long (fa j))]) ⟨rfl, rfl⟩ (fun _ => rfl) (zX.inv rfl H_21_v rfl rfl) ⟨Nat.le_of_ble_eq_true rfl, Nat.le_of_ble_eq_true rfl⟩ ?_
  show zX _ 23 0 [(0, .inr (21, v)), (1, zi (j : Int))] [] c s _ _
  refine zX.sn 1 (pc2 := 1) (l2 := [(0, .inr (21, v)), (1, zi (j : Int))]) (st2 := [zi (j : Int)]) rfl ?_
  refine zX.icmp0 (tgt := 22) ⟨rfl, rfl⟩ rfl (by omega) (fun (zz : (j : Int) < 0) => absurd zz (by omega)) (fun (e3 : 0 ≤ (j : Int)) => ?_)
  refine zX.sn 1 (pc2 := 5) (l2 := [(0, .inr (21, v)), (1, zi (j : Int))]) (st2 := [zi (j : Int)]) rfl ?_
  refine zX.sn 1 (pc2 := 6) (l2 := [(0, .inr (21, v)), (1, zi (j : Int))]) (st2 := [.inr (21, v), zi (j : Int)]) rfl ?_
  refine zX.getf ⟨rfl, rfl⟩ H_21_v rfl rfl ?_
  refine zX.alen ⟨rfl, rfl⟩ H_22_v ?_
  refine zX.icmp (tgt := 22) ⟨rfl, rfl⟩ rfl (by omega) (by omega) (fun (zz : (L : Int) ≤ (j : Int)) => absurd zz (by omega)) (fun (e4 : (j : Int) < (L : Int)) => ?_)
  refine zX.sn 1 (pc2 := 14) (l2 := [(0, .inr (21, v)), (1, zi (j : Int))]) (st2 := [.inr (21, v)]) rfl ?_
  refine zX.getf ⟨rfl, rfl⟩ H_21_v rfl rfl ?_
  refine zX.sn 1 (pc2 := 18) (l2 := [(0, .inr (21, v)), (1, zi (j : Int))]) (st2 := [zi (j : Int), .inr (22, v)]) rfl ?_
  refine zX.lald (j := j) ⟨rfl, rfl⟩ H_22_v rfl (by omega) (by omega) ?_
  show zX _ 23 19 [(0, .inr (21, v)), (1, zi (j : Int))] [.inl (.long (fa j))] c s _ _
  refine zX.sn 1 (pc2 := 23) (l2 := [(0, .inr (21, v)), (1, zi (j : Int))]) (st2 := [.inl (.long (fa j))]) rfl ?_
  refine zX.ret rfl rfl ?_
  show zX _ 32 56 [(0, .inr (23, v)), (1, .inr (21, v)), (2, zi 1), (3, zi (j : Int))] [.inl (.long (fa j)), .inl (.long (fa j))] c s _ _
  refine zX.sn 1 (pc2 := 57) (l2 := [(0, .inr (23, v)), (1, .inr (21, v)), (2, zi 1), (3, zi (j : Int))]) (st2 := [.inl (.int (lg_cmp (fa j) (fa j)))]) rfl ?_
  refine zX.lne (tgt := 64) ⟨rfl, rfl⟩ rfl (fun (e5 : ¬ (fa j) = (fa j)) => ?_) (fun (e5 : (fa j) = (fa j)) => ?_)
  · refine zX.sn 1 (pc2 := 65) (l2 := [(0, .inr (23, v)), (1, .inr (21, v)), (2, zi 1), (3, zi (j : Int))]) (st2 := [zi 0]) rfl ?_
    refine zX.sn 1 (pc2 := 66) (l2 := [(2, zi 0), (0, .inr (23, v)), (1, .inr (21, v)), (3, zi (j : Int))]) (st2 := []) rfl ?_
    refine zX.s1 (pc2 := 69) (l2 := [(3, zi ((j : Int) + 1)), (2, zi 0), (0, .inr (23, v)), (1, .inr (21, v))]) (st2 := []) ⟨rfl, rfl⟩ (by rw [show (zi ((j : Int) + 1) : xV) = .inl (.int (Int32.ofInt (j : Int) + 1)) from congrArg (fun z => (.inl (.int z) : xV)) (Int32.ofInt_add _ _)]; rfl) ?_
    refine zX.sn 1 (pc2 := 32) (l2 := [(3, zi ((j : Int) + 1)), (2, zi 0), (0, .inr (23, v)), (1, .inr (21, v))]) (st2 := []) rfl ?_
    refine zX.re [(0, .inr (23, v)), (1, .inr (21, v)), (2, zi 0), (3, zi ((j : Int) + 1))] [2, 3, 1, 0] [3, 2, 0, 1] rfl rfl (by decide) ?_
    exact k1 e5
  · refine zX.sn 1 (pc2 := 61) (l2 := [(0, .inr (23, v)), (1, .inr (21, v)), (2, zi 1), (3, zi (j : Int))]) (st2 := [zi 1]) rfl ?_
    refine zX.sn 1 (pc2 := 65) (l2 := [(0, .inr (23, v)), (1, .inr (21, v)), (2, zi 1), (3, zi (j : Int))]) (st2 := [zi 1]) rfl ?_
    refine zX.sn 1 (pc2 := 66) (l2 := [(2, zi 1), (0, .inr (23, v)), (1, .inr (21, v)), (3, zi (j : Int))]) (st2 := []) rfl ?_
    refine zX.s1 (pc2 := 69) (l2 := [(3, zi ((j : Int) + 1)), (2, zi 1), (0, .inr (23, v)), (1, .inr (21, v))]) (st2 := []) ⟨rfl, rfl⟩ (by rw [show (zi ((j : Int) + 1) : xV) = .inl (.int (Int32.ofInt (j : Int) + 1)) from congrArg (fun z => (.inl (.int z) : xV)) (Int32.ofInt_add _ _)]; rfl) ?_
    refine zX.sn 1 (pc2 := 32) (l2 := [(3, zi ((j : Int) + 1)), (2, zi 1), (0, .inr (23, v)), (1, .inr (21, v))]) (st2 := []) rfl ?_
    refine zX.re [(0, .inr (23, v)), (1, .inr (21, v)), (2, zi 1), (3, zi ((j : Int) + 1))] [2, 3, 1, 0] [3, 2, 0, 1] rfl rfl (by decide) ?_
    exact k2 e5

end ZR84
