set_option maxRecDepth 100000
section ZR50
set_option maxHeartbeats 4000000 in
theorem s_tell {d c s : Nat} {h : xH} {Q : xR → Nat → Nat → xH → Prop} {v sz gr : Nat} {bs fi : Int} {dr : Int32} {ci : Nat} {tl : List xV} {L N : Nat} {fa : Nat → Int64} {out : List Int64} {x : Int} {k : Nat} {y : Int64} (hx : x = (k : Int)) (hk : k < L) (hy : ¬ y = 0) (hv : v < 8) (hsz : 1 ≤ sz ∧ sz ≤ 200) (hgr : gr ≤ 200) (hci : ci = 2 ∨ ci = 6 ∨ ci = 8 ∨ ci = 9) (hL : L ≤ 67108864) (ho : out.length + 2 < 200000) (H_20_v : h (20, v) = some (.inl (ci, (zi (v : Int) :: zi bs :: zi fi :: zi (sz : Int) :: zi (gr : Int) :: .inr (2, 0) :: .inr (21, v) :: .inr (23, v) :: .inr (25, v) :: .inl (.int dr) :: tl)))) (P_told : zRes h 21 v L fa) (P_out : zOut h N out)
    (k1 : ∀ N2 : Nat, ∀ c2 : Nat, ∀ s2 : Nat, (N ≤ N2 ∧ c2 + N ≤ c + N2 ∧ s2 + 4 * N ≤ s + 4 * N2) → ∀ h' : xH, zRes h' 21 v L (zfi fa k y) → zOut h' N2 (out ++ [y]) → (∀ za zb : Nat, ¬ ((21 ≤ za ∧ za < 21 + 2 ∧ zb = v) ∨ (2 ≤ za ∧ za < 4)) → h' (za, zb) = h (za, zb)) → Q (.inl none) c2 s2 h') :
    zX (d + 2) 78 0 [(0, .inr (20, v)), (1, zi x), (2, .inl (.long y))] [] c s h Q := by
  refine zX.sn 1 (pc2 := 1) (l2 := [(0, .inr (20, v)), (1, zi x), (2, .inl (.long y))]) (st2 := [.inr (20, v)]) rfl ?_
  refine zX.getf ⟨rfl, rfl⟩ H_20_v (by rcases hci with rfl | rfl | rfl | rfl <;> rfl) rfl ?_
  refine zX.sn 1 (pc2 := 5) (l2 := [(0, .inr (20, v)), (1, zi x), (2, .inl (.long y))]) (st2 := [zi x, .inr (21, v)]) rfl ?_
  refine zX.sn 1 (pc2 := 6) (l2 := [(0, .inr (20, v)), (1, zi x), (2, .inl (.long y))]) (st2 := [.inl (.long y), zi x, .inr (21, v)]) rfl ?_
  refine zX.call (mid2 := 24) (as := [.inr (21, v), zi x, .inl (.long y)]) (rest := []) ⟨rfl, rfl⟩ (fun _ => rfl) (zX.inv rfl (P_told.1) rfl rfl) ⟨Nat.le_of_ble_eq_true rfl, Nat.le_of_ble_eq_true rfl⟩ ?_
  refine s_put (k := k) hx (by omega) (by omega) (by omega) hy P_told (fun h1 hv1 hF1 => ?_)
  show zX _ 78 9 [(0, .inr (20, v)), (1, zi x), (2, .inl (.long y))] [] c s _ _
  refine zX.sn 1 (pc2 := 10) (l2 := [(0, .inr (20, v)), (1, zi x), (2, .inl (.long y))]) (st2 := [.inr (20, v)]) rfl ?_
  refine zX.getf ⟨rfl, rfl⟩ ((hF1 20 v (by omega)).trans H_20_v) (by rcases hci with rfl | rfl | rfl | rfl <;> rfl) rfl ?_
  refine zX.sn 1 (pc2 := 14) (l2 := [(0, .inr (20, v)), (1, zi x), (2, .inl (.long y))]) (st2 := [.inl (.long y), .inr (2, 0)]) rfl ?_
  refine zX.call (mid2 := 11) (as := [.inr (2, 0), .inl (.long y)]) (rest := []) ⟨rfl, rfl⟩ (fun _ => rfl) (zX.inv rfl (zOut.ob (zOut.fr P_out (fun za zb hi => ((hF1 za zb (by omega)).trans rfl)))) rfl rfl) ⟨Nat.le_of_ble_eq_true rfl, Nat.le_of_ble_eq_true rfl⟩ ?_
  refine s_oadd (zOut.fr P_out (fun za zb hi => ((hF1 za zb (by omega)).trans rfl))) (by first | omega | (simp only [List.length_append, List.length_cons, List.length_nil]; omega))  (fun h2 N2 c2 s2 hv2 hF2 hb2 => ?_)
  show zX _ 78 17 [(0, .inr (20, v)), (1, zi x), (2, .inl (.long y))] [] c2 s2 _ _
  refine zX.ret rfl rfl ?_
  exact k1 N2 c2 s2 hb2 _ (zRes.fr hv1 (fun za zb hi => ((hF2 za zb (by omega)).trans rfl))) hv2 (fun za zb hn => ((hF2 za zb (by omega)).trans ((hF1 za zb (by omega)).trans rfl)))

set_option maxHeartbeats 4000000 in
theorem r_tback {d c s : Nat} {h : xH} {Q : xR → Nat → Nat → xH → Prop} {v sz gr : Nat} {bs fi : Int} {dr : Int32} {ci : Nat} {tl : List xV} {L N : Nat} {fa : Nat → Int64} {out : List Int64} {x : Int} {k : Nat} (hx : x = (k : Int)) (hk : k < L) (hv : v < 8) (hsz : 1 ≤ sz ∧ sz ≤ 200) (hgr : gr ≤ 200) (hci : ci = 2 ∨ ci = 6 ∨ ci = 8 ∨ ci = 9) (hL : L ≤ 67108864) (ho : out.length + 2 < 200000) (H_20_v : h (20, v) = some (.inl (ci, (zi (v : Int) :: zi bs :: zi fi :: zi (sz : Int) :: zi (gr : Int) :: .inr (2, 0) :: .inr (21, v) :: .inr (23, v) :: .inr (25, v) :: .inl (.int dr) :: tl)))) (P_told : zRes h 21 v L fa) (P_out : zOut h N out)
    (k1 : ((fa k) = 0) → Q (.inl none) c s h)
    (k2 : (¬ (fa k) = 0) → ∀ N3 : Nat, ∀ c3 : Nat, ∀ s3 : Nat, (N ≤ N3 ∧ c3 + N ≤ c + N3 ∧ s3 + 4 * N ≤ s + 4 * N3) → ∀ h' : xH, zRes h' 21 v L (zfi fa k 0) → zOut h' N3 (out ++ [((fa k) ||| (Int64.ofNat 1152921504606846976))]) → (∀ za zb : Nat, ¬ ((21 ≤ za ∧ za < 21 + 2 ∧ zb = v) ∨ (2 ≤ za ∧ za < 4)) → h' (za, zb) = h (za, zb)) → Q (.inl none) c3 s3 h') :
    zX (d + 2) 79 0 [(0, .inr (20, v)), (1, zi x)] [] c s h Q := by
  refine zX.sn 1 (pc2 := 1) (l2 := [(0, .inr (20, v)), (1, zi x)]) (st2 := [.inr (20, v)]) rfl ?_
  refine zX.getf ⟨rfl, rfl⟩ H_20_v (by rcases hci with rfl | rfl | rfl | rfl <;> rfl) rfl ?_
  refine zX.sn 1 (pc2 := 5) (l2 := [(0, .inr (20, v)), (1, zi x)]) (st2 := [zi x, .inr (21, v)]) rfl ?_
  refine zX.call (mid2 := 23) (as := [.inr (21, v), zi x]) (rest := []) ⟨rfl, rfl⟩ (fun _ => rfl) (zX.inv rfl (P_told.1) rfl rfl) ⟨Nat.le_of_ble_eq_true rfl, Nat.le_of_ble_eq_true rfl⟩ ?_
  refine s_at (k := k) hx (by omega) (by omega) (by omega) P_told ?_
  show zX _ 79 8 [(0, .inr (20, v)), (1, zi x)] [.inl (.long (fa k))] c s _ _
  refine zX.sn 1 (pc2 := 9) (l2 := [(2, .inl (.long (fa k))), (0, .inr (20, v)), (1, zi x)]) (st2 := []) rfl ?_
  refine zX.sn 1 (pc2 := 10) (l2 := [(2, .inl (.long (fa k))), (0, .inr (20, v)), (1, zi x)]) (st2 := [.inl (.long (fa k))]) rfl ?_
  refine zX.sn 1 (pc2 := 11) (l2 := [(2, .inl (.long (fa k))), (0, .inr (20, v)), (1, zi x)]) (st2 := [.inl (.long 0), .inl (.long (fa k))]) rfl ?_
  refine zX.sn 1 (pc2 := 12) (l2 := [(2, .inl (.long (fa k))), (0, .inr (20, v)), (1, zi x)]) (st2 := [.inl (.int (lg_cmp (fa k) 0))]) rfl ?_
  refine zX.leq (tgt := 35) ⟨rfl, rfl⟩ rfl (fun (e1 : (fa k) = 0) => ?_) (fun (e1 : ¬ (fa k) = 0) => ?_)
  · refine zX.ret rfl rfl ?_
    exact k1 e1
  · refine zX.sn 1 (pc2 := 16) (l2 := [(2, .inl (.long (fa k))), (0, .inr (20, v)), (1, zi x)]) (st2 := [.inr (20, v)]) rfl ?_
    refine zX.getf ⟨rfl, rfl⟩ H_20_v (by rcases hci with rfl | rfl | rfl | rfl <;> rfl) rfl ?_
    refine zX.sn 1 (pc2 := 20) (l2 := [(2, .inl (.long (fa k))), (0, .inr (20, v)), (1, zi x)]) (st2 := [zi x, .inr (21, v)]) rfl ?_
    refine zX.call (mid2 := 25) (as := [.inr (21, v), zi x]) (rest := []) ⟨rfl, rfl⟩ (fun _ => rfl) (zX.inv rfl (P_told.1) rfl rfl) ⟨Nat.le_of_ble_eq_true rfl, Nat.le_of_ble_eq_true rfl⟩ ?_
    refine s_clr (k := k) hx (by omega) (by omega) (by omega) P_told (fun h2 hv2 hF2 => ?_)
    show zX _ 79 23 [(2, .inl (.long (fa k))), (0, .inr (20, v)), (1, zi x)] [] c s _ _
    refine zX.sn 1 (pc2 := 24) (l2 := [(2, .inl (.long (fa k))), (0, .inr (20, v)), (1, zi x)]) (st2 := [.inr (20, v)]) rfl ?_
    refine zX.getf ⟨rfl, rfl⟩ ((hF2 20 v (by omega)).trans H_20_v) (by rcases hci with rfl | rfl | rfl | rfl <;> rfl) rfl ?_
    refine zX.sn 1 (pc2 := 28) (l2 := [(2, .inl (.long (fa k))), (0, .inr (20, v)), (1, zi x)]) (st2 := [.inl (.long (fa k)), .inr (2, 0)]) rfl ?_
    refine zX.s2 [] (pc2 := 31) (l2 := [(2, .inl (.long (fa k))), (0, .inr (20, v)), (1, zi x)]) (st2 := [.inl (.long (Int64.ofNat 1152921504606846976)), .inl (.long (fa k)), .inr (2, 0)]) ⟨rfl, rfl⟩ (fun _ => rfl) rfl (fun _ => rfl) ?_
    refine zX.sn 1 (pc2 := 32) (l2 := [(2, .inl (.long (fa k))), (0, .inr (20, v)), (1, zi x)]) (st2 := [.inl (.long ((fa k) ||| (Int64.ofNat 1152921504606846976))), .inr (2, 0)]) rfl ?_
    refine zX.call (mid2 := 11) (as := [.inr (2, 0), .inl (.long ((fa k) ||| (Int64.ofNat 1152921504606846976)))]) (rest := []) ⟨rfl, rfl⟩ (fun _ => rfl) (zX.inv rfl (zOut.ob (zOut.fr P_out (fun za zb hi => ((hF2 za zb (by omega)).trans rfl)))) rfl rfl) ⟨Nat.le_of_ble_eq_true rfl, Nat.le_of_ble_eq_true rfl⟩ ?_
    refine s_oadd (zOut.fr P_out (fun za zb hi => ((hF2 za zb (by omega)).trans rfl))) (by first | omega | (simp only [List.length_append, List.length_cons, List.length_nil]; omega))  (fun h3 N3 c3 s3 hv3 hF3 hb3 => ?_)
    show zX _ 79 35 [(2, .inl (.long (fa k))), (0, .inr (20, v)), (1, zi x)] [] c3 s3 _ _
    refine zX.ret rfl rfl ?_
    exact k2 e1 N3 c3 s3 hb3 _ (zRes.fr hv2 (fun za zb hi => ((hF3 za zb (by omega)).trans rfl))) hv3 (fun za zb hn => ((hF3 za zb (by omega)).trans ((hF2 za zb (by omega)).trans rfl)))

set_option maxHeartbeats 4000000 in
theorem r_tanew {d c s : Nat} {h : xH} {Q : xR → Nat → Nat → xH → Prop} {v sz gr : Nat} {bs fi : Int} {dr : Int32} {ci : Nat} {tl : List xV} {L N : Nat} {fa : Nat → Int64} {out : List Int64} {x : Int} {k : Nat} {x2 : Int} {j : Nat} {y : Int64} (hx : x = (k : Int)) (hk : k < L) (hx2 : x2 = (j : Int)) (hj : j < L) (hy : ¬ y = 0) (hv : v < 8) (hsz : 1 ≤ sz ∧ sz ≤ 200) (hgr : gr ≤ 200) (hci : ci = 2 ∨ ci = 6 ∨ ci = 8 ∨ ci = 9) (hL : L ≤ 67108864) (ho : out.length + 2 < 200000) (H_20_v : h (20, v) = some (.inl (ci, (zi (v : Int) :: zi bs :: zi fi :: zi (sz : Int) :: zi (gr : Int) :: .inr (2, 0) :: .inr (21, v) :: .inr (23, v) :: .inr (25, v) :: .inl (.int dr) :: tl)))) (P_told : zRes h 21 v L fa) (P_out : zOut h N out)
    (k1 : ((fa k) = y) → Q (.inl none) c s h)
    (k2 : (¬ (fa k) = y) → ((fa k) = 0) → ∀ N4 : Nat, ∀ c4 : Nat, ∀ s4 : Nat, (N ≤ N4 ∧ c4 + N ≤ c + N4 ∧ s4 + 4 * N ≤ s + 4 * N4) → ∀ h' : xH, zRes h' 21 v L (zfi fa j y) → zOut h' N4 (out ++ [y]) → (∀ za zb : Nat, ¬ ((21 ≤ za ∧ za < 21 + 2 ∧ zb = v) ∨ (2 ≤ za ∧ za < 4)) → h' (za, zb) = h (za, zb)) → Q (.inl none) c4 s4 h')
    (k3 : (¬ (fa k) = y) → (¬ (fa k) = 0) → ∀ N6 : Nat, ∀ c6 : Nat, ∀ s6 : Nat, (N ≤ N6 ∧ c6 + N ≤ c + N6 ∧ s6 + 4 * N ≤ s + 4 * N6) → ∀ N8 : Nat, ∀ c8 : Nat, ∀ s8 : Nat, (N6 ≤ N8 ∧ c8 + N6 ≤ c6 + N8 ∧ s8 + 4 * N6 ≤ s6 + 4 * N8) → ∀ h' : xH, zRes h' 21 v L (zfi (zfi fa k 0) j y) → zOut h' N8 ((out ++ [((fa k) ||| (Int64.ofNat 1152921504606846976))]) ++ [y]) → (∀ za zb : Nat, ¬ ((21 ≤ za ∧ za < 21 + 2 ∧ zb = v) ∨ (2 ≤ za ∧ za < 4)) → h' (za, zb) = h (za, zb)) → Q (.inl none) c8 s8 h') :
    zX (d + 3) 80 0 [(0, .inr (20, v)), (1, zi x), (2, zi x2), (3, .inl (.long y))] [] c s h Q := by
  refine zX.sn 1 (pc2 := 1) (l2 := [(0, .inr (20, v)), (1, zi x), (2, zi x2), (3, .inl (.long y))]) (st2 := [.inr (20, v)]) rfl ?_
  refine zX.getf ⟨rfl, rfl⟩ H_20_v (by rcases hci with rfl | rfl | rfl | rfl <;> rfl) rfl ?_
  refine zX.sn 1 (pc2 := 5) (l2 := [(0, .inr (20, v)), (1, zi x), (2, zi x2), (3, .inl (.long y))]) (st2 := [zi x, .inr (21, v)]) rfl ?_
  refine zX.call (mid2 := 23) (as := [.inr (21, v), zi x]) (rest := []) ⟨rfl, rfl⟩ (fun _ => rfl) (zX.inv rfl (P_told.1) rfl rfl) ⟨Nat.le_of_ble_eq_true rfl, Nat.le_of_ble_eq_true rfl⟩ ?_
  refine s_at (k := k) hx (by omega) (by omega) (by omega) P_told ?_
  show zX _ 80 8 [(0, .inr (20, v)), (1, zi x), (2, zi x2), (3, .inl (.long y))] [.inl (.long (fa k))] c s _ _
  refine zX.sn 1 (pc2 := 9) (l2 := [(0, .inr (20, v)), (1, zi x), (2, zi x2), (3, .inl (.long y))]) (st2 := [.inl (.long y), .inl (.long (fa k))]) rfl ?_
  refine zX.sn 1 (pc2 := 10) (l2 := [(0, .inr (20, v)), (1, zi x), (2, zi x2), (3, .inl (.long y))]) (st2 := [.inl (.int (lg_cmp (fa k) y))]) rfl ?_
  refine zX.leq (tgt := 24) ⟨rfl, rfl⟩ rfl (fun (e1 : (fa k) = y) => ?_) (fun (e1 : ¬ (fa k) = y) => ?_)
  · refine zX.ret rfl rfl ?_
    exact k1 e1
  · refine zX.sn 1 (pc2 := 14) (l2 := [(0, .inr (20, v)), (1, zi x), (2, zi x2), (3, .inl (.long y))]) (st2 := [.inr (20, v)]) rfl ?_
    refine zX.sn 1 (pc2 := 15) (l2 := [(0, .inr (20, v)), (1, zi x), (2, zi x2), (3, .inl (.long y))]) (st2 := [zi x, .inr (20, v)]) rfl ?_
    refine zX.call (mid2 := 79) (as := [.inr (20, v), zi x]) (rest := []) ⟨rfl, rfl⟩ (fun _ => rfl) (zX.inv rfl H_20_v (by rcases hci with rfl | rfl | rfl | rfl <;> rfl) rfl) ⟨Nat.le_of_ble_eq_true rfl, Nat.le_of_ble_eq_true rfl⟩ ?_
    show zX _ 79 0 [(0, .inr (20, v)), (1, zi x)] [] c s _ _
    refine zX.sn 1 (pc2 := 1) (l2 := [(0, .inr (20, v)), (1, zi x)]) (st2 := [.inr (20, v)]) rfl ?_
    refine zX.getf ⟨rfl, rfl⟩ H_20_v (by rcases hci with rfl | rfl | rfl | rfl <;> rfl) rfl ?_
    refine zX.sn 1 (pc2 := 5) (l2 := [(0, .inr (20, v)), (1, zi x)]) (st2 := [zi x, .inr (21, v)]) rfl ?_
    refine zX.call (mid2 := 23) (as := [.inr (21, v), zi x]) (rest := []) ⟨rfl, rfl⟩ (fun _ => rfl) (zX.inv rfl (P_told.1) rfl rfl) ⟨Nat.le_of_ble_eq_true rfl, Nat.le_of_ble_eq_true rfl⟩ ?_
    refine s_at (k := k) hx (by omega) (by omega) (by omega) P_told ?_
    show zX _ 79 8 [(0, .inr (20, v)), (1, zi x)] [.inl (.long (fa k))] c s _ _
    refine zX.sn 1 (pc2 := 9) (l2 := [(2, .inl (.long (fa k))), (0, .inr (20, v)), (1, zi x)]) (st2 := []) rfl ?_
    refine zX.sn 1 (pc2 := 10) (l2 := [(2, .inl (.long (fa k))), (0, .inr (20, v)), (1, zi x)]) (st2 := [.inl (.long (fa k))]) rfl ?_
    refine zX.sn 1 (pc2 := 11) (l2 := [(2, .inl (.long (fa k))), (0, .inr (20, v)), (1, zi x)]) (st2 := [.inl (.long 0), .inl (.long (fa k))]) rfl ?_
    refine zX.sn 1 (pc2 := 12) (l2 := [(2, .inl (.long (fa k))), (0, .inr (20, v)), (1, zi x)]) (st2 := [.inl (.int (lg_cmp (fa k) 0))]) rfl ?_
    refine zX.leq (tgt := 35) ⟨rfl, rfl⟩ rfl (fun (e2 : (fa k) = 0) => ?_) (fun (e2 : ¬ (fa k) = 0) => ?_)
    · refine zX.ret rfl rfl ?_
      show zX _ 80 18 [(0, .inr (20, v)), (1, zi x), (2, zi x2), (3, .inl (.long y))] [] c s _ _
      refine zX.sn 1 (pc2 := 19) (l2 := [(0, .inr (20, v)), (1, zi x), (2, zi x2), (3, .inl (.long y))]) (st2 := [.inr (20, v)]) rfl ?_
      refine zX.sn 1 (pc2 := 20) (l2 := [(0, .inr (20, v)), (1, zi x), (2, zi x2), (3, .inl (.long y))]) (st2 := [zi x2, .inr (20, v)]) rfl ?_
      refine zX.sn 1 (pc2 := 21) (l2 := [(0, .inr (20, v)), (1, zi x), (2, zi x2), (3, .inl (.long y))]) (st2 := [.inl (.long y), zi x2, .inr (20, v)]) rfl ?_
      refine zX.call (mid2 := 78) (as := [.inr (20, v), zi x2, .inl (.long y)]) (rest := []) ⟨rfl, rfl⟩ (fun _ => rfl) (zX.inv rfl H_20_v (by rcases hci with rfl | rfl | rfl | rfl <;> rfl) rfl) ⟨Nat.le_of_ble_eq_true rfl, Nat.le_of_ble_eq_true rfl⟩ ?_
      show zX _ 78 0 [(0, .inr (20, v)), (1, zi x2), (2, .inl (.long y))] [] c s _ _
      refine zX.sn 1 (pc2 := 1) (l2 := [(0, .inr (20, v)), (1, zi x2), (2, .inl (.long y))]) (st2 := [.inr (20, v)]) rfl ?_
      refine zX.getf ⟨rfl, rfl⟩ H_20_v (by rcases hci with rfl | rfl | rfl | rfl <;> rfl) rfl ?_
      refine zX.sn 1 (pc2 := 5) (l2 := [(0, .inr (20, v)), (1, zi x2), (2, .inl (.long y))]) (st2 := [zi x2, .inr (21, v)]) rfl ?_
      refine zX.sn 1 (pc2 := 6) (l2 := [(0, .inr (20, v)), (1, zi x2), (2, .inl (.long y))]) (st2 := [.inl (.long y), zi x2, .inr (21, v)]) rfl ?_
      refine zX.call (mid2 := 24) (as := [.inr (21, v), zi x2, .inl (.long y)]) (rest := []) ⟨rfl, rfl⟩ (fun _ => rfl) (zX.inv rfl (P_told.1) rfl rfl) ⟨Nat.le_of_ble_eq_true rfl, Nat.le_of_ble_eq_true rfl⟩ ?_
      refine s_put (k := j) hx2 (by omega) (by omega) (by omega) hy P_told (fun h3 hv3 hF3 => ?_)
      show zX _ 78 9 [(0, .inr (20, v)), (1, zi x2), (2, .inl (.long y))] [] c s _ _
      refine zX.sn 1 (pc2 := 10) (l2 := [(0, .inr (20, v)), (1, zi x2), (2, .inl (.long y))]) (st2 := [.inr (20, v)]) rfl ?_
      refine zX.getf ⟨rfl, rfl⟩ ((hF3 20 v (by omega)).trans H_20_v) (by rcases hci with rfl | rfl | rfl | rfl <;> rfl) rfl ?_
      refine zX.sn 1 (pc2 := 14) (l2 := [(0, .inr (20, v)), (1, zi x2), (2, .inl (.long y))]) (st2 := [.inl (.long y), .inr (2, 0)]) rfl ?_
      refine zX.call (mid2 := 11) (as := [.inr (2, 0), .inl (.long y)]) (rest := []) ⟨rfl, rfl⟩ (fun _ => rfl) (zX.inv rfl (zOut.ob (zOut.fr P_out (fun za zb hi => ((hF3 za zb (by omega)).trans rfl)))) rfl rfl) ⟨Nat.le_of_ble_eq_true rfl, Nat.le_of_ble_eq_true rfl⟩ ?_
      refine s_oadd (zOut.fr P_out (fun za zb hi => ((hF3 za zb (by omega)).trans rfl))) (by first | omega | (simp only [List.length_append, List.length_cons, List.length_nil]; omega))  (fun h4 N4 c4 s4 hv4 hF4 hb4 => ?_)
      show zX _ 78 17 [(0, .inr (20, v)), (1, zi x2), (2, .inl (.long y))] [] c4 s4 _ _
      refine zX.ret rfl rfl ?_
      show zX _ 80 24 [(0, .inr (20, v)), (1, zi x), (2, zi x2), (3, .inl (.long y))] [] c4 s4 _ _
      refine zX.ret rfl rfl ?_
      exact k2 e1 e2 N4 c4 s4 hb4 _ (zRes.fr hv3 (fun za zb hi => ((hF4 za zb (by omega)).trans rfl))) hv4 (fun za zb hn => ((hF4 za zb (by omega)).trans ((hF3 za zb (by omega)).trans rfl)))
    · refine zX.sn 1 (pc2 := 16) (l2 := [(2, .inl (.long (fa k))), (0, .inr (20, v)), (1, zi x)]) (st2 := [.inr (20, v)]) rfl ?_
      refine zX.getf ⟨rfl, rfl⟩ H_20_v (by rcases hci with rfl | rfl | rfl | rfl <;> rfl) rfl ?_
      refine zX.sn 1 (pc2 := 20) (l2 := [(2, .inl (.long (fa k))), (0, .inr (20, v)), (1, zi x)]) (st2 := [zi x, .inr (21, v)]) rfl ?_
      refine zX.call (mid2 := 25) (as := [.inr (21, v), zi x]) (rest := []) ⟨rfl, rfl⟩ (fun _ => rfl) (zX.inv rfl (P_told.1) rfl rfl) ⟨Nat.le_of_ble_eq_true rfl, Nat.le_of_ble_eq_true rfl⟩ ?_
      refine s_clr (k := k) hx (by omega) (by omega) (by omega) P_told (fun h5 hv5 hF5 => ?_)
      show zX _ 79 23 [(2, .inl (.long (fa k))), (0, .inr (20, v)), (1, zi x)] [] c s _ _
      refine zX.sn 1 (pc2 := 24) (l2 := [(2, .inl (.long (fa k))), (0, .inr (20, v)), (1, zi x)]) (st2 := [.inr (20, v)]) rfl ?_
      refine zX.getf ⟨rfl, rfl⟩ ((hF5 20 v (by omega)).trans H_20_v) (by rcases hci with rfl | rfl | rfl | rfl <;> rfl) rfl ?_
      refine zX.sn 1 (pc2 := 28) (l2 := [(2, .inl (.long (fa k))), (0, .inr (20, v)), (1, zi x)]) (st2 := [.inl (.long (fa k)), .inr (2, 0)]) rfl ?_
      refine zX.s2 [] (pc2 := 31) (l2 := [(2, .inl (.long (fa k))), (0, .inr (20, v)), (1, zi x)]) (st2 := [.inl (.long (Int64.ofNat 1152921504606846976)), .inl (.long (fa k)), .inr (2, 0)]) ⟨rfl, rfl⟩ (fun _ => rfl) rfl (fun _ => rfl) ?_
      refine zX.sn 1 (pc2 := 32) (l2 := [(2, .inl (.long (fa k))), (0, .inr (20, v)), (1, zi x)]) (st2 := [.inl (.long ((fa k) ||| (Int64.ofNat 1152921504606846976))), .inr (2, 0)]) rfl ?_
      refine zX.call (mid2 := 11) (as := [.inr (2, 0), .inl (.long ((fa k) ||| (Int64.ofNat 1152921504606846976)))]) (rest := []) ⟨rfl, rfl⟩ (fun _ => rfl) (zX.inv rfl (zOut.ob (zOut.fr P_out (fun za zb hi => ((hF5 za zb (by omega)).trans rfl)))) rfl rfl) ⟨Nat.le_of_ble_eq_true rfl, Nat.le_of_ble_eq_true rfl⟩ ?_
      refine s_oadd (zOut.fr P_out (fun za zb hi => ((hF5 za zb (by omega)).trans rfl))) (by first | omega | (simp only [List.length_append, List.length_cons, List.length_nil]; omega))  (fun h6 N6 c6 s6 hv6 hF6 hb6 => ?_)
      show zX _ 79 35 [(2, .inl (.long (fa k))), (0, .inr (20, v)), (1, zi x)] [] c6 s6 _ _
      refine zX.ret rfl rfl ?_
      show zX _ 80 18 [(0, .inr (20, v)), (1, zi x), (2, zi x2), (3, .inl (.long y))] [] c6 s6 _ _
      refine zX.sn 1 (pc2 := 19) (l2 := [(0, .inr (20, v)), (1, zi x), (2, zi x2), (3, .inl (.long y))]) (st2 := [.inr (20, v)]) rfl ?_
      refine zX.sn 1 (pc2 := 20) (l2 := [(0, .inr (20, v)), (1, zi x), (2, zi x2), (3, .inl (.long y))]) (st2 := [zi x2, .inr (20, v)]) rfl ?_
      refine zX.sn 1 (pc2 := 21) (l2 := [(0, .inr (20, v)), (1, zi x), (2, zi x2), (3, .inl (.long y))]) (st2 := [.inl (.long y), zi x2, .inr (20, v)]) rfl ?_
      refine zX.call (mid2 := 78) (as := [.inr (20, v), zi x2, .inl (.long y)]) (rest := []) ⟨rfl, rfl⟩ (fun _ => rfl) (zX.inv rfl ((hF6 20 v (by omega)).trans ((hF5 20 v (by omega)).trans H_20_v)) (by rcases hci with rfl | rfl | rfl | rfl <;> rfl) rfl) ⟨Nat.le_of_ble_eq_true rfl, Nat.le_of_ble_eq_true rfl⟩ ?_
      show zX _ 78 0 [(0, .inr (20, v)), (1, zi x2), (2, .inl (.long y))] [] c6 s6 _ _
      refine zX.sn 1 (pc2 := 1) (l2 := [(0, .inr (20, v)), (1, zi x2), (2, .inl (.long y))]) (st2 := [.inr (20, v)]) rfl ?_
      refine zX.getf ⟨rfl, rfl⟩ ((hF6 20 v (by omega)).trans ((hF5 20 v (by omega)).trans H_20_v)) (by rcases hci with rfl | rfl | rfl | rfl <;> rfl) rfl ?_
      refine zX.sn 1 (pc2 := 5) (l2 := [(0, .inr (20, v)), (1, zi x2), (2, .inl (.long y))]) (st2 := [zi x2, .inr (21, v)]) rfl ?_
      refine zX.sn 1 (pc2 := 6) (l2 := [(0, .inr (20, v)), (1, zi x2), (2, .inl (.long y))]) (st2 := [.inl (.long y), zi x2, .inr (21, v)]) rfl ?_
      refine zX.call (mid2 := 24) (as := [.inr (21, v), zi x2, .inl (.long y)]) (rest := []) ⟨rfl, rfl⟩ (fun _ => rfl) (zX.inv rfl ((zRes.fr hv5 (fun za zb hi => ((hF6 za zb (by omega)).trans rfl))).1) rfl rfl) ⟨Nat.le_of_ble_eq_true rfl, Nat.le_of_ble_eq_true rfl⟩ ?_
      refine s_put (k := j) hx2 (by omega) (by omega) (by omega) hy (zRes.fr hv5 (fun za zb hi => ((hF6 za zb (by omega)).trans rfl))) (fun h7 hv7 hF7 => ?_)
      show zX _ 78 9 [(0, .inr (20, v)), (1, zi x2), (2, .inl (.long y))] [] c6 s6 _ _
      refine zX.sn 1 (pc2 := 10) (l2 := [(0, .inr (20, v)), (1, zi x2), (2, .inl (.long y))]) (st2 := [.inr (20, v)]) rfl ?_
      refine zX.getf ⟨rfl, rfl⟩ ((hF7 20 v (by omega)).trans ((hF6 20 v (by omega)).trans ((hF5 20 v (by omega)).trans H_20_v))) (by rcases hci with rfl | rfl | rfl | rfl <;> rfl) rfl ?_
      refine zX.sn 1 (pc2 := 14) (l2 := [(0, .inr (20, v)), (1, zi x2), (2, .inl (.long y))]) (st2 := [.inl (.long y), .inr (2, 0)]) rfl ?_
      refine zX.call (mid2 := 11) (as := [.inr (2, 0), .inl (.long y)]) (rest := []) ⟨rfl, rfl⟩ (fun _ => rfl) (zX.inv rfl (zOut.ob (zOut.fr hv6 (fun za zb hi => ((hF7 za zb (by omega)).trans rfl)))) rfl rfl) ⟨Nat.le_of_ble_eq_true rfl, Nat.le_of_ble_eq_true rfl⟩ ?_
      refine s_oadd (zOut.fr hv6 (fun za zb hi => ((hF7 za zb (by omega)).trans rfl))) (by first | omega | (simp only [List.length_append, List.length_cons, List.length_nil]; omega))  (fun h8 N8 c8 s8 hv8 hF8 hb8 => ?_)
      show zX _ 78 17 [(0, .inr (20, v)), (1, zi x2), (2, .inl (.long y))] [] c8 s8 _ _
      refine zX.ret rfl rfl ?_
      show zX _ 80 24 [(0, .inr (20, v)), (1, zi x), (2, zi x2), (3, .inl (.long y))] [] c8 s8 _ _
      refine zX.ret rfl rfl ?_
      exact k3 e1 e2 N6 c6 s6 hb6 N8 c8 s8 hb8 _ (zRes.fr hv7 (fun za zb hi => ((hF8 za zb (by omega)).trans rfl))) hv8 (fun za zb hn => ((hF8 za zb (by omega)).trans ((hF7 za zb (by omega)).trans ((hF6 za zb (by omega)).trans ((hF5 za zb (by omega)).trans rfl)))))

set_option maxHeartbeats 4000000 in
theorem r_hold {d c s : Nat} {h : xH} {Q : xR → Nat → Nat → xH → Prop} {v sz gr : Nat} {bs fi : Int} {dr : Int32} {ci : Nat} {tl : List xV} {hd : Nat → Int32} {x : Int} {k : Nat} {m : Int} (hx : x = (k : Int)) (hk : k < 8) (hv : v < 8) (hsz : 1 ≤ sz ∧ sz ≤ 200) (hgr : gr ≤ 200) (hci : ci = 2 ∨ ci = 6 ∨ ci = 8 ∨ ci = 9) (H_20_v : h (20, v) = some (.inl (ci, (zi (v : Int) :: zi bs :: zi fi :: zi (sz : Int) :: zi (gr : Int) :: .inr (2, 0) :: .inr (21, v) :: .inr (23, v) :: .inr (25, v) :: .inl (.int dr) :: tl)))) (H_25_v : h (25, v) = some (.inr (0, 8, zI hd)))
    (k1 : ∀ h' : xH, h' (25, v) = some (.inr (0, 8, zI (zfi hd k ((hd k) + (Int32.ofInt m))))) → (∀ za zb : Nat, ¬ ((za = 25 ∧ zb = v)) → h' (za, zb) = h (za, zb)) → Q (.inl none) c s h') :
    zX d 81 0 [(0, .inr (20, v)), (1, zi x), (2, zi m)] [] c s h Q := by
  refine zX.sn 1 (pc2 := 1) (l2 := [(0, .inr (20, v)), (1, zi x), (2, zi m)]) (st2 := [zi x]) rfl ?_
  refine zX.icmp0 (tgt := 23) ⟨rfl, rfl⟩ rfl (by omega) (fun (zz : x < 0) => absurd zz (by omega)) (fun (e1 : 0 ≤ x) => ?_)
  refine zX.sn 1 (pc2 := 5) (l2 := [(0, .inr (20, v)), (1, zi x), (2, zi m)]) (st2 := [zi x]) rfl ?_
  refine zX.sn 1 (pc2 := 6) (l2 := [(0, .inr (20, v)), (1, zi x), (2, zi m)]) (st2 := [.inr (20, v), zi x]) rfl ?_
  refine zX.getf ⟨rfl, rfl⟩ H_20_v (by rcases hci with rfl | rfl | rfl | rfl <;> rfl) rfl ?_
  refine zX.alen ⟨rfl, rfl⟩ H_25_v ?_
  show zX _ 81 10 [(0, .inr (20, v)), (1, zi x), (2, zi m)] [zi 8, zi x] c s _ _
  refine zX.icmp (tgt := 23) ⟨rfl, rfl⟩ rfl (by omega) (by omega) (fun (zz : 8 ≤ x) => absurd zz (by omega)) (fun (e2 : x < 8) => ?_)
  refine zX.sn 1 (pc2 := 14) (l2 := [(0, .inr (20, v)), (1, zi x), (2, zi m)]) (st2 := [.inr (20, v)]) rfl ?_
  refine zX.getf ⟨rfl, rfl⟩ H_20_v (by rcases hci with rfl | rfl | rfl | rfl <;> rfl) rfl ?_
  refine zX.sn 1 (pc2 := 18) (l2 := [(0, .inr (20, v)), (1, zi x), (2, zi m)]) (st2 := [zi x, .inr (25, v)]) rfl ?_
  refine zX.sn 1 (pc2 := 19) (l2 := [(0, .inr (20, v)), (1, zi x), (2, zi m)]) (st2 := [zi x, .inr (25, v), zi x, .inr (25, v)]) rfl ?_
  refine zX.iald (j := k) ⟨rfl, rfl⟩ H_25_v hx (by omega) (by omega) ?_
  show zX _ 81 20 [(0, .inr (20, v)), (1, zi x), (2, zi m)] [.inl (.int (hd k)), zi x, .inr (25, v)] c s _ _
  refine zX.sn 1 (pc2 := 21) (l2 := [(0, .inr (20, v)), (1, zi x), (2, zi m)]) (st2 := [zi m, .inl (.int (hd k)), zi x, .inr (25, v)]) rfl ?_
  refine zX.sn 1 (pc2 := 22) (l2 := [(0, .inr (20, v)), (1, zi x), (2, zi m)]) (st2 := [.inl (.int ((hd k) + (Int32.ofInt m))), zi x, .inr (25, v)]) rfl ?_
  refine zX.iast (j := k) ⟨rfl, rfl⟩ H_25_v (by omega) hx (by omega) (by omega) ?_
  show zX _ 81 23 [(0, .inr (20, v)), (1, zi x), (2, zi m)] [] c s (xup h (25, v) (.inr (0, 8, zI (zfi hd k ((hd k) + (Int32.ofInt m)))))) _
  refine zX.ret rfl rfl ?_
  exact k1 _ zup_s (fun za zb hn => (zup_n (zn (by omega)) rfl))

set_option maxHeartbeats 4000000 in
theorem r_heldOf {d c s : Nat} {h : xH} {Q : xR → Nat → Nat → xH → Prop} {v sz gr : Nat} {bs fi : Int} {dr : Int32} {ci : Nat} {tl : List xV} {hd : Nat → Int32} {x : Int} {k : Nat} (hx : x = (k : Int)) (hk : k < 8) (hv : v < 8) (hsz : 1 ≤ sz ∧ sz ≤ 200) (hgr : gr ≤ 200) (hci : ci = 2 ∨ ci = 6 ∨ ci = 8 ∨ ci = 9) (H_20_v : h (20, v) = some (.inl (ci, (zi (v : Int) :: zi bs :: zi fi :: zi (sz : Int) :: zi (gr : Int) :: .inr (2, 0) :: .inr (21, v) :: .inr (23, v) :: .inr (25, v) :: .inl (.int dr) :: tl)))) (H_25_v : h (25, v) = some (.inr (0, 8, zI hd)))
    (k1 : Q (.inl (some (.inl (.int (hd k))))) c s h) :
    zX d 82 0 [(0, .inr (20, v)), (1, zi x)] [] c s h Q := by
  refine zX.sn 1 (pc2 := 1) (l2 := [(0, .inr (20, v)), (1, zi x)]) (st2 := [zi x]) rfl ?_
  refine zX.icmp0 (tgt := 22) ⟨rfl, rfl⟩ rfl (by omega) (fun (zz : x < 0) => absurd zz (by omega)) (fun (e1 : 0 ≤ x) => ?_)
  refine zX.sn 1 (pc2 := 5) (l2 := [(0, .inr (20, v)), (1, zi x)]) (st2 := [zi x]) rfl ?_
  refine zX.sn 1 (pc2 := 6) (l2 := [(0, .inr (20, v)), (1, zi x)]) (st2 := [.inr (20, v), zi x]) rfl ?_
  refine zX.getf ⟨rfl, rfl⟩ H_20_v (by rcases hci with rfl | rfl | rfl | rfl <;> rfl) rfl ?_
  refine zX.alen ⟨rfl, rfl⟩ H_25_v ?_
  show zX _ 82 10 [(0, .inr (20, v)), (1, zi x)] [zi 8, zi x] c s _ _
  refine zX.icmp (tgt := 22) ⟨rfl, rfl⟩ rfl (by omega) (by omega) (fun (zz : 8 ≤ x) => absurd zz (by omega)) (fun (e2 : x < 8) => ?_)
  refine zX.sn 1 (pc2 := 14) (l2 := [(0, .inr (20, v)), (1, zi x)]) (st2 := [.inr (20, v)]) rfl ?_
  refine zX.getf ⟨rfl, rfl⟩ H_20_v (by rcases hci with rfl | rfl | rfl | rfl <;> rfl) rfl ?_
  refine zX.sn 1 (pc2 := 18) (l2 := [(0, .inr (20, v)), (1, zi x)]) (st2 := [zi x, .inr (25, v)]) rfl ?_
  refine zX.iald (j := k) ⟨rfl, rfl⟩ H_25_v hx (by omega) (by omega) ?_
  show zX _ 82 19 [(0, .inr (20, v)), (1, zi x)] [.inl (.int (hd k))] c s _ _
  refine zX.sn 1 (pc2 := 23) (l2 := [(0, .inr (20, v)), (1, zi x)]) (st2 := [.inl (.int (hd k))]) rfl ?_
  refine zX.ret rfl rfl ?_
  exact k1

set_option maxHeartbeats 4000000 in
theorem r_late {d c s : Nat} {h : xH} {Q : xR → Nat → Nat → xH → Prop} {v sz gr : Nat} {bs fi : Int} {dr : Int32} {ci : Nat} {tl : List xV} {re pt ky tm od : Nat} {ir il va ah bd : Int} (hv : v < 8) (hsz : 1 ≤ sz ∧ sz ≤ 200) (hgr : gr ≤ 200) (hci : ci = 2 ∨ ci = 6 ∨ ci = 8 ∨ ci = 9) (hky : ky < 8) (htm : tm < 1000) (hva : -99 ≤ va ∧ va ≤ 99) (hah : -1 ≤ ah ∧ ah < 1000) (hir : 0 ≤ ir ∧ ir ≤ 1) (hil : 0 ≤ il ∧ il ≤ 1) (hpt : pt < 3) (hod : od < 240) (H_20_v : h (20, v) = some (.inl (ci, (zi (v : Int) :: zi bs :: zi fi :: zi (sz : Int) :: zi (gr : Int) :: .inr (2, 0) :: .inr (21, v) :: .inr (23, v) :: .inr (25, v) :: .inl (.int dr) :: tl)))) (H_8_re : h (8, re) = some (.inl (1, [zi (pt : Int), zi ir, zi il, zi (ky : Int), zi (tm : Int), zi va, zi (od : Int), zi ah, zi bd])))
    (k1 : (ah < ((((tm : Int) + (sz : Int)) + 1) + (gr : Int))) → Q (.inl (some (zi 0))) c s h)
    (k2 : (((((tm : Int) + (sz : Int)) + 1) + (gr : Int)) ≤ ah) → Q (.inl (some (zi 1))) c s h) :
    zX d 84 0 [(0, .inr (20, v)), (1, .inr (8, re))] [] c s h Q := by
  refine zX.sn 1 (pc2 := 1) (l2 := [(0, .inr (20, v)), (1, .inr (8, re))]) (st2 := [.inr (8, re)]) rfl ?_
  refine zX.getf ⟨rfl, rfl⟩ H_8_re rfl rfl ?_
  refine zX.sn 1 (pc2 := 5) (l2 := [(0, .inr (20, v)), (1, .inr (8, re))]) (st2 := [.inr (8, re), zi ah]) rfl ?_
  refine zX.getf ⟨rfl, rfl⟩ H_8_re rfl rfl ?_
  refine zX.sn 1 (pc2 := 9) (l2 := [(0, .inr (20, v)), (1, .inr (8, re))]) (st2 := [.inr (20, v), zi (tm : Int), zi ah]) rfl ?_
  refine zX.getf ⟨rfl, rfl⟩ H_20_v (by rcases hci with rfl | rfl | rfl | rfl <;> rfl) rfl ?_
  refine zX.iadd ⟨rfl, rfl⟩ ?_
  refine zX.sn 1 (pc2 := 14) (l2 := [(0, .inr (20, v)), (1, .inr (8, re))]) (st2 := [zi 1, zi ((tm : Int) + (sz : Int)), zi ah]) rfl ?_
  refine zX.iadd ⟨rfl, rfl⟩ ?_
  refine zX.sn 1 (pc2 := 16) (l2 := [(0, .inr (20, v)), (1, .inr (8, re))]) (st2 := [.inr (20, v), zi (((tm : Int) + (sz : Int)) + 1), zi ah]) rfl ?_
  refine zX.getf ⟨rfl, rfl⟩ H_20_v (by rcases hci with rfl | rfl | rfl | rfl <;> rfl) rfl ?_
  refine zX.iadd ⟨rfl, rfl⟩ ?_
  refine zX.icmp (tgt := 27) ⟨rfl, rfl⟩ rfl (by omega) (by omega) (fun (e1 : ah < ((((tm : Int) + (sz : Int)) + 1) + (gr : Int))) => ?_) (fun (e1 : ((((tm : Int) + (sz : Int)) + 1) + (gr : Int)) ≤ ah) => ?_)
  · refine zX.sn 1 (pc2 := 28) (l2 := [(0, .inr (20, v)), (1, .inr (8, re))]) (st2 := [zi 0]) rfl ?_
    refine zX.ret rfl (zret_z rfl (by decide)) ?_
    exact k1 e1
  · refine zX.sn 1 (pc2 := 24) (l2 := [(0, .inr (20, v)), (1, .inr (8, re))]) (st2 := [zi 1]) rfl ?_
    refine zX.sn 1 (pc2 := 28) (l2 := [(0, .inr (20, v)), (1, .inr (8, re))]) (st2 := [zi 1]) rfl ?_
    refine zX.ret rfl (zret_z rfl (by decide)) ?_
    exact k2 e1

set_option maxHeartbeats 4000000 in
theorem r_lets {d c s : Nat} {h : xH} {Q : xR → Nat → Nat → xH → Prop} {v sz gr : Nat} {bs fi : Int} {dr : Int32} {ci : Nat} {tl : List xV} {re pt ky tm od : Nat} {ir il va ah bd : Int} (hv : v < 8) (hsz : 1 ≤ sz ∧ sz ≤ 200) (hgr : gr ≤ 200) (hci : ci = 2 ∨ ci = 6 ∨ ci = 8 ∨ ci = 9) (hky : ky < 8) (htm : tm < 1000) (hva : -99 ≤ va ∧ va ≤ 99) (hah : -1 ≤ ah ∧ ah < 1000) (hir : 0 ≤ ir ∧ ir ≤ 1) (hil : 0 ≤ il ∧ il ≤ 1) (hpt : pt < 3) (hod : od < 240) (hbs : 0 ≤ bs ∧ bs ≤ 1) (hfi : 0 ≤ fi ∧ fi < 65536) (H_20_v : h (20, v) = some (.inl (ci, (zi (v : Int) :: zi bs :: zi fi :: zi (sz : Int) :: zi (gr : Int) :: .inr (2, 0) :: .inr (21, v) :: .inr (23, v) :: .inr (25, v) :: .inl (.int dr) :: tl)))) (H_8_re : h (8, re) = some (.inl (1, [zi (pt : Int), zi ir, zi il, zi (ky : Int), zi (tm : Int), zi va, zi (od : Int), zi ah, zi bd])))
    (k1 : (ir = 0) → Q (.inl (some (zi 0))) c s h)
    (k2 : (¬ ir = 0) → (¬ il = 0) → (¬ fi = 101) → (¬ fi = 112) → Q (.inl (some (zi 1))) c s h)
    (k3 : (¬ ir = 0) → (¬ il = 0) → (¬ fi = 101) → (fi = 112) → (va ≤ 0) → Q (.inl (some (zi 0))) c s h)
    (k4 : (¬ ir = 0) → (¬ il = 0) → (¬ fi = 101) → (fi = 112) → (0 < va) → Q (.inl (some (zi 1))) c s h)
    (k5 : (¬ ir = 0) → (¬ il = 0) → (fi = 101) → (¬ ((Int32.ofInt va) &&& (Int32.ofInt 1)) = 0) → Q (.inl (some (zi 0))) c s h)
    (k6 : (¬ ir = 0) → (¬ il = 0) → (fi = 101) → (((Int32.ofInt va) &&& (Int32.ofInt 1)) = 0) → Q (.inl (some (zi 1))) c s h)
    (k7 : (¬ ir = 0) → (il = 0) → (¬ bs = 0) → (¬ fi = 101) → (¬ fi = 112) → Q (.inl (some (zi 1))) c s h)
    (k8 : (¬ ir = 0) → (il = 0) → (¬ bs = 0) → (¬ fi = 101) → (fi = 112) → (va ≤ 0) → Q (.inl (some (zi 0))) c s h)
    (k9 : (¬ ir = 0) → (il = 0) → (¬ bs = 0) → (¬ fi = 101) → (fi = 112) → (0 < va) → Q (.inl (some (zi 1))) c s h)
    (k10 : (¬ ir = 0) → (il = 0) → (¬ bs = 0) → (fi = 101) → (¬ ((Int32.ofInt va) &&& (Int32.ofInt 1)) = 0) → Q (.inl (some (zi 0))) c s h)
    (k11 : (¬ ir = 0) → (il = 0) → (¬ bs = 0) → (fi = 101) → (((Int32.ofInt va) &&& (Int32.ofInt 1)) = 0) → Q (.inl (some (zi 1))) c s h)
    (k12 : (¬ ir = 0) → (il = 0) → (bs = 0) → Q (.inl (some (zi 0))) c s h) :
    zX d 75 0 [(0, .inr (20, v)), (1, .inr (8, re))] [] c s h Q := by
  refine zX.sn 1 (pc2 := 1) (l2 := [(0, .inr (20, v)), (1, .inr (8, re))]) (st2 := [.inr (8, re)]) rfl ?_
  refine zX.getf ⟨rfl, rfl⟩ H_8_re rfl rfl ?_
  refine zX.icmp0 (tgt := 21) ⟨rfl, rfl⟩ rfl (by omega) (fun (e1 : ir = 0) => ?_) (fun (e1 : ¬ ir = 0) => ?_)
  · refine zX.sn 1 (pc2 := 22) (l2 := [(0, .inr (20, v)), (1, .inr (8, re))]) (st2 := [zi 0]) rfl ?_
    refine zX.ret rfl (zret_z rfl (by decide)) ?_
    exact k1 e1
  · refine zX.sn 1 (pc2 := 8) (l2 := [(0, .inr (20, v)), (1, .inr (8, re))]) (st2 := [.inr (8, re)]) rfl ?_
    refine zX.getf ⟨rfl, rfl⟩ H_8_re rfl rfl ?_
    refine zX.icmp0 (tgt := 23) ⟨rfl, rfl⟩ rfl (by omega) (fun (e2 : ¬ il = 0) => ?_) (fun (e2 : il = 0) => ?_)
    · refine zX.sn 1 (pc2 := 24) (l2 := [(0, .inr (20, v)), (1, .inr (8, re))]) (st2 := [.inr (20, v)]) rfl ?_
      refine zX.getf ⟨rfl, rfl⟩ H_20_v (by rcases hci with rfl | rfl | rfl | rfl <;> rfl) rfl ?_
      refine zX.sn 1 (pc2 := 29) (l2 := [(0, .inr (20, v)), (1, .inr (8, re))]) (st2 := [zi 101, zi fi]) rfl ?_
      refine zX.icmp (tgt := 47) ⟨rfl, rfl⟩ rfl (by omega) (by omega) (fun (e3 : ¬ fi = 101) => ?_) (fun (e3 : fi = 101) => ?_)
      · refine zX.sn 1 (pc2 := 48) (l2 := [(0, .inr (20, v)), (1, .inr (8, re))]) (st2 := [.inr (20, v)]) rfl ?_
        refine zX.getf ⟨rfl, rfl⟩ H_20_v (by rcases hci with rfl | rfl | rfl | rfl <;> rfl) rfl ?_
        refine zX.sn 1 (pc2 := 53) (l2 := [(0, .inr (20, v)), (1, .inr (8, re))]) (st2 := [zi 112, zi fi]) rfl ?_
        refine zX.icmp (tgt := 63) ⟨rfl, rfl⟩ rfl (by omega) (by omega) (fun (e4 : ¬ fi = 112) => ?_) (fun (e4 : fi = 112) => ?_)
        · refine zX.sn 1 (pc2 := 64) (l2 := [(0, .inr (20, v)), (1, .inr (8, re))]) (st2 := [zi 1]) rfl ?_
          refine zX.sn 1 (pc2 := 68) (l2 := [(0, .inr (20, v)), (1, .inr (8, re))]) (st2 := [zi 1]) rfl ?_
          refine zX.ret rfl (zret_z rfl (by decide)) ?_
          exact k2 e1 e2 e3 e4
        · refine zX.sn 1 (pc2 := 57) (l2 := [(0, .inr (20, v)), (1, .inr (8, re))]) (st2 := [.inr (8, re)]) rfl ?_
          refine zX.getf ⟨rfl, rfl⟩ H_8_re rfl rfl ?_
          refine zX.icmp0 (tgt := 67) ⟨rfl, rfl⟩ rfl (by omega) (fun (e5 : va ≤ 0) => ?_) (fun (e5 : 0 < va) => ?_)
          · refine zX.sn 1 (pc2 := 68) (l2 := [(0, .inr (20, v)), (1, .inr (8, re))]) (st2 := [zi 0]) rfl ?_
            refine zX.ret rfl (zret_z rfl (by decide)) ?_
            exact k3 e1 e2 e3 e4 e5
          · refine zX.sn 1 (pc2 := 64) (l2 := [(0, .inr (20, v)), (1, .inr (8, re))]) (st2 := [zi 1]) rfl ?_
            refine zX.sn 1 (pc2 := 68) (l2 := [(0, .inr (20, v)), (1, .inr (8, re))]) (st2 := [zi 1]) rfl ?_
            refine zX.ret rfl (zret_z rfl (by decide)) ?_
            exact k4 e1 e2 e3 e4 e5
      · refine zX.sn 1 (pc2 := 33) (l2 := [(0, .inr (20, v)), (1, .inr (8, re))]) (st2 := [.inr (8, re)]) rfl ?_
        refine zX.getf ⟨rfl, rfl⟩ H_8_re rfl rfl ?_
        refine zX.sn 1 (pc2 := 37) (l2 := [(0, .inr (20, v)), (1, .inr (8, re))]) (st2 := [zi 1, zi va]) rfl ?_
        refine zX.sn 1 (pc2 := 38) (l2 := [(0, .inr (20, v)), (1, .inr (8, re))]) (st2 := [.inl (.int ((Int32.ofInt va) &&& (Int32.ofInt 1)))]) rfl ?_
        refine zX.rcmp0 (tgt := 45) ⟨rfl, rfl⟩ rfl (fun (e6 : ¬ ((Int32.ofInt va) &&& (Int32.ofInt 1)) = 0) => ?_) (fun (e6 : ((Int32.ofInt va) &&& (Int32.ofInt 1)) = 0) => ?_)
        · refine zX.sn 1 (pc2 := 46) (l2 := [(0, .inr (20, v)), (1, .inr (8, re))]) (st2 := [zi 0]) rfl ?_
          refine zX.ret rfl (zret_z rfl (by decide)) ?_
          exact k5 e1 e2 e3 e6
        · refine zX.sn 1 (pc2 := 42) (l2 := [(0, .inr (20, v)), (1, .inr (8, re))]) (st2 := [zi 1]) rfl ?_
          refine zX.sn 1 (pc2 := 46) (l2 := [(0, .inr (20, v)), (1, .inr (8, re))]) (st2 := [zi 1]) rfl ?_
          refine zX.ret rfl (zret_z rfl (by decide)) ?_
          exact k6 e1 e2 e3 e6
    · refine zX.sn 1 (pc2 := 15) (l2 := [(0, .inr (20, v)), (1, .inr (8, re))]) (st2 := [.inr (20, v)]) rfl ?_
      refine zX.getf ⟨rfl, rfl⟩ H_20_v (by rcases hci with rfl | rfl | rfl | rfl <;> rfl) rfl ?_
      refine zX.icmp0 (tgt := 23) ⟨rfl, rfl⟩ rfl (by omega) (fun (e7 : ¬ bs = 0) => ?_) (fun (e7 : bs = 0) => ?_)
      · refine zX.sn 1 (pc2 := 24) (l2 := [(0, .inr (20, v)), (1, .inr (8, re))]) (st2 := [.inr (20, v)]) rfl ?_
        refine zX.getf ⟨rfl, rfl⟩ H_20_v (by rcases hci with rfl | rfl | rfl | rfl <;> rfl) rfl ?_
        refine zX.sn 1 (pc2 := 29) (l2 := [(0, .inr (20, v)), (1, .inr (8, re))]) (st2 := [zi 101, zi fi]) rfl ?_
        refine zX.icmp (tgt := 47) ⟨rfl, rfl⟩ rfl (by omega) (by omega) (fun (e8 : ¬ fi = 101) => ?_) (fun (e8 : fi = 101) => ?_)
        · refine zX.sn 1 (pc2 := 48) (l2 := [(0, .inr (20, v)), (1, .inr (8, re))]) (st2 := [.inr (20, v)]) rfl ?_
          refine zX.getf ⟨rfl, rfl⟩ H_20_v (by rcases hci with rfl | rfl | rfl | rfl <;> rfl) rfl ?_
          refine zX.sn 1 (pc2 := 53) (l2 := [(0, .inr (20, v)), (1, .inr (8, re))]) (st2 := [zi 112, zi fi]) rfl ?_
          refine zX.icmp (tgt := 63) ⟨rfl, rfl⟩ rfl (by omega) (by omega) (fun (e9 : ¬ fi = 112) => ?_) (fun (e9 : fi = 112) => ?_)
          · refine zX.sn 1 (pc2 := 64) (l2 := [(0, .inr (20, v)), (1, .inr (8, re))]) (st2 := [zi 1]) rfl ?_
            refine zX.sn 1 (pc2 := 68) (l2 := [(0, .inr (20, v)), (1, .inr (8, re))]) (st2 := [zi 1]) rfl ?_
            refine zX.ret rfl (zret_z rfl (by decide)) ?_
            exact k7 e1 e2 e7 e8 e9
          · refine zX.sn 1 (pc2 := 57) (l2 := [(0, .inr (20, v)), (1, .inr (8, re))]) (st2 := [.inr (8, re)]) rfl ?_
            refine zX.getf ⟨rfl, rfl⟩ H_8_re rfl rfl ?_
            refine zX.icmp0 (tgt := 67) ⟨rfl, rfl⟩ rfl (by omega) (fun (e10 : va ≤ 0) => ?_) (fun (e10 : 0 < va) => ?_)
            · refine zX.sn 1 (pc2 := 68) (l2 := [(0, .inr (20, v)), (1, .inr (8, re))]) (st2 := [zi 0]) rfl ?_
              refine zX.ret rfl (zret_z rfl (by decide)) ?_
              exact k8 e1 e2 e7 e8 e9 e10
            · refine zX.sn 1 (pc2 := 64) (l2 := [(0, .inr (20, v)), (1, .inr (8, re))]) (st2 := [zi 1]) rfl ?_
              refine zX.sn 1 (pc2 := 68) (l2 := [(0, .inr (20, v)), (1, .inr (8, re))]) (st2 := [zi 1]) rfl ?_
              refine zX.ret rfl (zret_z rfl (by decide)) ?_
              exact k9 e1 e2 e7 e8 e9 e10
        · refine zX.sn 1 (pc2 := 33) (l2 := [(0, .inr (20, v)), (1, .inr (8, re))]) (st2 := [.inr (8, re)]) rfl ?_
          refine zX.getf ⟨rfl, rfl⟩ H_8_re rfl rfl ?_
          refine zX.sn 1 (pc2 := 37) (l2 := [(0, .inr (20, v)), (1, .inr (8, re))]) (st2 := [zi 1, zi va]) rfl ?_
          refine zX.sn 1 (pc2 := 38) (l2 := [(0, .inr (20, v)), (1, .inr (8, re))]) (st2 := [.inl (.int ((Int32.ofInt va) &&& (Int32.ofInt 1)))]) rfl ?_
          refine zX.rcmp0 (tgt := 45) ⟨rfl, rfl⟩ rfl (fun (e11 : ¬ ((Int32.ofInt va) &&& (Int32.ofInt 1)) = 0) => ?_) (fun (e11 : ((Int32.ofInt va) &&& (Int32.ofInt 1)) = 0) => ?_)
          · refine zX.sn 1 (pc2 := 46) (l2 := [(0, .inr (20, v)), (1, .inr (8, re))]) (st2 := [zi 0]) rfl ?_
            refine zX.ret rfl (zret_z rfl (by decide)) ?_
            exact k10 e1 e2 e7 e8 e11
          · refine zX.sn 1 (pc2 := 42) (l2 := [(0, .inr (20, v)), (1, .inr (8, re))]) (st2 := [zi 1]) rfl ?_
            refine zX.sn 1 (pc2 := 46) (l2 := [(0, .inr (20, v)), (1, .inr (8, re))]) (st2 := [zi 1]) rfl ?_
            refine zX.ret rfl (zret_z rfl (by decide)) ?_
            exact k11 e1 e2 e7 e8 e11
      · refine zX.sn 1 (pc2 := 22) (l2 := [(0, .inr (20, v)), (1, .inr (8, re))]) (st2 := [zi 0]) rfl ?_
        refine zX.ret rfl (zret_z rfl (by decide)) ?_
        exact k12 e1 e2 e7

set_option maxHeartbeats 4000000 in
theorem r_hall {d c s : Nat} {h : xH} {Q : xR → Nat → Nat → xH → Prop} {v sz gr : Nat} {bs fi : Int} {dr : Int32} {ci : Nat} {tl : List xV} {hd : Nat → Int32} {a : Int32} {j : Nat} (hj : j ≤ 8) (hv : v < 8) (hsz : 1 ≤ sz ∧ sz ≤ 200) (hgr : gr ≤ 200) (hci : ci = 2 ∨ ci = 6 ∨ ci = 8 ∨ ci = 9) (H_20_v : h (20, v) = some (.inl (ci, (zi (v : Int) :: zi bs :: zi fi :: zi (sz : Int) :: zi (gr : Int) :: .inr (2, 0) :: .inr (21, v) :: .inr (23, v) :: .inr (25, v) :: .inl (.int dr) :: tl)))) (H_25_v : h (25, v) = some (.inr (0, 8, zI hd)))
    (k1 : (8 ≤ (j : Int)) → Q (.inl (some (.inl (.int a)))) c s h)
    (k2 : ((j : Int) < 8) → zX d 83 4 [(0, .inr (20, v)), (1, .inl (.int (a + (hd j)))), (2, zi ((j : Int) + 1))] [] c s h Q) :
    zX d 83 4 [(0, .inr (20, v)), (1, .inl (.int a)), (2, zi (j : Int))] [] c s h Q := by
  refine zX.sn 1 (pc2 := 5) (l2 := [(0, .inr (20, v)), (1, .inl (.int a)), (2, zi (j : Int))]) (st2 := [zi (j : Int)]) rfl ?_
  refine zX.sn 1 (pc2 := 6) (l2 := [(0, .inr (20, v)), (1, .inl (.int a)), (2, zi (j : Int))]) (st2 := [.inr (20, v), zi (j : Int)]) rfl ?_
  refine zX.getf ⟨rfl, rfl⟩ H_20_v (by rcases hci with rfl | rfl | rfl | rfl <;> rfl) rfl ?_
  refine zX.alen ⟨rfl, rfl⟩ H_25_v ?_
  show zX _ 83 10 [(0, .inr (20, v)), (1, .inl (.int a)), (2, zi (j : Int))] [zi 8, zi (j : Int)] c s _ _
  refine zX.icmp (tgt := 28) ⟨rfl, rfl⟩ rfl (by omega) (by omega) (fun (e1 : 8 ≤ (j : Int)) => ?_) (fun (e1 : (j : Int) < 8) => ?_)
  · refine zX.sn 1 (pc2 := 29) (l2 := [(0, .inr (20, v)), (1, .inl (.int a)), (2, zi (j : Int))]) (st2 := [.inl (.int a)]) rfl ?_
    refine zX.ret rfl rfl ?_
    exact k1 e1
  · refine zX.sn 1 (pc2 := 14) (l2 := [(0, .inr (20, v)), (1, .inl (.int a)), (2, zi (j : Int))]) (st2 := [.inl (.int a)]) rfl ?_
    refine zX.sn 1 (pc2 := 15) (l2 := [(0, .inr (20, v)), (1, .inl (.int a)), (2, zi (j : Int))]) (st2 := [.inr (20, v), .inl (.int a)]) rfl ?_
    refine zX.getf ⟨rfl, rfl⟩ H_20_v (by rcases hci with rfl | rfl | rfl | rfl <;> rfl) rfl ?_
    refine zX.sn 1 (pc2 := 19) (l2 := [(0, .inr (20, v)), (1, .inl (.int a)), (2, zi (j : Int))]) (st2 := [zi (j : Int), .inr (25, v), .inl (.int a)]) rfl ?_
    refine zX.iald (j := j) ⟨rfl, rfl⟩ H_25_v rfl (by omega) (by omega) ?_
    show zX _ 83 20 [(0, .inr (20, v)), (1, .inl (.int a)), (2, zi (j : Int))] [.inl (.int (hd j)), .inl (.int a)] c s _ _
    refine zX.sn 1 (pc2 := 21) (l2 := [(0, .inr (20, v)), (1, .inl (.int a)), (2, zi (j : Int))]) (st2 := [.inl (.int (a + (hd j)))]) rfl ?_
    refine zX.sn 1 (pc2 := 22) (l2 := [(1, .inl (.int (a + (hd j)))), (0, .inr (20, v)), (2, zi (j : Int))]) (st2 := []) rfl ?_
    refine zX.s1 (pc2 := 25) (l2 := [(2, zi ((j : Int) + 1)), (1, .inl (.int (a + (hd j)))), (0, .inr (20, v))]) (st2 := []) ⟨rfl, rfl⟩ (by rw [show (zi ((j : Int) + 1) : xV) = .inl (.int (Int32.ofInt (j : Int) + 1)) from congrArg (fun z => (.inl (.int z) : xV)) (Int32.ofInt_add _ _)]; rfl) ?_
    refine zX.sn 1 (pc2 := 4) (l2 := [(2, zi ((j : Int) + 1)), (1, .inl (.int (a + (hd j)))), (0, .inr (20, v))]) (st2 := []) rfl ?_
    refine zX.re [(0, .inr (20, v)), (1, .inl (.int (a + (hd j)))), (2, zi ((j : Int) + 1))] [2, 1, 0] [2, 1, 0] rfl rfl (by decide) ?_
    exact k2 e1

set_option maxHeartbeats 4000000 in
theorem r_hall0 {d c s : Nat} {h : xH} {Q : xR → Nat → Nat → xH → Prop} {v sz gr : Nat} {bs fi : Int} {dr : Int32} {ci : Nat} {tl : List xV} {hd : Nat → Int32} (hv : v < 8) (hsz : 1 ≤ sz ∧ sz ≤ 200) (hgr : gr ≤ 200) (hci : ci = 2 ∨ ci = 6 ∨ ci = 8 ∨ ci = 9) (H_20_v : h (20, v) = some (.inl (ci, (zi (v : Int) :: zi bs :: zi fi :: zi (sz : Int) :: zi (gr : Int) :: .inr (2, 0) :: .inr (21, v) :: .inr (23, v) :: .inr (25, v) :: .inl (.int dr) :: tl)))) (H_25_v : h (25, v) = some (.inr (0, 8, zI hd)))
    (k1 : zX d 83 4 [(0, .inr (20, v)), (1, zi 0), (2, zi 0)] [] c s h Q) :
    zX d 83 0 [(0, .inr (20, v))] [] c s h Q := by
  refine zX.sn 1 (pc2 := 1) (l2 := [(0, .inr (20, v))]) (st2 := [zi 0]) rfl ?_
  refine zX.sn 1 (pc2 := 2) (l2 := [(1, zi 0), (0, .inr (20, v))]) (st2 := []) rfl ?_
  refine zX.sn 1 (pc2 := 3) (l2 := [(1, zi 0), (0, .inr (20, v))]) (st2 := [zi 0]) rfl ?_
  refine zX.sn 1 (pc2 := 4) (l2 := [(2, zi 0), (1, zi 0), (0, .inr (20, v))]) (st2 := []) rfl ?_
  refine zX.re [(0, .inr (20, v)), (1, zi 0), (2, zi 0)] [2, 1, 0] [2, 1, 0] rfl rfl (by decide) ?_
  exact k1

end ZR50
