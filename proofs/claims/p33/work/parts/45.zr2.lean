set_option maxRecDepth 100000
section ZR45
set_option maxHeartbeats 4000000 in
theorem r_fillJ0 {d c s : Nat} {h : xH} {Q : xR → Nat → Nat → xH → Prop} {ro i L : Nat} {f : Nat → Int64} {y : Int64} (h0 : 0 < ro) (hL : L ≤ 67108864) (H_ro_i : h (ro, i) = some (.inr (1, L, zJ f)))
    (k1 : zX d 159 6 [(0, .inr (ro, i)), (1, .inl (.long y)), (3, zi 0), (4, zi (L : Int))] [] c s h Q) :
    zX d 159 0 [(0, .inr (ro, i)), (1, .inl (.long y))] [] c s h Q := by
  refine zX.sn 1 (pc2 := 1) (l2 := [(0, .inr (ro, i)), (1, .inl (.long y))]) (st2 := [zi 0]) rfl ?_
  refine zX.sn 1 (pc2 := 2) (l2 := [(3, zi 0), (0, .inr (ro, i)), (1, .inl (.long y))]) (st2 := []) rfl ?_
  refine zX.sn 1 (pc2 := 3) (l2 := [(3, zi 0), (0, .inr (ro, i)), (1, .inl (.long y))]) (st2 := [.inr (ro, i)]) rfl ?_
  refine zX.alen ⟨rfl, rfl⟩ H_ro_i ?_
  refine zX.sn 1 (pc2 := 6) (l2 := [(4, zi (L : Int)), (3, zi 0), (0, .inr (ro, i)), (1, .inl (.long y))]) (st2 := []) rfl ?_
  refine zX.re [(0, .inr (ro, i)), (1, .inl (.long y)), (3, zi 0), (4, zi (L : Int))] [2, 3, 1, 0] [4, 3, 0, 1] rfl rfl (by decide) ?_
  exact k1

set_option maxHeartbeats 4000000 in
theorem r_fillJ {d c s : Nat} {h : xH} {Q : xR → Nat → Nat → xH → Prop} {ro i L : Nat} {f : Nat → Int64} {y : Int64} {j : Nat} (h0 : 0 < ro) (hL : L ≤ 67108864) (hj : j ≤ L) (H_ro_i : h (ro, i) = some (.inr (1, L, zJ f)))
    (k1 : ((L : Int) ≤ (j : Int)) → Q (.inl none) c s h)
    (k2 : ((j : Int) < (L : Int)) → ∀ h' : xH, h' (ro, i) = some (.inr (1, L, zJ (zfi f j y))) → (∀ za zb : Nat, ¬ ((za = ro ∧ zb = i)) → h' (za, zb) = h (za, zb)) → zX d 159 6 [(0, .inr (ro, i)), (1, .inl (.long y)), (3, zi ((j : Int) + 1)), (4, zi (L : Int))] [] c s h' Q) :
    zX d 159 6 [(0, .inr (ro, i)), (1, .inl (.long y)), (3, zi (j : Int)), (4, zi (L : Int))] [] c s h Q := by
  refine zX.sn 1 (pc2 := 7) (l2 := [(0, .inr (ro, i)), (1, .inl (.long y)), (3, zi (j : Int)), (4, zi (L : Int))]) (st2 := [zi (j : Int)]) rfl ?_
  refine zX.sn 1 (pc2 := 9) (l2 := [(0, .inr (ro, i)), (1, .inl (.long y)), (3, zi (j : Int)), (4, zi (L : Int))]) (st2 := [zi (L : Int), zi (j : Int)]) rfl ?_
  refine zX.icmp (tgt := 22) ⟨rfl, rfl⟩ rfl (by omega) (by omega) (fun (e1 : (L : Int) ≤ (j : Int)) => ?_) (fun (e1 : (j : Int) < (L : Int)) => ?_)
  · refine zX.ret rfl rfl ?_
    exact k1 e1
  · refine zX.sn 1 (pc2 := 13) (l2 := [(0, .inr (ro, i)), (1, .inl (.long y)), (3, zi (j : Int)), (4, zi (L : Int))]) (st2 := [.inr (ro, i)]) rfl ?_
    refine zX.sn 1 (pc2 := 14) (l2 := [(0, .inr (ro, i)), (1, .inl (.long y)), (3, zi (j : Int)), (4, zi (L : Int))]) (st2 := [zi (j : Int), .inr (ro, i)]) rfl ?_
    refine zX.sn 1 (pc2 := 15) (l2 := [(0, .inr (ro, i)), (1, .inl (.long y)), (3, zi (j : Int)), (4, zi (L : Int))]) (st2 := [.inl (.long y), zi (j : Int), .inr (ro, i)]) rfl ?_
    refine zX.last (j := j) ⟨rfl, rfl⟩ H_ro_i (by omega) rfl (by omega) (by omega) ?_
    show zX _ 159 16 [(0, .inr (ro, i)), (1, .inl (.long y)), (3, zi (j : Int)), (4, zi (L : Int))] [] c s (xup h (ro, i) (.inr (1, L, zJ (zfi f j y)))) _
    refine zX.s1 (pc2 := 19) (l2 := [(3, zi ((j : Int) + 1)), (0, .inr (ro, i)), (1, .inl (.long y)), (4, zi (L : Int))]) (st2 := []) ⟨rfl, rfl⟩ (by rw [show (zi ((j : Int) + 1) : xV) = .inl (.int (Int32.ofInt (j : Int) + 1)) from congrArg (fun z => (.inl (.int z) : xV)) (Int32.ofInt_add _ _)]; rfl) ?_
    refine zX.sn 1 (pc2 := 6) (l2 := [(3, zi ((j : Int) + 1)), (0, .inr (ro, i)), (1, .inl (.long y)), (4, zi (L : Int))]) (st2 := []) rfl ?_
    refine zX.re [(0, .inr (ro, i)), (1, .inl (.long y)), (3, zi ((j : Int) + 1)), (4, zi (L : Int))] [1, 2, 0, 3] [3, 0, 1, 4] rfl rfl (by decide) ?_
    exact k2 e1 _ zup_s (fun za zb hn => (zup_n (zn (by omega)) rfl))

set_option maxHeartbeats 4000000 in
theorem r_fillI0 {d c s : Nat} {h : xH} {Q : xR → Nat → Nat → xH → Prop} {ro i L : Nat} {f : Nat → Int32} {y : Int32} (h0 : 0 < ro) (hL : L ≤ 67108864) (H_ro_i : h (ro, i) = some (.inr (0, L, zI f)))
    (k1 : zX d 160 5 [(0, .inr (ro, i)), (1, .inl (.int y)), (2, zi 0), (3, zi (L : Int))] [] c s h Q) :
    zX d 160 0 [(0, .inr (ro, i)), (1, .inl (.int y))] [] c s h Q := by
  refine zX.sn 1 (pc2 := 1) (l2 := [(0, .inr (ro, i)), (1, .inl (.int y))]) (st2 := [zi 0]) rfl ?_
  refine zX.sn 1 (pc2 := 2) (l2 := [(2, zi 0), (0, .inr (ro, i)), (1, .inl (.int y))]) (st2 := []) rfl ?_
  refine zX.sn 1 (pc2 := 3) (l2 := [(2, zi 0), (0, .inr (ro, i)), (1, .inl (.int y))]) (st2 := [.inr (ro, i)]) rfl ?_
  refine zX.alen ⟨rfl, rfl⟩ H_ro_i ?_
  refine zX.sn 1 (pc2 := 5) (l2 := [(3, zi (L : Int)), (2, zi 0), (0, .inr (ro, i)), (1, .inl (.int y))]) (st2 := []) rfl ?_
  refine zX.re [(0, .inr (ro, i)), (1, .inl (.int y)), (2, zi 0), (3, zi (L : Int))] [2, 3, 1, 0] [3, 2, 0, 1] rfl rfl (by decide) ?_
  exact k1

set_option maxHeartbeats 4000000 in
theorem r_fillI {d c s : Nat} {h : xH} {Q : xR → Nat → Nat → xH → Prop} {ro i L : Nat} {f : Nat → Int32} {y : Int32} {j : Nat} (h0 : 0 < ro) (hL : L ≤ 67108864) (hj : j ≤ L) (H_ro_i : h (ro, i) = some (.inr (0, L, zI f)))
    (k1 : ((L : Int) ≤ (j : Int)) → Q (.inl none) c s h)
    (k2 : ((j : Int) < (L : Int)) → ∀ h' : xH, h' (ro, i) = some (.inr (0, L, zI (zfi f j y))) → (∀ za zb : Nat, ¬ ((za = ro ∧ zb = i)) → h' (za, zb) = h (za, zb)) → zX d 160 5 [(0, .inr (ro, i)), (1, .inl (.int y)), (2, zi ((j : Int) + 1)), (3, zi (L : Int))] [] c s h' Q) :
    zX d 160 5 [(0, .inr (ro, i)), (1, .inl (.int y)), (2, zi (j : Int)), (3, zi (L : Int))] [] c s h Q := by
  refine zX.sn 1 (pc2 := 6) (l2 := [(0, .inr (ro, i)), (1, .inl (.int y)), (2, zi (j : Int)), (3, zi (L : Int))]) (st2 := [zi (j : Int)]) rfl ?_
  refine zX.sn 1 (pc2 := 7) (l2 := [(0, .inr (ro, i)), (1, .inl (.int y)), (2, zi (j : Int)), (3, zi (L : Int))]) (st2 := [zi (L : Int), zi (j : Int)]) rfl ?_
  refine zX.icmp (tgt := 20) ⟨rfl, rfl⟩ rfl (by omega) (by omega) (fun (e1 : (L : Int) ≤ (j : Int)) => ?_) (fun (e1 : (j : Int) < (L : Int)) => ?_)
  · refine zX.ret rfl rfl ?_
    exact k1 e1
  · refine zX.sn 1 (pc2 := 11) (l2 := [(0, .inr (ro, i)), (1, .inl (.int y)), (2, zi (j : Int)), (3, zi (L : Int))]) (st2 := [.inr (ro, i)]) rfl ?_
    refine zX.sn 1 (pc2 := 12) (l2 := [(0, .inr (ro, i)), (1, .inl (.int y)), (2, zi (j : Int)), (3, zi (L : Int))]) (st2 := [zi (j : Int), .inr (ro, i)]) rfl ?_
    refine zX.sn 1 (pc2 := 13) (l2 := [(0, .inr (ro, i)), (1, .inl (.int y)), (2, zi (j : Int)), (3, zi (L : Int))]) (st2 := [.inl (.int y), zi (j : Int), .inr (ro, i)]) rfl ?_
    refine zX.iast (j := j) ⟨rfl, rfl⟩ H_ro_i (by omega) rfl (by omega) (by omega) ?_
    show zX _ 160 14 [(0, .inr (ro, i)), (1, .inl (.int y)), (2, zi (j : Int)), (3, zi (L : Int))] [] c s (xup h (ro, i) (.inr (0, L, zI (zfi f j y)))) _
    refine zX.s1 (pc2 := 17) (l2 := [(2, zi ((j : Int) + 1)), (0, .inr (ro, i)), (1, .inl (.int y)), (3, zi (L : Int))]) (st2 := []) ⟨rfl, rfl⟩ (by rw [show (zi ((j : Int) + 1) : xV) = .inl (.int (Int32.ofInt (j : Int) + 1)) from congrArg (fun z => (.inl (.int z) : xV)) (Int32.ofInt_add _ _)]; rfl) ?_
    refine zX.sn 1 (pc2 := 5) (l2 := [(2, zi ((j : Int) + 1)), (0, .inr (ro, i)), (1, .inl (.int y)), (3, zi (L : Int))]) (st2 := []) rfl ?_
    refine zX.re [(0, .inr (ro, i)), (1, .inl (.int y)), (2, zi ((j : Int) + 1)), (3, zi (L : Int))] [1, 2, 0, 3] [2, 0, 1, 3] rfl rfl (by decide) ?_
    exact k2 e1 _ zup_s (fun za zb hn => (zup_n (zn (by omega)) rfl))

set_option maxHeartbeats 4000000 in
theorem r_get {d c s : Nat} {h : xH} {Q : xR → Nat → Nat → xH → Prop} {ro i j n cap : Nat} {md : Int32} {q x : Nat × Nat} {g : Nat → xV} (h0 : 0 < ro) (hj : j < n) (hn : n ≤ cap) (hc : cap ≤ 108) (hg : g j = .inr x) (H_ro_i : h (ro, i) = some (.inl (0, [.inl (.int md), .inr q, zi (n : Int)]))) (H_q : h q = some (.inr (4, cap, g)))
    (k1 : Q (.inl (some (.inr x))) c s h) :
    zX (d + 2) 153 0 [(0, .inr (ro, i)), (1, zi (j : Int))] [] c s h Q := by
  refine zX.sn 1 (pc2 := 1) (l2 := [(0, .inr (ro, i)), (1, zi (j : Int))]) (st2 := [zi (j : Int)]) rfl ?_
  refine zX.sn 1 (pc2 := 2) (l2 := [(0, .inr (ro, i)), (1, zi (j : Int))]) (st2 := [.inr (ro, i), zi (j : Int)]) rfl ?_
  refine zX.getf ⟨rfl, rfl⟩ H_ro_i rfl rfl ?_
  refine zX.call (mid2 := 164) (as := [zi (j : Int), zi (n : Int)]) (rest := []) ⟨rfl, rfl⟩ (fun _ => rfl) rfl ⟨Nat.le_of_ble_eq_true rfl, Nat.le_of_ble_eq_true rfl⟩ ?_
  show zX _ 164 0 [(0, zi (j : Int)), (1, zi (n : Int))] [] c s _ _
  refine zX.sn 1 (pc2 := 1) (l2 := [(0, zi (j : Int)), (1, zi (n : Int))]) (st2 := [zi (j : Int)]) rfl ?_
  refine zX.sn 1 (pc2 := 2) (l2 := [(0, zi (j : Int)), (1, zi (n : Int))]) (st2 := [zi (n : Int), zi (j : Int)]) rfl ?_
  refine zX.sn 1 (pc2 := 3) (l2 := [(0, zi (j : Int)), (1, zi (n : Int))]) (st2 := [.inl .null, zi (n : Int), zi (j : Int)]) rfl ?_
  refine zX.call (mid2 := 167) (as := [zi (j : Int), zi (n : Int), .inl .null]) (rest := []) ⟨rfl, rfl⟩ (fun _ => rfl) rfl ⟨Nat.le_of_ble_eq_true rfl, Nat.le_of_ble_eq_true rfl⟩ ?_
  show zX _ 167 0 [(0, zi (j : Int)), (1, zi (n : Int)), (2, .inl .null)] [] c s _ _
  refine zX.sn 1 (pc2 := 1) (l2 := [(0, zi (j : Int)), (1, zi (n : Int)), (2, .inl .null)]) (st2 := [zi (j : Int)]) rfl ?_
  refine zX.icmp0 (tgt := 9) ⟨rfl, rfl⟩ rfl (by omega) (fun (zz : (j : Int) < 0) => absurd zz (by omega)) (fun (e1 : 0 ≤ (j : Int)) => ?_)
  refine zX.sn 1 (pc2 := 5) (l2 := [(0, zi (j : Int)), (1, zi (n : Int)), (2, .inl .null)]) (st2 := [zi (j : Int)]) rfl ?_
  refine zX.sn 1 (pc2 := 6) (l2 := [(0, zi (j : Int)), (1, zi (n : Int)), (2, .inl .null)]) (st2 := [zi (n : Int), zi (j : Int)]) rfl ?_
  refine zX.icmp (tgt := 16) ⟨rfl, rfl⟩ rfl (by omega) (by omega) (fun (e2 : (j : Int) < (n : Int)) => ?_) (fun (zz : (n : Int) ≤ (j : Int)) => absurd zz (by omega))
  refine zX.sn 1 (pc2 := 17) (l2 := [(0, zi (j : Int)), (1, zi (n : Int)), (2, .inl .null)]) (st2 := [zi (j : Int)]) rfl ?_
  refine zX.ret rfl rfl ?_
  show zX _ 164 6 [(0, zi (j : Int)), (1, zi (n : Int))] [zi (j : Int)] c s _ _
  refine zX.ret rfl rfl ?_
  show zX _ 153 8 [(0, .inr (ro, i)), (1, zi (j : Int))] [zi (j : Int)] c s _ _
  refine zX.sn 1 (pc2 := 9) (l2 := [(0, .inr (ro, i)), (1, zi (j : Int))]) (st2 := []) rfl ?_
  refine zX.sn 1 (pc2 := 10) (l2 := [(0, .inr (ro, i)), (1, zi (j : Int))]) (st2 := [.inr (ro, i)]) rfl ?_
  refine zX.sn 1 (pc2 := 11) (l2 := [(0, .inr (ro, i)), (1, zi (j : Int))]) (st2 := [zi (j : Int), .inr (ro, i)]) rfl ?_
  refine zX.call (mid2 := 152) (as := [.inr (ro, i), zi (j : Int)]) (rest := []) ⟨rfl, rfl⟩ (fun _ => rfl) (zX.inv rfl H_ro_i rfl rfl) ⟨Nat.le_of_ble_eq_true rfl, Nat.le_of_ble_eq_true rfl⟩ ?_
  show zX _ 152 0 [(0, .inr (ro, i)), (1, zi (j : Int))] [] c s _ _
  refine zX.sn 1 (pc2 := 1) (l2 := [(0, .inr (ro, i)), (1, zi (j : Int))]) (st2 := [.inr (ro, i)]) rfl ?_
  refine zX.getf ⟨rfl, rfl⟩ H_ro_i rfl rfl ?_
  refine zX.sn 1 (pc2 := 5) (l2 := [(0, .inr (ro, i)), (1, zi (j : Int))]) (st2 := [zi (j : Int), .inr q]) rfl ?_
  refine zX.aald (j := j) ⟨rfl, rfl⟩ H_q rfl (by omega) (by omega) ?_
  rw [show (g j) = .inr x from hg]
  show zX _ 152 6 [(0, .inr (ro, i)), (1, zi (j : Int))] [.inr x] c s _ _
  refine zX.ret rfl rfl ?_
  show zX _ 153 14 [(0, .inr (ro, i)), (1, zi (j : Int))] [.inr x] c s _ _
  refine zX.ret rfl rfl ?_
  exact k1

set_option maxHeartbeats 4000000 in
theorem r_size {d c s : Nat} {h : xH} {Q : xR → Nat → Nat → xH → Prop} {ro i n cap : Nat} {md : Int32} {q : Nat × Nat} {g : Nat → xV} (H_ro_i : h (ro, i) = some (.inl (0, [.inl (.int md), .inr q, zi (n : Int)]))) (H_q : h q = some (.inr (4, cap, g)))
    (k1 : Q (.inl (some (zi (n : Int)))) c s h) :
    zX d 150 0 [(0, .inr (ro, i))] [] c s h Q := by
  refine zX.sn 1 (pc2 := 1) (l2 := [(0, .inr (ro, i))]) (st2 := [.inr (ro, i)]) rfl ?_
  refine zX.getf ⟨rfl, rfl⟩ H_ro_i rfl rfl ?_
  refine zX.ret rfl rfl ?_
  exact k1

set_option maxHeartbeats 4000000 in
theorem r_isEmpty {d c s : Nat} {h : xH} {Q : xR → Nat → Nat → xH → Prop} {ro i n cap : Nat} {md : Int32} {q : Nat × Nat} {g : Nat → xV} (hn : n ≤ cap) (hc : cap ≤ 108) (H_ro_i : h (ro, i) = some (.inl (0, [.inl (.int md), .inr q, zi (n : Int)]))) (H_q : h q = some (.inr (4, cap, g)))
    (k1 : (¬ (n : Int) = 0) → Q (.inl (some (zi 0))) c s h)
    (k2 : ((n : Int) = 0) → Q (.inl (some (zi 1))) c s h) :
    zX d 151 0 [(0, .inr (ro, i))] [] c s h Q := by
  refine zX.sn 1 (pc2 := 1) (l2 := [(0, .inr (ro, i))]) (st2 := [.inr (ro, i)]) rfl ?_
  refine zX.getf ⟨rfl, rfl⟩ H_ro_i rfl rfl ?_
  refine zX.icmp0 (tgt := 11) ⟨rfl, rfl⟩ rfl (by omega) (fun (e1 : ¬ (n : Int) = 0) => ?_) (fun (e1 : (n : Int) = 0) => ?_)
  · refine zX.sn 1 (pc2 := 12) (l2 := [(0, .inr (ro, i))]) (st2 := [zi 0]) rfl ?_
    refine zX.ret rfl (zret_z rfl (by decide)) ?_
    exact k1 e1
  · refine zX.sn 1 (pc2 := 8) (l2 := [(0, .inr (ro, i))]) (st2 := [zi 1]) rfl ?_
    refine zX.sn 1 (pc2 := 12) (l2 := [(0, .inr (ro, i))]) (st2 := [zi 1]) rfl ?_
    refine zX.ret rfl (zret_z rfl (by decide)) ?_
    exact k2 e1

set_option maxHeartbeats 4000000 in
theorem r_addA {d c s : Nat} {h : xH} {Q : xR → Nat → Nat → xH → Prop} {ro i n cap xa xi ci : Nat} {md : Int32} {g : Nat → xV} {fs : List xV} (h0 : 0 < ro) (hn : n ≤ cap) (hc : cap ≤ 108) (hx : xa ≠ ro ∧ xa ≠ ro + 1) (hci : [1000, 0, 1, 2, 3, 4, 5, 6, 7, 8, 9, 10].elem ci = true) (hl : n < cap) (H_ro_i : h (ro, i) = some (.inl (0, [.inl (.int md), .inr (ro + 1, 8 * cap + i), zi (n : Int)]))) (H_ro_1_8_cap_i : h (ro + 1, 8 * cap + i) = some (.inr (4, cap, g))) (H_xa_xi : h (xa, xi) = some (.inl (ci, fs)))
    (k1 : ∀ h' : xH, h' (ro, i) = some (.inl (0, [.inl (.int (md + (Int32.ofInt 1))), .inr (ro + 1, 8 * cap + i), zi ((n : Int) + 1)])) → h' (ro + 1, 8 * cap + i) = some (.inr (4, cap, (xfu g n (.inr (xa, xi))))) → (∀ za zb : Nat, ¬ ((za = ro ∧ zb = i) ∨ (za = ro + 1 ∧ zb = 8 * cap + i)) → h' (za, zb) = h (za, zb)) → Q (.inl (some (zi 1))) c s h') :
    zX (d + 1) 155 0 [(0, .inr (ro, i)), (1, .inr (xa, xi))] [] c s h Q := by
  refine zX.sn 1 (pc2 := 1) (l2 := [(0, .inr (ro, i)), (1, .inr (xa, xi))]) (st2 := [.inr (ro, i)]) rfl ?_
  refine zX.sn 1 (pc2 := 2) (l2 := [(0, .inr (ro, i)), (1, .inr (xa, xi))]) (st2 := [.inr (ro, i), .inr (ro, i)]) rfl ?_
  refine zX.getf ⟨rfl, rfl⟩ H_ro_i rfl rfl ?_
  refine zX.sn 1 (pc2 := 6) (l2 := [(0, .inr (ro, i)), (1, .inr (xa, xi))]) (st2 := [zi 1, .inl (.int md), .inr (ro, i)]) rfl ?_
  refine zX.sn 1 (pc2 := 7) (l2 := [(0, .inr (ro, i)), (1, .inr (xa, xi))]) (st2 := [.inl (.int (md + (Int32.ofInt 1))), .inr (ro, i)]) rfl ?_
  refine zX.putf ⟨rfl, rfl⟩ H_ro_i rfl (by omega) rfl ?_
  show zX _ 155 10 [(0, .inr (ro, i)), (1, .inr (xa, xi))] [] c s (xup h (ro, i) (.inl (0, [.inl (.int (md + (Int32.ofInt 1))), .inr (ro + 1, 8 * cap + i), zi (n : Int)]))) _
  refine zX.sn 1 (pc2 := 11) (l2 := [(0, .inr (ro, i)), (1, .inr (xa, xi))]) (st2 := [.inr (ro, i)]) rfl ?_
  refine zX.sn 1 (pc2 := 12) (l2 := [(0, .inr (ro, i)), (1, .inr (xa, xi))]) (st2 := [.inr (xa, xi), .inr (ro, i)]) rfl ?_
  refine zX.sn 1 (pc2 := 13) (l2 := [(0, .inr (ro, i)), (1, .inr (xa, xi))]) (st2 := [.inr (ro, i), .inr (xa, xi), .inr (ro, i)]) rfl ?_
  refine zX.getf ⟨rfl, rfl⟩ zup_s rfl rfl ?_
  refine zX.sn 1 (pc2 := 17) (l2 := [(0, .inr (ro, i)), (1, .inr (xa, xi))]) (st2 := [.inr (ro, i), .inr (ro + 1, 8 * cap + i), .inr (xa, xi), .inr (ro, i)]) rfl ?_
  refine zX.getf ⟨rfl, rfl⟩ zup_s rfl rfl ?_
  refine zX.call (mid2 := 154) (as := [.inr (ro, i), .inr (xa, xi), .inr (ro + 1, 8 * cap + i), zi (n : Int)]) (rest := []) ⟨rfl, rfl⟩ (fun _ => rfl) (zX.inv rfl zup_s rfl rfl) ⟨Nat.le_of_ble_eq_true rfl, Nat.le_of_ble_eq_true rfl⟩ ?_
  show zX _ 154 0 [(0, .inr (ro, i)), (1, .inr (xa, xi)), (2, .inr (ro + 1, 8 * cap + i)), (3, zi (n : Int))] [] c s _ _
  refine zX.sn 1 (pc2 := 1) (l2 := [(0, .inr (ro, i)), (1, .inr (xa, xi)), (2, .inr (ro + 1, 8 * cap + i)), (3, zi (n : Int))]) (st2 := [zi (n : Int)]) rfl ?_
  refine zX.sn 1 (pc2 := 2) (l2 := [(0, .inr (ro, i)), (1, .inr (xa, xi)), (2, .inr (ro + 1, 8 * cap + i)), (3, zi (n : Int))]) (st2 := [.inr (ro + 1, 8 * cap + i), zi (n : Int)]) rfl ?_
  refine zX.alen ⟨rfl, rfl⟩ (zup_n (zn (by omega)) H_ro_1_8_cap_i) ?_
  refine zX.icmp (tgt := 11) ⟨rfl, rfl⟩ rfl (by omega) (by omega) (fun (e1 : ¬ (n : Int) = (cap : Int)) => ?_) (fun (zz : (n : Int) = (cap : Int)) => absurd zz (by omega))
  refine zX.sn 1 (pc2 := 12) (l2 := [(0, .inr (ro, i)), (1, .inr (xa, xi)), (2, .inr (ro + 1, 8 * cap + i)), (3, zi (n : Int))]) (st2 := [.inr (ro + 1, 8 * cap + i)]) rfl ?_
  refine zX.sn 1 (pc2 := 13) (l2 := [(0, .inr (ro, i)), (1, .inr (xa, xi)), (2, .inr (ro + 1, 8 * cap + i)), (3, zi (n : Int))]) (st2 := [zi (n : Int), .inr (ro + 1, 8 * cap + i)]) rfl ?_
  refine zX.sn 1 (pc2 := 14) (l2 := [(0, .inr (ro, i)), (1, .inr (xa, xi)), (2, .inr (ro + 1, 8 * cap + i)), (3, zi (n : Int))]) (st2 := [.inr (xa, xi), zi (n : Int), .inr (ro + 1, 8 * cap + i)]) rfl ?_
  refine zX.aast (j := n) ⟨rfl, rfl⟩ (zup_n (zn (by omega)) H_ro_1_8_cap_i) (by omega) rfl (by omega) (by omega) (zup_n (zn (by omega)) H_xa_xi) hci ?_
  show zX _ 154 15 [(0, .inr (ro, i)), (1, .inr (xa, xi)), (2, .inr (ro + 1, 8 * cap + i)), (3, zi (n : Int))] [] c s (xup (xup h (ro, i) (.inl (0, [.inl (.int (md + (Int32.ofInt 1))), .inr (ro + 1, 8 * cap + i), zi (n : Int)]))) (ro + 1, 8 * cap + i) (.inr (4, cap, (xfu g n (.inr (xa, xi)))))) _
  refine zX.sn 1 (pc2 := 16) (l2 := [(0, .inr (ro, i)), (1, .inr (xa, xi)), (2, .inr (ro + 1, 8 * cap + i)), (3, zi (n : Int))]) (st2 := [.inr (ro, i)]) rfl ?_
  refine zX.sn 1 (pc2 := 17) (l2 := [(0, .inr (ro, i)), (1, .inr (xa, xi)), (2, .inr (ro + 1, 8 * cap + i)), (3, zi (n : Int))]) (st2 := [zi (n : Int), .inr (ro, i)]) rfl ?_
  refine zX.sn 1 (pc2 := 18) (l2 := [(0, .inr (ro, i)), (1, .inr (xa, xi)), (2, .inr (ro + 1, 8 * cap + i)), (3, zi (n : Int))]) (st2 := [zi 1, zi (n : Int), .inr (ro, i)]) rfl ?_
  refine zX.iadd ⟨rfl, rfl⟩ ?_
  refine zX.putf ⟨rfl, rfl⟩ (zup_n (zn (by omega)) zup_s) rfl (by omega) rfl ?_
  show zX _ 154 22 [(0, .inr (ro, i)), (1, .inr (xa, xi)), (2, .inr (ro + 1, 8 * cap + i)), (3, zi (n : Int))] [] c s (xup (xup (xup h (ro, i) (.inl (0, [.inl (.int (md + (Int32.ofInt 1))), .inr (ro + 1, 8 * cap + i), zi (n : Int)]))) (ro + 1, 8 * cap + i) (.inr (4, cap, (xfu g n (.inr (xa, xi)))))) (ro, i) (.inl (0, [.inl (.int (md + (Int32.ofInt 1))), .inr (ro + 1, 8 * cap + i), zi ((n : Int) + 1)]))) _
  refine zX.ret rfl rfl ?_
  show zX _ 155 23 [(0, .inr (ro, i)), (1, .inr (xa, xi))] [] c s _ _
  refine zX.sn 1 (pc2 := 24) (l2 := [(0, .inr (ro, i)), (1, .inr (xa, xi))]) (st2 := [zi 1]) rfl ?_
  refine zX.ret rfl (zret_z rfl (by decide)) ?_
  exact k1 _ zup_s (zup_n (zn (by omega)) zup_s) (fun za zb hn => (zup_n (zn (by omega)) (zup_n (zn (by omega)) (zup_n (zn (by omega)) rfl))))

set_option maxHeartbeats 4000000 in
theorem r_addB {d c s : Nat} {h : xH} {Q : xR → Nat → Nat → xH → Prop} {ro i xa xi ci : Nat} {md : Int32} {g : Nat → xV} {fs : List xV} (h0 : 0 < ro) (hx : xa ≠ ro ∧ xa ≠ ro + 1) (hci : [1000, 0, 1, 2, 3, 4, 5, 6, 7, 8, 9, 10].elem ci = true) (H_ro_i : h (ro, i) = some (.inl (0, [.inl (.int md), .inr (0, 1), zi 0]))) (H_0_1 : h (0, 1) = some (.inr (4, 0, g))) (H_xa_xi : h (xa, xi) = some (.inl (ci, fs))) (F_ro_1_80_i : h (ro + 1, 80 + i) = none)
    (k1 : ∀ h' : xH, h' (ro, i) = some (.inl (0, [.inl (.int (md + (Int32.ofInt 1))), .inr (ro + 1, 80 + i), zi (0 + 1)])) → h' (ro + 1, 80 + i) = some (.inr (4, 10, (xfu (fun _ => .inl .null) 0 (.inr (xa, xi))))) → (∀ za zb : Nat, ¬ ((za = ro ∧ zb = i) ∨ (za = ro + 1 ∧ zb = 80 + i)) → h' (za, zb) = h (za, zb)) → Q (.inl (some (zi 1))) (c + 1) (s + 10) h') :
    zX (d + 3) 155 0 [(0, .inr (ro, i)), (1, .inr (xa, xi))] [] c s h Q := by
  refine zX.sn 1 (pc2 := 1) (l2 := [(0, .inr (ro, i)), (1, .inr (xa, xi))]) (st2 := [.inr (ro, i)]) rfl ?_
  refine zX.sn 1 (pc2 := 2) (l2 := [(0, .inr (ro, i)), (1, .inr (xa, xi))]) (st2 := [.inr (ro, i), .inr (ro, i)]) rfl ?_
  refine zX.getf ⟨rfl, rfl⟩ H_ro_i rfl rfl ?_
  refine zX.sn 1 (pc2 := 6) (l2 := [(0, .inr (ro, i)), (1, .inr (xa, xi))]) (st2 := [zi 1, .inl (.int md), .inr (ro, i)]) rfl ?_
  refine zX.sn 1 (pc2 := 7) (l2 := [(0, .inr (ro, i)), (1, .inr (xa, xi))]) (st2 := [.inl (.int (md + (Int32.ofInt 1))), .inr (ro, i)]) rfl ?_
  refine zX.putf ⟨rfl, rfl⟩ H_ro_i rfl (by omega) rfl ?_
  show zX _ 155 10 [(0, .inr (ro, i)), (1, .inr (xa, xi))] [] c s (xup h (ro, i) (.inl (0, [.inl (.int (md + (Int32.ofInt 1))), .inr (0, 1), zi 0]))) _
  refine zX.sn 1 (pc2 := 11) (l2 := [(0, .inr (ro, i)), (1, .inr (xa, xi))]) (st2 := [.inr (ro, i)]) rfl ?_
  refine zX.sn 1 (pc2 := 12) (l2 := [(0, .inr (ro, i)), (1, .inr (xa, xi))]) (st2 := [.inr (xa, xi), .inr (ro, i)]) rfl ?_
  refine zX.sn 1 (pc2 := 13) (l2 := [(0, .inr (ro, i)), (1, .inr (xa, xi))]) (st2 := [.inr (ro, i), .inr (xa, xi), .inr (ro, i)]) rfl ?_
  refine zX.getf ⟨rfl, rfl⟩ zup_s rfl rfl ?_
  refine zX.sn 1 (pc2 := 17) (l2 := [(0, .inr (ro, i)), (1, .inr (xa, xi))]) (st2 := [.inr (ro, i), .inr (0, 1), .inr (xa, xi), .inr (ro, i)]) rfl ?_
  refine zX.getf ⟨rfl, rfl⟩ zup_s rfl rfl ?_
  refine zX.call (mid2 := 154) (as := [.inr (ro, i), .inr (xa, xi), .inr (0, 1), zi 0]) (rest := []) ⟨rfl, rfl⟩ (fun _ => rfl) (zX.inv rfl zup_s rfl rfl) ⟨Nat.le_of_ble_eq_true rfl, Nat.le_of_ble_eq_true rfl⟩ ?_
  show zX _ 154 0 [(0, .inr (ro, i)), (1, .inr (xa, xi)), (2, .inr (0, 1)), (3, zi 0)] [] c s _ _
  refine zX.sn 1 (pc2 := 1) (l2 := [(0, .inr (ro, i)), (1, .inr (xa, xi)), (2, .inr (0, 1)), (3, zi 0)]) (st2 := [zi 0]) rfl ?_
  refine zX.sn 1 (pc2 := 2) (l2 := [(0, .inr (ro, i)), (1, .inr (xa, xi)), (2, .inr (0, 1)), (3, zi 0)]) (st2 := [.inr (0, 1), zi 0]) rfl ?_
  refine zX.alen ⟨rfl, rfl⟩ (zup_n (zn (by omega)) H_0_1) ?_
  show zX _ 154 3 [(0, .inr (ro, i)), (1, .inr (xa, xi)), (2, .inr (0, 1)), (3, zi 0)] [zi 0, zi 0] c s _ _
  refine zX.icmp (tgt := 11) ⟨rfl, rfl⟩ rfl (by omega) (by omega) (fun (zz : ¬ 0 = 0) => absurd zz (by omega)) (fun (e1 : 0 = 0) => ?_)
  refine zX.sn 1 (pc2 := 7) (l2 := [(0, .inr (ro, i)), (1, .inr (xa, xi)), (2, .inr (0, 1)), (3, zi 0)]) (st2 := [.inr (ro, i)]) rfl ?_
  refine zX.call (mid2 := 149) (as := [.inr (ro, i)]) (rest := []) ⟨rfl, rfl⟩ (fun _ => rfl) (zX.inv rfl zup_s rfl rfl) ⟨Nat.le_of_ble_eq_true rfl, Nat.le_of_ble_eq_true rfl⟩ ?_
  show zX _ 149 0 [(0, .inr (ro, i))] [] c s _ _
  refine zX.sn 1 (pc2 := 1) (l2 := [(0, .inr (ro, i))]) (st2 := [.inr (ro, i)]) rfl ?_
  refine zX.sn 1 (pc2 := 2) (l2 := [(0, .inr (ro, i))]) (st2 := [.inr (ro, i), .inr (ro, i)]) rfl ?_
  refine zX.getf ⟨rfl, rfl⟩ zup_s rfl rfl ?_
  refine zX.sn 1 (pc2 := 6) (l2 := [(0, .inr (ro, i))]) (st2 := [zi 1, zi 0, .inr (ro, i)]) rfl ?_
  refine zX.iadd ⟨rfl, rfl⟩ ?_
  refine zX.call (mid2 := 148) (as := [.inr (ro, i), zi (0 + 1)]) (rest := []) ⟨rfl, rfl⟩ (fun _ => rfl) (zX.inv rfl zup_s rfl rfl) ⟨Nat.le_of_ble_eq_true rfl, Nat.le_of_ble_eq_true rfl⟩ ?_
  show zX _ 148 0 [(0, .inr (ro, i)), (1, zi (0 + 1))] [] c s _ _
  refine zX.sn 1 (pc2 := 1) (l2 := [(0, .inr (ro, i)), (1, zi (0 + 1))]) (st2 := [.inr (ro, i)]) rfl ?_
  refine zX.getf ⟨rfl, rfl⟩ zup_s rfl rfl ?_
  refine zX.alen ⟨rfl, rfl⟩ (zup_n (zn (by omega)) H_0_1) ?_
  show zX _ 148 5 [(0, .inr (ro, i)), (1, zi (0 + 1))] [zi 0] c s _ _
  refine zX.sn 1 (pc2 := 6) (l2 := [(2, zi 0), (0, .inr (ro, i)), (1, zi (0 + 1))]) (st2 := []) rfl ?_
  refine zX.sn 1 (pc2 := 7) (l2 := [(2, zi 0), (0, .inr (ro, i)), (1, zi (0 + 1))]) (st2 := [zi 0]) rfl ?_
  refine zX.icmp0 (tgt := 20) ⟨rfl, rfl⟩ rfl (by omega) (fun (zz : 0 < 0) => absurd zz (by omega)) (fun (e2 : 0 ≤ 0) => ?_)
  refine zX.sn 1 (pc2 := 11) (l2 := [(2, zi 0), (0, .inr (ro, i)), (1, zi (0 + 1))]) (st2 := [.inr (ro, i)]) rfl ?_
  refine zX.getf ⟨rfl, rfl⟩ zup_s rfl rfl ?_
  refine zX.s2 [] ⟨rfl, rfl⟩ (fun _ => rfl) rfl (fun _ => rfl) ?_
  show zX _ 148 17 [(2, zi 0), (0, .inr (ro, i)), (1, zi (0 + 1))] [.inr (0, 1), .inr (0, 1)] c s _ _
  refine zX.aceq (tgt := 45) ⟨rfl, rfl⟩ rfl (fun (e3 : (0, 1) = (0, 1)) => ?_) (fun (zz : ¬ (0, 1) = (0, 1)) => absurd zz (fun z => z rfl))
  refine zX.sn 1 (pc2 := 46) (l2 := [(2, zi 0), (0, .inr (ro, i)), (1, zi (0 + 1))]) (st2 := [.inr (ro, i)]) rfl ?_
  refine zX.sn 1 (pc2 := 48) (l2 := [(2, zi 0), (0, .inr (ro, i)), (1, zi (0 + 1))]) (st2 := [zi 10, .inr (ro, i)]) rfl ?_
  refine zX.sn 1 (pc2 := 49) (l2 := [(2, zi 0), (0, .inr (ro, i)), (1, zi (0 + 1))]) (st2 := [zi (0 + 1), zi 10, .inr (ro, i)]) rfl ?_
  refine zX.maxi ⟨rfl, rfl⟩ (by omega) (by omega) (Nat.le_of_ble_eq_true rfl) ?_
  rw [if_neg (by omega)]
  refine zX.anewa (n := 10) (ro + 1, 80 + i) ⟨rfl, rfl⟩ (zup_n (zn (by omega)) F_ro_1_80_i) (by omega) (by omega) (by omega) ?_
  show zX _ 148 55 [(2, zi 0), (0, .inr (ro, i)), (1, zi (0 + 1))] [.inr (ro + 1, 80 + i), .inr (ro, i)] (c + 1) (s + 10) (xup (xup h (ro, i) (.inl (0, [.inl (.int (md + (Int32.ofInt 1))), .inr (0, 1), zi 0]))) (ro + 1, 80 + i) (.inr (4, 10, (fun _ => .inl .null)))) _
  refine zX.sn 1 (pc2 := 56) (l2 := [(2, zi 0), (0, .inr (ro, i)), (1, zi (0 + 1))]) (st2 := [.inr (ro + 1, 80 + i), .inr (ro, i), .inr (ro + 1, 80 + i)]) rfl ?_
  refine zX.putf ⟨rfl, rfl⟩ (zup_n (zn (by omega)) zup_s) rfl (by omega) rfl ?_
  show zX _ 148 59 [(2, zi 0), (0, .inr (ro, i)), (1, zi (0 + 1))] [.inr (ro + 1, 80 + i)] (c + 1) (s + 10) (xup (xup (xup h (ro, i) (.inl (0, [.inl (.int (md + (Int32.ofInt 1))), .inr (0, 1), zi 0]))) (ro + 1, 80 + i) (.inr (4, 10, (fun _ => .inl .null)))) (ro, i) (.inl (0, [.inl (.int (md + (Int32.ofInt 1))), .inr (ro + 1, 80 + i), zi 0]))) _
  refine zX.ret rfl rfl ?_
  show zX _ 149 10 [(0, .inr (ro, i))] [.inr (ro + 1, 80 + i)] (c + 1) (s + 10) _ _
  refine zX.ret rfl rfl ?_
  show zX _ 154 10 [(0, .inr (ro, i)), (1, .inr (xa, xi)), (2, .inr (0, 1)), (3, zi 0)] [.inr (ro + 1, 80 + i)] (c + 1) (s + 10) _ _
  refine zX.sn 1 (pc2 := 11) (l2 := [(2, .inr (ro + 1, 80 + i)), (0, .inr (ro, i)), (1, .inr (xa, xi)), (3, zi 0)]) (st2 := []) rfl ?_
  refine zX.sn 1 (pc2 := 12) (l2 := [(2, .inr (ro + 1, 80 + i)), (0, .inr (ro, i)), (1, .inr (xa, xi)), (3, zi 0)]) (st2 := [.inr (ro + 1, 80 + i)]) rfl ?_
  refine zX.sn 1 (pc2 := 13) (l2 := [(2, .inr (ro + 1, 80 + i)), (0, .inr (ro, i)), (1, .inr (xa, xi)), (3, zi 0)]) (st2 := [zi 0, .inr (ro + 1, 80 + i)]) rfl ?_
  refine zX.sn 1 (pc2 := 14) (l2 := [(2, .inr (ro + 1, 80 + i)), (0, .inr (ro, i)), (1, .inr (xa, xi)), (3, zi 0)]) (st2 := [.inr (xa, xi), zi 0, .inr (ro + 1, 80 + i)]) rfl ?_
  refine zX.aast (j := 0) ⟨rfl, rfl⟩ (zup_n (zn (by omega)) zup_s) (by omega) (by omega) (by omega) (by omega) (zup_n (zn (by omega)) (zup_n (zn (by omega)) (zup_n (zn (by omega)) H_xa_xi))) hci ?_
  show zX _ 154 15 [(2, .inr (ro + 1, 80 + i)), (0, .inr (ro, i)), (1, .inr (xa, xi)), (3, zi 0)] [] (c + 1) (s + 10) (xup (xup (xup (xup h (ro, i) (.inl (0, [.inl (.int (md + (Int32.ofInt 1))), .inr (0, 1), zi 0]))) (ro + 1, 80 + i) (.inr (4, 10, (fun _ => .inl .null)))) (ro, i) (.inl (0, [.inl (.int (md + (Int32.ofInt 1))), .inr (ro + 1, 80 + i), zi 0]))) (ro + 1, 80 + i) (.inr (4, 10, (xfu (fun _ => .inl .null) 0 (.inr (xa, xi)))))) _
  refine zX.sn 1 (pc2 := 16) (l2 := [(2, .inr (ro + 1, 80 + i)), (0, .inr (ro, i)), (1, .inr (xa, xi)), (3, zi 0)]) (st2 := [.inr (ro, i)]) rfl ?_
  refine zX.sn 1 (pc2 := 17) (l2 := [(2, .inr (ro + 1, 80 + i)), (0, .inr (ro, i)), (1, .inr (xa, xi)), (3, zi 0)]) (st2 := [zi 0, .inr (ro, i)]) rfl ?_
  refine zX.sn 1 (pc2 := 18) (l2 := [(2, .inr (ro + 1, 80 + i)), (0, .inr (ro, i)), (1, .inr (xa, xi)), (3, zi 0)]) (st2 := [zi 1, zi 0, .inr (ro, i)]) rfl ?_
  refine zX.iadd ⟨rfl, rfl⟩ ?_
  refine zX.putf ⟨rfl, rfl⟩ (zup_n (zn (by omega)) zup_s) rfl (by omega) rfl ?_
  show zX _ 154 22 [(2, .inr (ro + 1, 80 + i)), (0, .inr (ro, i)), (1, .inr (xa, xi)), (3, zi 0)] [] (c + 1) (s + 10) (xup (xup (xup (xup (xup h (ro, i) (.inl (0, [.inl (.int (md + (Int32.ofInt 1))), .inr (0, 1), zi 0]))) (ro + 1, 80 + i) (.inr (4, 10, (fun _ => .inl .null)))) (ro, i) (.inl (0, [.inl (.int (md + (Int32.ofInt 1))), .inr (ro + 1, 80 + i), zi 0]))) (ro + 1, 80 + i) (.inr (4, 10, (xfu (fun _ => .inl .null) 0 (.inr (xa, xi)))))) (ro, i) (.inl (0, [.inl (.int (md + (Int32.ofInt 1))), .inr (ro + 1, 80 + i), zi (0 + 1)]))) _
  refine zX.ret rfl rfl ?_
  show zX _ 155 23 [(0, .inr (ro, i)), (1, .inr (xa, xi))] [] (c + 1) (s + 10) _ _
  refine zX.sn 1 (pc2 := 24) (l2 := [(0, .inr (ro, i)), (1, .inr (xa, xi))]) (st2 := [zi 1]) rfl ?_
  refine zX.ret rfl (zret_z rfl (by decide)) ?_
  exact k1 _ zup_s (zup_n (zn (by omega)) zup_s) (fun za zb hn => (zup_n (zn (by omega)) (zup_n (zn (by omega)) (zup_n (zn (by omega)) (zup_n (zn (by omega)) (zup_n (zn (by omega)) rfl))))))

set_option maxHeartbeats 4000000 in
theorem r_addC {d c s : Nat} {h : xH} {Q : xR → Nat → Nat → xH → Prop} {ro i cap cap1 xa xi ci : Nat} {md : Int32} {g : Nat → xV} {fs : List xV} {xs : List (Nat × Nat)} (h0 : 0 < ro) (hcp : 0 < cap) (hc : cap ≤ 72) (hx : xa ≠ ro ∧ xa ≠ ro + 1) (hci : [1000, 0, 1, 2, 3, 4, 5, 6, 7, 8, 9, 10].elem ci = true) (hc1 : (cap1 : Int) = (if 1 < (cap : Int) / 2 then (cap : Int) + (cap : Int) / 2 else (cap : Int) + 1)) (hE : zEl h ro xs) (hg : ∀ (j : Nat) (x : Nat × Nat), xs[j]? = some x → g j = .inr x) (hxl : xs.length = cap) (H_ro_i : h (ro, i) = some (.inl (0, [.inl (.int md), .inr (ro + 1, 8 * cap + i), zi (cap : Int)]))) (H_ro_1_8_cap_i : h (ro + 1, 8 * cap + i) = some (.inr (4, cap, g))) (H_xa_xi : h (xa, xi) = some (.inl (ci, fs))) (F_ro_1_8_cap1_i : h (ro + 1, 8 * cap1 + i) = none)
    (k1 : (2147483639 < ((cap : Int) + (if (((cap : Int) + 1) - (cap : Int)) < ((cap : Int) / 2) then ((cap : Int) / 2) else (((cap : Int) + 1) - (cap : Int))))) → ∀ h' : xH, h' (ro, i) = some (.inl (0, [.inl (.int (md + (Int32.ofInt 1))), .inr (ro + 1, 8 * cap1 + i), zi ((cap : Int) + 1)])) → h' (ro + 1, 8 * cap1 + i) = some (.inr (4, cap1, (xfu (xcpy g (fun _ => .inl .null) 0 0 cap) cap (.inr (xa, xi))))) → (∀ za zb : Nat, ¬ ((za = ro ∧ zb = i) ∨ (za = ro + 1 ∧ zb = 8 * cap1 + i)) → h' (za, zb) = h (za, zb)) → Q (.inl (some (zi 1))) (c + 1) (s + cap1) h')
    (k2 : (((cap : Int) + (if (((cap : Int) + 1) - (cap : Int)) < ((cap : Int) / 2) then ((cap : Int) / 2) else (((cap : Int) + 1) - (cap : Int)))) ≤ 2147483639) → ∀ h' : xH, h' (ro, i) = some (.inl (0, [.inl (.int (md + (Int32.ofInt 1))), .inr (ro + 1, 8 * cap1 + i), zi ((cap : Int) + 1)])) → h' (ro + 1, 8 * cap1 + i) = some (.inr (4, cap1, (xfu (xcpy g (fun _ => .inl .null) 0 0 cap) cap (.inr (xa, xi))))) → (∀ za zb : Nat, ¬ ((za = ro ∧ zb = i) ∨ (za = ro + 1 ∧ zb = 8 * cap1 + i)) → h' (za, zb) = h (za, zb)) → Q (.inl (some (zi 1))) (c + 1) (s + cap1) h') :
    zX (d + 6) 155 0 [(0, .inr (ro, i)), (1, .inr (xa, xi))] [] c s h Q := by
  refine zX.sn 1 (pc2 := 1) (l2 := [(0, .inr (ro, i)), (1, .inr (xa, xi))]) (st2 := [.inr (ro, i)]) rfl ?_
  refine zX.sn 1 (pc2 := 2) (l2 := [(0, .inr (ro, i)), (1, .inr (xa, xi))]) (st2 := [.inr (ro, i), .inr (ro, i)]) rfl ?_
  refine zX.getf ⟨rfl, rfl⟩ H_ro_i rfl rfl ?_
  refine zX.sn 1 (pc2 := 6) (l2 := [(0, .inr (ro, i)), (1, .inr (xa, xi))]) (st2 := [zi 1, .inl (.int md), .inr (ro, i)]) rfl ?_
  refine zX.sn 1 (pc2 := 7) (l2 := [(0, .inr (ro, i)), (1, .inr (xa, xi))]) (st2 := [.inl (.int (md + (Int32.ofInt 1))), .inr (ro, i)]) rfl ?_
  refine zX.putf ⟨rfl, rfl⟩ H_ro_i rfl (by omega) rfl ?_
  show zX _ 155 10 [(0, .inr (ro, i)), (1, .inr (xa, xi))] [] c s (xup h (ro, i) (.inl (0, [.inl (.int (md + (Int32.ofInt 1))), .inr (ro + 1, 8 * cap + i), zi (cap : Int)]))) _
  refine zX.sn 1 (pc2 := 11) (l2 := [(0, .inr (ro, i)), (1, .inr (xa, xi))]) (st2 := [.inr (ro, i)]) rfl ?_
  refine zX.sn 1 (pc2 := 12) (l2 := [(0, .inr (ro, i)), (1, .inr (xa, xi))]) (st2 := [.inr (xa, xi), .inr (ro, i)]) rfl ?_
  refine zX.sn 1 (pc2 := 13) (l2 := [(0, .inr (ro, i)), (1, .inr (xa, xi))]) (st2 := [.inr (ro, i), .inr (xa, xi), .inr (ro, i)]) rfl ?_
  refine zX.getf ⟨rfl, rfl⟩ zup_s rfl rfl ?_
  refine zX.sn 1 (pc2 := 17) (l2 := [(0, .inr (ro, i)), (1, .inr (xa, xi))]) (st2 := [.inr (ro, i), .inr (ro + 1, 8 * cap + i), .inr (xa, xi), .inr (ro, i)]) rfl ?_
  refine zX.getf ⟨rfl, rfl⟩ zup_s rfl rfl ?_
  refine zX.call (mid2 := 154) (as := [.inr (ro, i), .inr (xa, xi), .inr (ro + 1, 8 * cap + i), zi (cap : Int)]) (rest := []) ⟨rfl, rfl⟩ (fun _ => rfl) (zX.inv rfl zup_s rfl rfl) ⟨Nat.le_of_ble_eq_true rfl, Nat.le_of_ble_eq_true rfl⟩ ?_
  show zX _ 154 0 [(0, .inr (ro, i)), (1, .inr (xa, xi)), (2, .inr (ro + 1, 8 * cap + i)), (3, zi (cap : Int))] [] c s _ _
  refine zX.sn 1 (pc2 := 1) (l2 := [(0, .inr (ro, i)), (1, .inr (xa, xi)), (2, .inr (ro + 1, 8 * cap + i)), (3, zi (cap : Int))]) (st2 := [zi (cap : Int)]) rfl ?_
  refine zX.sn 1 (pc2 := 2) (l2 := [(0, .inr (ro, i)), (1, .inr (xa, xi)), (2, .inr (ro + 1, 8 * cap + i)), (3, zi (cap : Int))]) (st2 := [.inr (ro + 1, 8 * cap + i), zi (cap : Int)]) rfl ?_
  refine zX.alen ⟨rfl, rfl⟩ (zup_n (zn (by omega)) H_ro_1_8_cap_i) ?_
  refine zX.icmp (tgt := 11) ⟨rfl, rfl⟩ rfl (by omega) (by omega) (fun (zz : ¬ (cap : Int) = (cap : Int)) => absurd zz (by omega)) (fun (e1 : (cap : Int) = (cap : Int)) => ?_)
  refine zX.sn 1 (pc2 := 7) (l2 := [(0, .inr (ro, i)), (1, .inr (xa, xi)), (2, .inr (ro + 1, 8 * cap + i)), (3, zi (cap : Int))]) (st2 := [.inr (ro, i)]) rfl ?_
  refine zX.call (mid2 := 149) (as := [.inr (ro, i)]) (rest := []) ⟨rfl, rfl⟩ (fun _ => rfl) (zX.inv rfl zup_s rfl rfl) ⟨Nat.le_of_ble_eq_true rfl, Nat.le_of_ble_eq_true rfl⟩ ?_
  show zX _ 149 0 [(0, .inr (ro, i))] [] c s _ _
  refine zX.sn 1 (pc2 := 1) (l2 := [(0, .inr (ro, i))]) (st2 := [.inr (ro, i)]) rfl ?_
  refine zX.sn 1 (pc2 := 2) (l2 := [(0, .inr (ro, i))]) (st2 := [.inr (ro, i), .inr (ro, i)]) rfl ?_
  refine zX.getf ⟨rfl, rfl⟩ zup_s rfl rfl ?_
  refine zX.sn 1 (pc2 := 6) (l2 := [(0, .inr (ro, i))]) (st2 := [zi 1, zi (cap : Int), .inr (ro, i)]) rfl ?_
  refine zX.iadd ⟨rfl, rfl⟩ ?_
  refine zX.call (mid2 := 148) (as := [.inr (ro, i), zi ((cap : Int) + 1)]) (rest := []) ⟨rfl, rfl⟩ (fun _ => rfl) (zX.inv rfl zup_s rfl rfl) ⟨Nat.le_of_ble_eq_true rfl, Nat.le_of_ble_eq_true rfl⟩ ?_
  show zX _ 148 0 [(0, .inr (ro, i)), (1, zi ((cap : Int) + 1))] [] c s _ _
  refine zX.sn 1 (pc2 := 1) (l2 := [(0, .inr (ro, i)), (1, zi ((cap : Int) + 1))]) (st2 := [.inr (ro, i)]) rfl ?_
  refine zX.getf ⟨rfl, rfl⟩ zup_s rfl rfl ?_
  refine zX.alen ⟨rfl, rfl⟩ (zup_n (zn (by omega)) H_ro_1_8_cap_i) ?_
  refine zX.sn 1 (pc2 := 6) (l2 := [(2, zi (cap : Int)), (0, .inr (ro, i)), (1, zi ((cap : Int) + 1))]) (st2 := []) rfl ?_
  refine zX.sn 1 (pc2 := 7) (l2 := [(2, zi (cap : Int)), (0, .inr (ro, i)), (1, zi ((cap : Int) + 1))]) (st2 := [zi (cap : Int)]) rfl ?_
  refine zX.icmp0 (tgt := 20) ⟨rfl, rfl⟩ rfl (by omega) (fun (e2 : 0 < (cap : Int)) => ?_) (fun (zz : (cap : Int) ≤ 0) => absurd zz (by omega))
  refine zX.sn 1 (pc2 := 21) (l2 := [(2, zi (cap : Int)), (0, .inr (ro, i)), (1, zi ((cap : Int) + 1))]) (st2 := [zi (cap : Int)]) rfl ?_
  refine zX.sn 1 (pc2 := 22) (l2 := [(2, zi (cap : Int)), (0, .inr (ro, i)), (1, zi ((cap : Int) + 1))]) (st2 := [zi ((cap : Int) + 1), zi (cap : Int)]) rfl ?_
  refine zX.sn 1 (pc2 := 23) (l2 := [(2, zi (cap : Int)), (0, .inr (ro, i)), (1, zi ((cap : Int) + 1))]) (st2 := [zi (cap : Int), zi ((cap : Int) + 1), zi (cap : Int)]) rfl ?_
  refine zX.isub ⟨rfl, rfl⟩ ?_
  refine zX.sn 1 (pc2 := 25) (l2 := [(2, zi (cap : Int)), (0, .inr (ro, i)), (1, zi ((cap : Int) + 1))]) (st2 := [zi (cap : Int), zi (((cap : Int) + 1) - (cap : Int)), zi (cap : Int)]) rfl ?_
  refine zX.sn 1 (pc2 := 26) (l2 := [(2, zi (cap : Int)), (0, .inr (ro, i)), (1, zi ((cap : Int) + 1))]) (st2 := [zi 1, zi (cap : Int), zi (((cap : Int) + 1) - (cap : Int)), zi (cap : Int)]) rfl ?_
  refine zX.ishr1 ⟨rfl, rfl⟩ (by omega) ?_
  refine zX.call (mid2 := 165) (as := [zi (cap : Int), zi (((cap : Int) + 1) - (cap : Int)), zi ((cap : Int) / 2)]) (rest := []) ⟨rfl, rfl⟩ (fun _ => rfl) rfl ⟨Nat.le_of_ble_eq_true rfl, Nat.le_of_ble_eq_true rfl⟩ ?_
  show zX _ 165 0 [(0, zi (cap : Int)), (1, zi (((cap : Int) + 1) - (cap : Int))), (2, zi ((cap : Int) / 2))] [] c s _ _
  refine zX.sn 1 (pc2 := 1) (l2 := [(0, zi (cap : Int)), (1, zi (((cap : Int) + 1) - (cap : Int))), (2, zi ((cap : Int) / 2))]) (st2 := [zi (cap : Int)]) rfl ?_
  refine zX.sn 1 (pc2 := 2) (l2 := [(0, zi (cap : Int)), (1, zi (((cap : Int) + 1) - (cap : Int))), (2, zi ((cap : Int) / 2))]) (st2 := [zi (((cap : Int) + 1) - (cap : Int)), zi (cap : Int)]) rfl ?_
  refine zX.sn 1 (pc2 := 3) (l2 := [(0, zi (cap : Int)), (1, zi (((cap : Int) + 1) - (cap : Int))), (2, zi ((cap : Int) / 2))]) (st2 := [zi ((cap : Int) / 2), zi (((cap : Int) + 1) - (cap : Int)), zi (cap : Int)]) rfl ?_
  refine zX.maxi ⟨rfl, rfl⟩ (by omega) (by omega) (Nat.le_of_ble_eq_true rfl) ?_
  refine zX.iadd ⟨rfl, rfl⟩ ?_
  refine zX.sn 1 (pc2 := 8) (l2 := [(3, zi ((cap : Int) + (if (((cap : Int) + 1) - (cap : Int)) < ((cap : Int) / 2) then ((cap : Int) / 2) else (((cap : Int) + 1) - (cap : Int))))), (0, zi (cap : Int)), (1, zi (((cap : Int) + 1) - (cap : Int))), (2, zi ((cap : Int) / 2))]) (st2 := []) rfl ?_
  refine zX.sn 1 (pc2 := 9) (l2 := [(3, zi ((cap : Int) + (if (((cap : Int) + 1) - (cap : Int)) < ((cap : Int) / 2) then ((cap : Int) / 2) else (((cap : Int) + 1) - (cap : Int))))), (0, zi (cap : Int)), (1, zi (((cap : Int) + 1) - (cap : Int))), (2, zi ((cap : Int) / 2))]) (st2 := [zi 0]) rfl ?_
  refine zX.sn 1 (pc2 := 10) (l2 := [(3, zi ((cap : Int) + (if (((cap : Int) + 1) - (cap : Int)) < ((cap : Int) / 2) then ((cap : Int) / 2) else (((cap : Int) + 1) - (cap : Int))))), (0, zi (cap : Int)), (1, zi (((cap : Int) + 1) - (cap : Int))), (2, zi ((cap : Int) / 2))]) (st2 := [zi ((cap : Int) + (if (((cap : Int) + 1) - (cap : Int)) < ((cap : Int) / 2) then ((cap : Int) / 2) else (((cap : Int) + 1) - (cap : Int)))), zi 0]) rfl ?_
  refine zX.icmp (tgt := 21) ⟨rfl, rfl⟩ rfl (by omega) (by omega) (fun (zz : ((cap : Int) + (if (((cap : Int) + 1) - (cap : Int)) < ((cap : Int) / 2) then ((cap : Int) / 2) else (((cap : Int) + 1) - (cap : Int)))) ≤ 0) => absurd zz (by omega)) (fun (e3 : 0 < ((cap : Int) + (if (((cap : Int) + 1) - (cap : Int)) < ((cap : Int) / 2) then ((cap : Int) / 2) else (((cap : Int) + 1) - (cap : Int))))) => ?_)
  refine zX.sn 1 (pc2 := 14) (l2 := [(3, zi ((cap : Int) + (if (((cap : Int) + 1) - (cap : Int)) < ((cap : Int) / 2) then ((cap : Int) / 2) else (((cap : Int) + 1) - (cap : Int))))), (0, zi (cap : Int)), (1, zi (((cap : Int) + 1) - (cap : Int))), (2, zi ((cap : Int) / 2))]) (st2 := [zi ((cap : Int) + (if (((cap : Int) + 1) - (cap : Int)) < ((cap : Int) / 2) then ((cap : Int) / 2) else (((cap : Int) + 1) - (cap : Int))))]) rfl ?_
  refine zX.s2 [] (pc2 := 16) (l2 := [(3, zi ((cap : Int) + (if (((cap : Int) + 1) - (cap : Int)) < ((cap : Int) / 2) then ((cap : Int) / 2) else (((cap : Int) + 1) - (cap : Int))))), (0, zi (cap : Int)), (1, zi (((cap : Int) + 1) - (cap : Int))), (2, zi ((cap : Int) / 2))]) (st2 := [zi 2147483639, zi ((cap : Int) + (if (((cap : Int) + 1) - (cap : Int)) < ((cap : Int) / 2) then ((cap : Int) / 2) else (((cap : Int) + 1) - (cap : Int))))]) ⟨rfl, rfl⟩ (fun _ => rfl) rfl (fun _ => rfl) ?_
  refine zX.icmp (tgt := 21) ⟨rfl, rfl⟩ rfl (by omega) (by omega) (fun (e4 : 2147483639 < ((cap : Int) + (if (((cap : Int) + 1) - (cap : Int)) < ((cap : Int) / 2) then ((cap : Int) / 2) else (((cap : Int) + 1) - (cap : Int))))) => ?_) (fun (e4 : ((cap : Int) + (if (((cap : Int) + 1) - (cap : Int)) < ((cap : Int) / 2) then ((cap : Int) / 2) else (((cap : Int) + 1) - (cap : Int)))) ≤ 2147483639) => ?_)
  · refine zX.sn 1 (pc2 := 22) (l2 := [(3, zi ((cap : Int) + (if (((cap : Int) + 1) - (cap : Int)) < ((cap : Int) / 2) then ((cap : Int) / 2) else (((cap : Int) + 1) - (cap : Int))))), (0, zi (cap : Int)), (1, zi (((cap : Int) + 1) - (cap : Int))), (2, zi ((cap : Int) / 2))]) (st2 := [zi (cap : Int)]) rfl ?_
    refine zX.sn 1 (pc2 := 23) (l2 := [(3, zi ((cap : Int) + (if (((cap : Int) + 1) - (cap : Int)) < ((cap : Int) / 2) then ((cap : Int) / 2) else (((cap : Int) + 1) - (cap : Int))))), (0, zi (cap : Int)), (1, zi (((cap : Int) + 1) - (cap : Int))), (2, zi ((cap : Int) / 2))]) (st2 := [zi (((cap : Int) + 1) - (cap : Int)), zi (cap : Int)]) rfl ?_
    refine zX.call (mid2 := 166) (as := [zi (cap : Int), zi (((cap : Int) + 1) - (cap : Int))]) (rest := []) ⟨rfl, rfl⟩ (fun _ => rfl) rfl ⟨Nat.le_of_ble_eq_true rfl, Nat.le_of_ble_eq_true rfl⟩ ?_
    show zX _ 166 0 [(0, zi (cap : Int)), (1, zi (((cap : Int) + 1) - (cap : Int)))] [] c s _ _
    refine zX.sn 1 (pc2 := 1) (l2 := [(0, zi (cap : Int)), (1, zi (((cap : Int) + 1) - (cap : Int)))]) (st2 := [zi (cap : Int)]) rfl ?_
    refine zX.sn 1 (pc2 := 2) (l2 := [(0, zi (cap : Int)), (1, zi (((cap : Int) + 1) - (cap : Int)))]) (st2 := [zi (((cap : Int) + 1) - (cap : Int)), zi (cap : Int)]) rfl ?_
    refine zX.iadd ⟨rfl, rfl⟩ ?_
    refine zX.sn 1 (pc2 := 4) (l2 := [(2, zi ((cap : Int) + (((cap : Int) + 1) - (cap : Int)))), (0, zi (cap : Int)), (1, zi (((cap : Int) + 1) - (cap : Int)))]) (st2 := []) rfl ?_
    refine zX.sn 1 (pc2 := 5) (l2 := [(2, zi ((cap : Int) + (((cap : Int) + 1) - (cap : Int)))), (0, zi (cap : Int)), (1, zi (((cap : Int) + 1) - (cap : Int)))]) (st2 := [zi ((cap : Int) + (((cap : Int) + 1) - (cap : Int)))]) rfl ?_
    refine zX.icmp0 (tgt := 49) ⟨rfl, rfl⟩ rfl (by omega) (fun (e5 : 0 ≤ ((cap : Int) + (((cap : Int) + 1) - (cap : Int)))) => ?_) (fun (zz : ((cap : Int) + (((cap : Int) + 1) - (cap : Int))) < 0) => absurd zz (by omega))
    refine zX.sn 1 (pc2 := 50) (l2 := [(2, zi ((cap : Int) + (((cap : Int) + 1) - (cap : Int)))), (0, zi (cap : Int)), (1, zi (((cap : Int) + 1) - (cap : Int)))]) (st2 := [zi ((cap : Int) + (((cap : Int) + 1) - (cap : Int)))]) rfl ?_
    refine zX.s2 [] (pc2 := 52) (l2 := [(2, zi ((cap : Int) + (((cap : Int) + 1) - (cap : Int)))), (0, zi (cap : Int)), (1, zi (((cap : Int) + 1) - (cap : Int)))]) (st2 := [zi 2147483639, zi ((cap : Int) + (((cap : Int) + 1) - (cap : Int)))]) ⟨rfl, rfl⟩ (fun _ => rfl) rfl (fun _ => rfl) ?_
    refine zX.icmp (tgt := 58) ⟨rfl, rfl⟩ rfl (by omega) (by omega) (fun (zz : 2147483639 < ((cap : Int) + (((cap : Int) + 1) - (cap : Int)))) => absurd zz (by omega)) (fun (e6 : ((cap : Int) + (((cap : Int) + 1) - (cap : Int))) ≤ 2147483639) => ?_)
    refine zX.s2 [] (pc2 := 57) (l2 := [(2, zi ((cap : Int) + (((cap : Int) + 1) - (cap : Int)))), (0, zi (cap : Int)), (1, zi (((cap : Int) + 1) - (cap : Int)))]) (st2 := [zi 2147483639]) ⟨rfl, rfl⟩ (fun _ => rfl) rfl (fun _ => rfl) ?_
    refine zX.ret rfl rfl ?_
    show zX _ 165 26 [(3, zi ((cap : Int) + (if (((cap : Int) + 1) - (cap : Int)) < ((cap : Int) / 2) then ((cap : Int) / 2) else (((cap : Int) + 1) - (cap : Int))))), (0, zi (cap : Int)), (1, zi (((cap : Int) + 1) - (cap : Int))), (2, zi ((cap : Int) / 2))] [zi 2147483639] c s _ _
    refine zX.ret rfl rfl ?_
    show zX _ 148 30 [(2, zi (cap : Int)), (0, .inr (ro, i)), (1, zi ((cap : Int) + 1))] [zi 2147483639] c s _ _
    refine zX.sn 1 (pc2 := 31) (l2 := [(3, zi 2147483639), (2, zi (cap : Int)), (0, .inr (ro, i)), (1, zi ((cap : Int) + 1))]) (st2 := []) rfl ?_
    refine zX.sn 1 (pc2 := 32) (l2 := [(3, zi 2147483639), (2, zi (cap : Int)), (0, .inr (ro, i)), (1, zi ((cap : Int) + 1))]) (st2 := [.inr (ro, i)]) rfl ?_
    refine zX.sn 1 (pc2 := 33) (l2 := [(3, zi 2147483639), (2, zi (cap : Int)), (0, .inr (ro, i)), (1, zi ((cap : Int) + 1))]) (st2 := [.inr (ro, i), .inr (ro, i)]) rfl ?_
    refine zX.getf ⟨rfl, rfl⟩ zup_s rfl rfl ?_
    refine zX.sn 1 (pc2 := 37) (l2 := [(3, zi 2147483639), (2, zi (cap : Int)), (0, .inr (ro, i)), (1, zi ((cap : Int) + 1))]) (st2 := [zi 2147483639, .inr (ro + 1, 8 * cap + i), .inr (ro, i)]) rfl ?_
    refine zX.cct (us := [(ro + 1, 8 * cap1 + i)]) (as := [.inr (ro + 1, 8 * cap + i), zi 2147483639]) (rest := [.inr (ro, i)]) ⟨rfl, rfl⟩ rfl ⟨Nat.le_of_ble_eq_true rfl, Nat.le_of_ble_eq_true rfl⟩ (zct_ok (n := cap1) (by omega) (zup_n (zn (by omega)) H_ro_1_8_cap_i) (zup_n (zn (by omega)) F_ro_1_8_cap1_i) (by omega) (by omega) (by omega) (by omega) (zcpk (hE.fr (fun za zb hn => (zup_n (zn (by omega)) rfl))) hg (by omega))) ?_
    show zX _ 148 40 [(3, zi 2147483639), (2, zi (cap : Int)), (0, .inr (ro, i)), (1, zi ((cap : Int) + 1))] [.inr (ro + 1, 8 * cap1 + i), .inr (ro, i)] (c + 1) (s + cap1) (xup (xup h (ro, i) (.inl (0, [.inl (.int (md + (Int32.ofInt 1))), .inr (ro + 1, 8 * cap + i), zi (cap : Int)]))) (ro + 1, 8 * cap1 + i) (.inr (4, cap1, (xcpy g (fun _ => .inl .null) 0 0 cap)))) _
    refine zX.sn 1 (pc2 := 41) (l2 := [(3, zi 2147483639), (2, zi (cap : Int)), (0, .inr (ro, i)), (1, zi ((cap : Int) + 1))]) (st2 := [.inr (ro + 1, 8 * cap1 + i), .inr (ro, i), .inr (ro + 1, 8 * cap1 + i)]) rfl ?_
    refine zX.putf ⟨rfl, rfl⟩ (zup_n (zn (by omega)) zup_s) rfl (by omega) rfl ?_
    show zX _ 148 44 [(3, zi 2147483639), (2, zi (cap : Int)), (0, .inr (ro, i)), (1, zi ((cap : Int) + 1))] [.inr (ro + 1, 8 * cap1 + i)] (c + 1) (s + cap1) (xup (xup (xup h (ro, i) (.inl (0, [.inl (.int (md + (Int32.ofInt 1))), .inr (ro + 1, 8 * cap + i), zi (cap : Int)]))) (ro + 1, 8 * cap1 + i) (.inr (4, cap1, (xcpy g (fun _ => .inl .null) 0 0 cap)))) (ro, i) (.inl (0, [.inl (.int (md + (Int32.ofInt 1))), .inr (ro + 1, 8 * cap1 + i), zi (cap : Int)]))) _
    refine zX.ret rfl rfl ?_
    show zX _ 149 10 [(0, .inr (ro, i))] [.inr (ro + 1, 8 * cap1 + i)] (c + 1) (s + cap1) _ _
    refine zX.ret rfl rfl ?_
    show zX _ 154 10 [(0, .inr (ro, i)), (1, .inr (xa, xi)), (2, .inr (ro + 1, 8 * cap + i)), (3, zi (cap : Int))] [.inr (ro + 1, 8 * cap1 + i)] (c + 1) (s + cap1) _ _
    refine zX.sn 1 (pc2 := 11) (l2 := [(2, .inr (ro + 1, 8 * cap1 + i)), (0, .inr (ro, i)), (1, .inr (xa, xi)), (3, zi (cap : Int))]) (st2 := []) rfl ?_
    refine zX.sn 1 (pc2 := 12) (l2 := [(2, .inr (ro + 1, 8 * cap1 + i)), (0, .inr (ro, i)), (1, .inr (xa, xi)), (3, zi (cap : Int))]) (st2 := [.inr (ro + 1, 8 * cap1 + i)]) rfl ?_
    refine zX.sn 1 (pc2 := 13) (l2 := [(2, .inr (ro + 1, 8 * cap1 + i)), (0, .inr (ro, i)), (1, .inr (xa, xi)), (3, zi (cap : Int))]) (st2 := [zi (cap : Int), .inr (ro + 1, 8 * cap1 + i)]) rfl ?_
    refine zX.sn 1 (pc2 := 14) (l2 := [(2, .inr (ro + 1, 8 * cap1 + i)), (0, .inr (ro, i)), (1, .inr (xa, xi)), (3, zi (cap : Int))]) (st2 := [.inr (xa, xi), zi (cap : Int), .inr (ro + 1, 8 * cap1 + i)]) rfl ?_
    refine zX.aast (j := cap) ⟨rfl, rfl⟩ (zup_n (zn (by omega)) zup_s) (by omega) rfl (by omega) (by omega) (zup_n (zn (by omega)) (zup_n (zn (by omega)) (zup_n (zn (by omega)) H_xa_xi))) hci ?_
    show zX _ 154 15 [(2, .inr (ro + 1, 8 * cap1 + i)), (0, .inr (ro, i)), (1, .inr (xa, xi)), (3, zi (cap : Int))] [] (c + 1) (s + cap1) (xup (xup (xup (xup h (ro, i) (.inl (0, [.inl (.int (md + (Int32.ofInt 1))), .inr (ro + 1, 8 * cap + i), zi (cap : Int)]))) (ro + 1, 8 * cap1 + i) (.inr (4, cap1, (xcpy g (fun _ => .inl .null) 0 0 cap)))) (ro, i) (.inl (0, [.inl (.int (md + (Int32.ofInt 1))), .inr (ro + 1, 8 * cap1 + i), zi (cap : Int)]))) (ro + 1, 8 * cap1 + i) (.inr (4, cap1, (xfu (xcpy g (fun _ => .inl .null) 0 0 cap) cap (.inr (xa, xi)))))) _
    refine zX.sn 1 (pc2 := 16) (l2 := [(2, .inr (ro + 1, 8 * cap1 + i)), (0, .inr (ro, i)), (1, .inr (xa, xi)), (3, zi (cap : Int))]) (st2 := [.inr (ro, i)]) rfl ?_
    refine zX.sn 1 (pc2 := 17) (l2 := [(2, .inr (ro + 1, 8 * cap1 + i)), (0, .inr (ro, i)), (1, .inr (xa, xi)), (3, zi (cap : Int))]) (st2 := [zi (cap : Int), .inr (ro, i)]) rfl ?_
    refine zX.sn 1 (pc2 := 18) (l2 := [(2, .inr (ro + 1, 8 * cap1 + i)), (0, .inr (ro, i)), (1, .inr (xa, xi)), (3, zi (cap : Int))]) (st2 := [zi 1, zi (cap : Int), .inr (ro, i)]) rfl ?_
    refine zX.iadd ⟨rfl, rfl⟩ ?_
    refine zX.putf ⟨rfl, rfl⟩ (zup_n (zn (by omega)) zup_s) rfl (by omega) rfl ?_
    show zX _ 154 22 [(2, .inr (ro + 1, 8 * cap1 + i)), (0, .inr (ro, i)), (1, .inr (xa, xi)), (3, zi (cap : Int))] [] (c + 1) (s + cap1) (xup (xup (xup (xup (xup h (ro, i) (.inl (0, [.inl (.int (md + (Int32.ofInt 1))), .inr (ro + 1, 8 * cap + i), zi (cap : Int)]))) (ro + 1, 8 * cap1 + i) (.inr (4, cap1, (xcpy g (fun _ => .inl .null) 0 0 cap)))) (ro, i) (.inl (0, [.inl (.int (md + (Int32.ofInt 1))), .inr (ro + 1, 8 * cap1 + i), zi (cap : Int)]))) (ro + 1, 8 * cap1 + i) (.inr (4, cap1, (xfu (xcpy g (fun _ => .inl .null) 0 0 cap) cap (.inr (xa, xi)))))) (ro, i) (.inl (0, [.inl (.int (md + (Int32.ofInt 1))), .inr (ro + 1, 8 * cap1 + i), zi ((cap : Int) + 1)]))) _
    refine zX.ret rfl rfl ?_
    show zX _ 155 23 [(0, .inr (ro, i)), (1, .inr (xa, xi))] [] (c + 1) (s + cap1) _ _
    refine zX.sn 1 (pc2 := 24) (l2 := [(0, .inr (ro, i)), (1, .inr (xa, xi))]) (st2 := [zi 1]) rfl ?_
    refine zX.ret rfl (zret_z rfl (by decide)) ?_
    exact k1 e4 _ zup_s (zup_n (zn (by omega)) zup_s) (fun za zb hn => (zup_n (zn (by omega)) (zup_n (zn (by omega)) (zup_n (zn (by omega)) (zup_n (zn (by omega)) (zup_n (zn (by omega)) rfl))))))
  · refine zX.sn 1 (pc2 := 20) (l2 := [(3, zi ((cap : Int) + (if (((cap : Int) + 1) - (cap : Int)) < ((cap : Int) / 2) then ((cap : Int) / 2) else (((cap : Int) + 1) - (cap : Int))))), (0, zi (cap : Int)), (1, zi (((cap : Int) + 1) - (cap : Int))), (2, zi ((cap : Int) / 2))]) (st2 := [zi ((cap : Int) + (if (((cap : Int) + 1) - (cap : Int)) < ((cap : Int) / 2) then ((cap : Int) / 2) else (((cap : Int) + 1) - (cap : Int))))]) rfl ?_
    refine zX.ret rfl rfl ?_
    show zX _ 148 30 [(2, zi (cap : Int)), (0, .inr (ro, i)), (1, zi ((cap : Int) + 1))] [zi ((cap : Int) + (if (((cap : Int) + 1) - (cap : Int)) < ((cap : Int) / 2) then ((cap : Int) / 2) else (((cap : Int) + 1) - (cap : Int))))] c s _ _
    refine zX.sn 1 (pc2 := 31) (l2 := [(3, zi ((cap : Int) + (if (((cap : Int) + 1) - (cap : Int)) < ((cap : Int) / 2) then ((cap : Int) / 2) else (((cap : Int) + 1) - (cap : Int))))), (2, zi (cap : Int)), (0, .inr (ro, i)), (1, zi ((cap : Int) + 1))]) (st2 := []) rfl ?_
    refine zX.sn 1 (pc2 := 32) (l2 := [(3, zi ((cap : Int) + (if (((cap : Int) + 1) - (cap : Int)) < ((cap : Int) / 2) then ((cap : Int) / 2) else (((cap : Int) + 1) - (cap : Int))))), (2, zi (cap : Int)), (0, .inr (ro, i)), (1, zi ((cap : Int) + 1))]) (st2 := [.inr (ro, i)]) rfl ?_
    refine zX.sn 1 (pc2 := 33) (l2 := [(3, zi ((cap : Int) + (if (((cap : Int) + 1) - (cap : Int)) < ((cap : Int) / 2) then ((cap : Int) / 2) else (((cap : Int) + 1) - (cap : Int))))), (2, zi (cap : Int)), (0, .inr (ro, i)), (1, zi ((cap : Int) + 1))]) (st2 := [.inr (ro, i), .inr (ro, i)]) rfl ?_
    refine zX.getf ⟨rfl, rfl⟩ zup_s rfl rfl ?_
    refine zX.sn 1 (pc2 := 37) (l2 := [(3, zi ((cap : Int) + (if (((cap : Int) + 1) - (cap : Int)) < ((cap : Int) / 2) then ((cap : Int) / 2) else (((cap : Int) + 1) - (cap : Int))))), (2, zi (cap : Int)), (0, .inr (ro, i)), (1, zi ((cap : Int) + 1))]) (st2 := [zi ((cap : Int) + (if (((cap : Int) + 1) - (cap : Int)) < ((cap : Int) / 2) then ((cap : Int) / 2) else (((cap : Int) + 1) - (cap : Int)))), .inr (ro + 1, 8 * cap + i), .inr (ro, i)]) rfl ?_
    refine zX.cct (us := [(ro + 1, 8 * cap1 + i)]) (as := [.inr (ro + 1, 8 * cap + i), zi ((cap : Int) + (if (((cap : Int) + 1) - (cap : Int)) < ((cap : Int) / 2) then ((cap : Int) / 2) else (((cap : Int) + 1) - (cap : Int))))]) (rest := [.inr (ro, i)]) ⟨rfl, rfl⟩ rfl ⟨Nat.le_of_ble_eq_true rfl, Nat.le_of_ble_eq_true rfl⟩ (zct_ok (n := cap1) (by omega) (zup_n (zn (by omega)) H_ro_1_8_cap_i) (zup_n (zn (by omega)) F_ro_1_8_cap1_i) (by omega) (by omega) (by omega) (by omega) (zcpk (hE.fr (fun za zb hn => (zup_n (zn (by omega)) rfl))) hg (by omega))) ?_
    show zX _ 148 40 [(3, zi ((cap : Int) + (if (((cap : Int) + 1) - (cap : Int)) < ((cap : Int) / 2) then ((cap : Int) / 2) else (((cap : Int) + 1) - (cap : Int))))), (2, zi (cap : Int)), (0, .inr (ro, i)), (1, zi ((cap : Int) + 1))] [.inr (ro + 1, 8 * cap1 + i), .inr (ro, i)] (c + 1) (s + cap1) (xup (xup h (ro, i) (.inl (0, [.inl (.int (md + (Int32.ofInt 1))), .inr (ro + 1, 8 * cap + i), zi (cap : Int)]))) (ro + 1, 8 * cap1 + i) (.inr (4, cap1, (xcpy g (fun _ => .inl .null) 0 0 cap)))) _
    refine zX.sn 1 (pc2 := 41) (l2 := [(3, zi ((cap : Int) + (if (((cap : Int) + 1) - (cap : Int)) < ((cap : Int) / 2) then ((cap : Int) / 2) else (((cap : Int) + 1) - (cap : Int))))), (2, zi (cap : Int)), (0, .inr (ro, i)), (1, zi ((cap : Int) + 1))]) (st2 := [.inr (ro + 1, 8 * cap1 + i), .inr (ro, i), .inr (ro + 1, 8 * cap1 + i)]) rfl ?_
    refine zX.putf ⟨rfl, rfl⟩ (zup_n (zn (by omega)) zup_s) rfl (by omega) rfl ?_
    show zX _ 148 44 [(3, zi ((cap : Int) + (if (((cap : Int) + 1) - (cap : Int)) < ((cap : Int) / 2) then ((cap : Int) / 2) else (((cap : Int) + 1) - (cap : Int))))), (2, zi (cap : Int)), (0, .inr (ro, i)), (1, zi ((cap : Int) + 1))] [.inr (ro + 1, 8 * cap1 + i)] (c + 1) (s + cap1) (xup (xup (xup h (ro, i) (.inl (0, [.inl (.int (md + (Int32.ofInt 1))), .inr (ro + 1, 8 * cap + i), zi (cap : Int)]))) (ro + 1, 8 * cap1 + i) (.inr (4, cap1, (xcpy g (fun _ => .inl .null) 0 0 cap)))) (ro, i) (.inl (0, [.inl (.int (md + (Int32.ofInt 1))), .inr (ro + 1, 8 * cap1 + i), zi (cap : Int)]))) _
    refine zX.ret rfl rfl ?_
    show zX _ 149 10 [(0, .inr (ro, i))] [.inr (ro + 1, 8 * cap1 + i)] (c + 1) (s + cap1) _ _
    refine zX.ret rfl rfl ?_
    show zX _ 154 10 [(0, .inr (ro, i)), (1, .inr (xa, xi)), (2, .inr (ro + 1, 8 * cap + i)), (3, zi (cap : Int))] [.inr (ro + 1, 8 * cap1 + i)] (c + 1) (s + cap1) _ _
    refine zX.sn 1 (pc2 := 11) (l2 := [(2, .inr (ro + 1, 8 * cap1 + i)), (0, .inr (ro, i)), (1, .inr (xa, xi)), (3, zi (cap : Int))]) (st2 := []) rfl ?_
    refine zX.sn 1 (pc2 := 12) (l2 := [(2, .inr (ro + 1, 8 * cap1 + i)), (0, .inr (ro, i)), (1, .inr (xa, xi)), (3, zi (cap : Int))]) (st2 := [.inr (ro + 1, 8 * cap1 + i)]) rfl ?_
    refine zX.sn 1 (pc2 := 13) (l2 := [(2, .inr (ro + 1, 8 * cap1 + i)), (0, .inr (ro, i)), (1, .inr (xa, xi)), (3, zi (cap : Int))]) (st2 := [zi (cap : Int), .inr (ro + 1, 8 * cap1 + i)]) rfl ?_
    refine zX.sn 1 (pc2 := 14) (l2 := [(2, .inr (ro + 1, 8 * cap1 + i)), (0, .inr (ro, i)), (1, .inr (xa, xi)), (3, zi (cap : Int))]) (st2 := [.inr (xa, xi), zi (cap : Int), .inr (ro + 1, 8 * cap1 + i)]) rfl ?_
    refine zX.aast (j := cap) ⟨rfl, rfl⟩ (zup_n (zn (by omega)) zup_s) (by omega) rfl (by omega) (by omega) (zup_n (zn (by omega)) (zup_n (zn (by omega)) (zup_n (zn (by omega)) H_xa_xi))) hci ?_
    show zX _ 154 15 [(2, .inr (ro + 1, 8 * cap1 + i)), (0, .inr (ro, i)), (1, .inr (xa, xi)), (3, zi (cap : Int))] [] (c + 1) (s + cap1) (xup (xup (xup (xup h (ro, i) (.inl (0, [.inl (.int (md + (Int32.ofInt 1))), .inr (ro + 1, 8 * cap + i), zi (cap : Int)]))) (ro + 1, 8 * cap1 + i) (.inr (4, cap1, (xcpy g (fun _ => .inl .null) 0 0 cap)))) (ro, i) (.inl (0, [.inl (.int (md + (Int32.ofInt 1))), .inr (ro + 1, 8 * cap1 + i), zi (cap : Int)]))) (ro + 1, 8 * cap1 + i) (.inr (4, cap1, (xfu (xcpy g (fun _ => .inl .null) 0 0 cap) cap (.inr (xa, xi)))))) _
    refine zX.sn 1 (pc2 := 16) (l2 := [(2, .inr (ro + 1, 8 * cap1 + i)), (0, .inr (ro, i)), (1, .inr (xa, xi)), (3, zi (cap : Int))]) (st2 := [.inr (ro, i)]) rfl ?_
    refine zX.sn 1 (pc2 := 17) (l2 := [(2, .inr (ro + 1, 8 * cap1 + i)), (0, .inr (ro, i)), (1, .inr (xa, xi)), (3, zi (cap : Int))]) (st2 := [zi (cap : Int), .inr (ro, i)]) rfl ?_
    refine zX.sn 1 (pc2 := 18) (l2 := [(2, .inr (ro + 1, 8 * cap1 + i)), (0, .inr (ro, i)), (1, .inr (xa, xi)), (3, zi (cap : Int))]) (st2 := [zi 1, zi (cap : Int), .inr (ro, i)]) rfl ?_
    refine zX.iadd ⟨rfl, rfl⟩ ?_
    refine zX.putf ⟨rfl, rfl⟩ (zup_n (zn (by omega)) zup_s) rfl (by omega) rfl ?_
    show zX _ 154 22 [(2, .inr (ro + 1, 8 * cap1 + i)), (0, .inr (ro, i)), (1, .inr (xa, xi)), (3, zi (cap : Int))] [] (c + 1) (s + cap1) (xup (xup (xup (xup (xup h (ro, i) (.inl (0, [.inl (.int (md + (Int32.ofInt 1))), .inr (ro + 1, 8 * cap + i), zi (cap : Int)]))) (ro + 1, 8 * cap1 + i) (.inr (4, cap1, (xcpy g (fun _ => .inl .null) 0 0 cap)))) (ro, i) (.inl (0, [.inl (.int (md + (Int32.ofInt 1))), .inr (ro + 1, 8 * cap1 + i), zi (cap : Int)]))) (ro + 1, 8 * cap1 + i) (.inr (4, cap1, (xfu (xcpy g (fun _ => .inl .null) 0 0 cap) cap (.inr (xa, xi)))))) (ro, i) (.inl (0, [.inl (.int (md + (Int32.ofInt 1))), .inr (ro + 1, 8 * cap1 + i), zi ((cap : Int) + 1)]))) _
    refine zX.ret rfl rfl ?_
    show zX _ 155 23 [(0, .inr (ro, i)), (1, .inr (xa, xi))] [] (c + 1) (s + cap1) _ _
    refine zX.sn 1 (pc2 := 24) (l2 := [(0, .inr (ro, i)), (1, .inr (xa, xi))]) (st2 := [zi 1]) rfl ?_
    refine zX.ret rfl (zret_z rfl (by decide)) ?_
    exact k2 e4 _ zup_s (zup_n (zn (by omega)) zup_s) (fun za zb hn => (zup_n (zn (by omega)) (zup_n (zn (by omega)) (zup_n (zn (by omega)) (zup_n (zn (by omega)) (zup_n (zn (by omega)) rfl))))))

set_option maxHeartbeats 4000000 in
theorem r_remA {d c s : Nat} {h : xH} {Q : xR → Nat → Nat → xH → Prop} {ro i j n cap : Nat} {md : Int32} {x : Nat × Nat} {g : Nat → xV} {xs : List (Nat × Nat)} (h0 : 0 < ro) (hn : n ≤ cap) (hc : cap ≤ 108) (hjn : j + 1 < n) (hE : zEl h ro xs) (hg : ∀ (j : Nat) (x : Nat × Nat), xs[j]? = some x → g j = .inr x) (hxl : xs.length = n) (hgj : g j = .inr x) (H_ro_i : h (ro, i) = some (.inl (0, [.inl (.int md), .inr (ro + 1, 8 * cap + i), zi (n : Int)]))) (H_ro_1_8_cap_i : h (ro + 1, 8 * cap + i) = some (.inr (4, cap, g)))
    (k1 : ∀ h' : xH, h' (ro, i) = some (.inl (0, [.inl (.int (md + (Int32.ofInt 1))), .inr (ro + 1, 8 * cap + i), zi ((n : Int) - 1)])) → h' (ro + 1, 8 * cap + i) = some (.inr (4, cap, (xfu (xcpy g g (j + 1) j (n - 1 - j)) (n - 1) (.inl .null)))) → (∀ za zb : Nat, ¬ ((za = ro ∧ zb = i) ∨ (za = ro + 1 ∧ zb = 8 * cap + i)) → h' (za, zb) = h (za, zb)) → Q (.inl (some (.inr x))) c s h') :
    zX (d + 2) 156 0 [(0, .inr (ro, i)), (1, zi (j : Int))] [] c s h Q := by
  refine zX.sn 1 (pc2 := 1) (l2 := [(0, .inr (ro, i)), (1, zi (j : Int))]) (st2 := [zi (j : Int)]) rfl ?_
  refine zX.sn 1 (pc2 := 2) (l2 := [(0, .inr (ro, i)), (1, zi (j : Int))]) (st2 := [.inr (ro, i), zi (j : Int)]) rfl ?_
  refine zX.getf ⟨rfl, rfl⟩ H_ro_i rfl rfl ?_
  refine zX.call (mid2 := 164) (as := [zi (j : Int), zi (n : Int)]) (rest := []) ⟨rfl, rfl⟩ (fun _ => rfl) rfl ⟨Nat.le_of_ble_eq_true rfl, Nat.le_of_ble_eq_true rfl⟩ ?_
  show zX _ 164 0 [(0, zi (j : Int)), (1, zi (n : Int))] [] c s _ _
  refine zX.sn 1 (pc2 := 1) (l2 := [(0, zi (j : Int)), (1, zi (n : Int))]) (st2 := [zi (j : Int)]) rfl ?_
  refine zX.sn 1 (pc2 := 2) (l2 := [(0, zi (j : Int)), (1, zi (n : Int))]) (st2 := [zi (n : Int), zi (j : Int)]) rfl ?_
  refine zX.sn 1 (pc2 := 3) (l2 := [(0, zi (j : Int)), (1, zi (n : Int))]) (st2 := [.inl .null, zi (n : Int), zi (j : Int)]) rfl ?_
  refine zX.call (mid2 := 167) (as := [zi (j : Int), zi (n : Int), .inl .null]) (rest := []) ⟨rfl, rfl⟩ (fun _ => rfl) rfl ⟨Nat.le_of_ble_eq_true rfl, Nat.le_of_ble_eq_true rfl⟩ ?_
  show zX _ 167 0 [(0, zi (j : Int)), (1, zi (n : Int)), (2, .inl .null)] [] c s _ _
  refine zX.sn 1 (pc2 := 1) (l2 := [(0, zi (j : Int)), (1, zi (n : Int)), (2, .inl .null)]) (st2 := [zi (j : Int)]) rfl ?_
  refine zX.icmp0 (tgt := 9) ⟨rfl, rfl⟩ rfl (by omega) (fun (zz : (j : Int) < 0) => absurd zz (by omega)) (fun (e1 : 0 ≤ (j : Int)) => ?_)
  refine zX.sn 1 (pc2 := 5) (l2 := [(0, zi (j : Int)), (1, zi (n : Int)), (2, .inl .null)]) (st2 := [zi (j : Int)]) rfl ?_
  refine zX.sn 1 (pc2 := 6) (l2 := [(0, zi (j : Int)), (1, zi (n : Int)), (2, .inl .null)]) (st2 := [zi (n : Int), zi (j : Int)]) rfl ?_
  refine zX.icmp (tgt := 16) ⟨rfl, rfl⟩ rfl (by omega) (by omega) (fun (e2 : (j : Int) < (n : Int)) => ?_) (fun (zz : (n : Int) ≤ (j : Int)) => absurd zz (by omega))
  refine zX.sn 1 (pc2 := 17) (l2 := [(0, zi (j : Int)), (1, zi (n : Int)), (2, .inl .null)]) (st2 := [zi (j : Int)]) rfl ?_
  refine zX.ret rfl rfl ?_
  show zX _ 164 6 [(0, zi (j : Int)), (1, zi (n : Int))] [zi (j : Int)] c s _ _
  refine zX.ret rfl rfl ?_
  show zX _ 156 8 [(0, .inr (ro, i)), (1, zi (j : Int))] [zi (j : Int)] c s _ _
  refine zX.sn 1 (pc2 := 9) (l2 := [(0, .inr (ro, i)), (1, zi (j : Int))]) (st2 := []) rfl ?_
  refine zX.sn 1 (pc2 := 10) (l2 := [(0, .inr (ro, i)), (1, zi (j : Int))]) (st2 := [.inr (ro, i)]) rfl ?_
  refine zX.getf ⟨rfl, rfl⟩ H_ro_i rfl rfl ?_
  refine zX.sn 1 (pc2 := 14) (l2 := [(2, .inr (ro + 1, 8 * cap + i)), (0, .inr (ro, i)), (1, zi (j : Int))]) (st2 := []) rfl ?_
  refine zX.sn 1 (pc2 := 15) (l2 := [(2, .inr (ro + 1, 8 * cap + i)), (0, .inr (ro, i)), (1, zi (j : Int))]) (st2 := [.inr (ro + 1, 8 * cap + i)]) rfl ?_
  refine zX.sn 1 (pc2 := 16) (l2 := [(2, .inr (ro + 1, 8 * cap + i)), (0, .inr (ro, i)), (1, zi (j : Int))]) (st2 := [zi (j : Int), .inr (ro + 1, 8 * cap + i)]) rfl ?_
  refine zX.aald (j := j) ⟨rfl, rfl⟩ H_ro_1_8_cap_i rfl (by omega) (by omega) ?_
  rw [show (g j) = .inr x from hgj]
  show zX _ 156 17 [(2, .inr (ro + 1, 8 * cap + i)), (0, .inr (ro, i)), (1, zi (j : Int))] [.inr x] c s _ _
  refine zX.sn 1 (pc2 := 18) (l2 := [(3, .inr x), (2, .inr (ro + 1, 8 * cap + i)), (0, .inr (ro, i)), (1, zi (j : Int))]) (st2 := []) rfl ?_
  refine zX.sn 1 (pc2 := 19) (l2 := [(3, .inr x), (2, .inr (ro + 1, 8 * cap + i)), (0, .inr (ro, i)), (1, zi (j : Int))]) (st2 := [.inr (ro, i)]) rfl ?_
  refine zX.sn 1 (pc2 := 20) (l2 := [(3, .inr x), (2, .inr (ro + 1, 8 * cap + i)), (0, .inr (ro, i)), (1, zi (j : Int))]) (st2 := [.inr (ro + 1, 8 * cap + i), .inr (ro, i)]) rfl ?_
  refine zX.sn 1 (pc2 := 21) (l2 := [(3, .inr x), (2, .inr (ro + 1, 8 * cap + i)), (0, .inr (ro, i)), (1, zi (j : Int))]) (st2 := [zi (j : Int), .inr (ro + 1, 8 * cap + i), .inr (ro, i)]) rfl ?_
  refine zX.call (mid2 := 157) (as := [.inr (ro, i), .inr (ro + 1, 8 * cap + i), zi (j : Int)]) (rest := []) ⟨rfl, rfl⟩ (fun _ => rfl) (zX.inv rfl H_ro_i rfl rfl) ⟨Nat.le_of_ble_eq_true rfl, Nat.le_of_ble_eq_true rfl⟩ ?_
  show zX _ 157 0 [(0, .inr (ro, i)), (1, .inr (ro + 1, 8 * cap + i)), (2, zi (j : Int))] [] c s _ _
  refine zX.sn 1 (pc2 := 1) (l2 := [(0, .inr (ro, i)), (1, .inr (ro + 1, 8 * cap + i)), (2, zi (j : Int))]) (st2 := [.inr (ro, i)]) rfl ?_
  refine zX.sn 1 (pc2 := 2) (l2 := [(0, .inr (ro, i)), (1, .inr (ro + 1, 8 * cap + i)), (2, zi (j : Int))]) (st2 := [.inr (ro, i), .inr (ro, i)]) rfl ?_
  refine zX.getf ⟨rfl, rfl⟩ H_ro_i rfl rfl ?_
  refine zX.sn 1 (pc2 := 6) (l2 := [(0, .inr (ro, i)), (1, .inr (ro + 1, 8 * cap + i)), (2, zi (j : Int))]) (st2 := [zi 1, .inl (.int md), .inr (ro, i)]) rfl ?_
  refine zX.sn 1 (pc2 := 7) (l2 := [(0, .inr (ro, i)), (1, .inr (ro + 1, 8 * cap + i)), (2, zi (j : Int))]) (st2 := [.inl (.int (md + (Int32.ofInt 1))), .inr (ro, i)]) rfl ?_
  refine zX.putf ⟨rfl, rfl⟩ H_ro_i rfl (by omega) rfl ?_
  show zX _ 157 10 [(0, .inr (ro, i)), (1, .inr (ro + 1, 8 * cap + i)), (2, zi (j : Int))] [] c s (xup h (ro, i) (.inl (0, [.inl (.int (md + (Int32.ofInt 1))), .inr (ro + 1, 8 * cap + i), zi (n : Int)]))) _
  refine zX.sn 1 (pc2 := 11) (l2 := [(0, .inr (ro, i)), (1, .inr (ro + 1, 8 * cap + i)), (2, zi (j : Int))]) (st2 := [.inr (ro, i)]) rfl ?_
  refine zX.getf ⟨rfl, rfl⟩ zup_s rfl rfl ?_
  refine zX.sn 1 (pc2 := 15) (l2 := [(0, .inr (ro, i)), (1, .inr (ro + 1, 8 * cap + i)), (2, zi (j : Int))]) (st2 := [zi 1, zi (n : Int)]) rfl ?_
  refine zX.isub ⟨rfl, rfl⟩ ?_
  refine zX.sn 1 (pc2 := 17) (l2 := [(0, .inr (ro, i)), (1, .inr (ro + 1, 8 * cap + i)), (2, zi (j : Int))]) (st2 := [zi ((n : Int) - 1), zi ((n : Int) - 1)]) rfl ?_
  refine zX.sn 1 (pc2 := 18) (l2 := [(3, zi ((n : Int) - 1)), (0, .inr (ro, i)), (1, .inr (ro + 1, 8 * cap + i)), (2, zi (j : Int))]) (st2 := [zi ((n : Int) - 1)]) rfl ?_
  refine zX.sn 1 (pc2 := 19) (l2 := [(3, zi ((n : Int) - 1)), (0, .inr (ro, i)), (1, .inr (ro + 1, 8 * cap + i)), (2, zi (j : Int))]) (st2 := [zi (j : Int), zi ((n : Int) - 1)]) rfl ?_
  refine zX.icmp (tgt := 34) ⟨rfl, rfl⟩ rfl (by omega) (by omega) (fun (zz : ((n : Int) - 1) ≤ (j : Int)) => absurd zz (by omega)) (fun (e3 : (j : Int) < ((n : Int) - 1)) => ?_)
  refine zX.sn 1 (pc2 := 23) (l2 := [(3, zi ((n : Int) - 1)), (0, .inr (ro, i)), (1, .inr (ro + 1, 8 * cap + i)), (2, zi (j : Int))]) (st2 := [.inr (ro + 1, 8 * cap + i)]) rfl ?_
  refine zX.sn 1 (pc2 := 24) (l2 := [(3, zi ((n : Int) - 1)), (0, .inr (ro, i)), (1, .inr (ro + 1, 8 * cap + i)), (2, zi (j : Int))]) (st2 := [zi (j : Int), .inr (ro + 1, 8 * cap + i)]) rfl ?_
  refine zX.sn 1 (pc2 := 25) (l2 := [(3, zi ((n : Int) - 1)), (0, .inr (ro, i)), (1, .inr (ro + 1, 8 * cap + i)), (2, zi (j : Int))]) (st2 := [zi 1, zi (j : Int), .inr (ro + 1, 8 * cap + i)]) rfl ?_
  refine zX.iadd ⟨rfl, rfl⟩ ?_
  refine zX.sn 1 (pc2 := 27) (l2 := [(3, zi ((n : Int) - 1)), (0, .inr (ro, i)), (1, .inr (ro + 1, 8 * cap + i)), (2, zi (j : Int))]) (st2 := [.inr (ro + 1, 8 * cap + i), zi ((j : Int) + 1), .inr (ro + 1, 8 * cap + i)]) rfl ?_
  refine zX.sn 1 (pc2 := 28) (l2 := [(3, zi ((n : Int) - 1)), (0, .inr (ro, i)), (1, .inr (ro + 1, 8 * cap + i)), (2, zi (j : Int))]) (st2 := [zi (j : Int), .inr (ro + 1, 8 * cap + i), zi ((j : Int) + 1), .inr (ro + 1, 8 * cap + i)]) rfl ?_
  refine zX.sn 1 (pc2 := 29) (l2 := [(3, zi ((n : Int) - 1)), (0, .inr (ro, i)), (1, .inr (ro + 1, 8 * cap + i)), (2, zi (j : Int))]) (st2 := [zi ((n : Int) - 1), zi (j : Int), .inr (ro + 1, 8 * cap + i), zi ((j : Int) + 1), .inr (ro + 1, 8 * cap + i)]) rfl ?_
  refine zX.sn 1 (pc2 := 30) (l2 := [(3, zi ((n : Int) - 1)), (0, .inr (ro, i)), (1, .inr (ro + 1, 8 * cap + i)), (2, zi (j : Int))]) (st2 := [zi (j : Int), zi ((n : Int) - 1), zi (j : Int), .inr (ro + 1, 8 * cap + i), zi ((j : Int) + 1), .inr (ro + 1, 8 * cap + i)]) rfl ?_
  refine zX.isub ⟨rfl, rfl⟩ ?_
  refine zX.acp (n := (n - 1 - j)) (dp := j) (sp := (j + 1)) ⟨rfl, rfl⟩ (zup_n (zn (by omega)) H_ro_1_8_cap_i) (zup_n (zn (by omega)) H_ro_1_8_cap_i) (by decide) (by omega) (by omega) rfl (by omega) (by omega) (by omega) (zcpk (hE.fr (fun za zb hn => (zup_n (zn (by omega)) rfl))) hg (by omega)) (Nat.le_of_ble_eq_true rfl) ?_
  show zX _ 157 34 [(3, zi ((n : Int) - 1)), (0, .inr (ro, i)), (1, .inr (ro + 1, 8 * cap + i)), (2, zi (j : Int))] [] c s (xup (xup h (ro, i) (.inl (0, [.inl (.int (md + (Int32.ofInt 1))), .inr (ro + 1, 8 * cap + i), zi (n : Int)]))) (ro + 1, 8 * cap + i) (.inr (4, cap, (xcpy g g (j + 1) j (n - 1 - j))))) _
  refine zX.sn 1 (pc2 := 35) (l2 := [(3, zi ((n : Int) - 1)), (0, .inr (ro, i)), (1, .inr (ro + 1, 8 * cap + i)), (2, zi (j : Int))]) (st2 := [.inr (ro + 1, 8 * cap + i)]) rfl ?_
  refine zX.sn 1 (pc2 := 36) (l2 := [(3, zi ((n : Int) - 1)), (0, .inr (ro, i)), (1, .inr (ro + 1, 8 * cap + i)), (2, zi (j : Int))]) (st2 := [.inr (ro, i), .inr (ro + 1, 8 * cap + i)]) rfl ?_
  refine zX.sn 1 (pc2 := 37) (l2 := [(3, zi ((n : Int) - 1)), (0, .inr (ro, i)), (1, .inr (ro + 1, 8 * cap + i)), (2, zi (j : Int))]) (st2 := [zi ((n : Int) - 1), .inr (ro, i), .inr (ro + 1, 8 * cap + i)]) rfl ?_
  refine zX.sn 1 (pc2 := 38) (l2 := [(3, zi ((n : Int) - 1)), (0, .inr (ro, i)), (1, .inr (ro + 1, 8 * cap + i)), (2, zi (j : Int))]) (st2 := [zi ((n : Int) - 1), .inr (ro, i), zi ((n : Int) - 1), .inr (ro + 1, 8 * cap + i)]) rfl ?_
  refine zX.putf ⟨rfl, rfl⟩ (zup_n (zn (by omega)) zup_s) rfl (by omega) rfl ?_
  show zX _ 157 41 [(3, zi ((n : Int) - 1)), (0, .inr (ro, i)), (1, .inr (ro + 1, 8 * cap + i)), (2, zi (j : Int))] [zi ((n : Int) - 1), .inr (ro + 1, 8 * cap + i)] c s (xup (xup (xup h (ro, i) (.inl (0, [.inl (.int (md + (Int32.ofInt 1))), .inr (ro + 1, 8 * cap + i), zi (n : Int)]))) (ro + 1, 8 * cap + i) (.inr (4, cap, (xcpy g g (j + 1) j (n - 1 - j))))) (ro, i) (.inl (0, [.inl (.int (md + (Int32.ofInt 1))), .inr (ro + 1, 8 * cap + i), zi ((n : Int) - 1)]))) _
  refine zX.sn 1 (pc2 := 42) (l2 := [(3, zi ((n : Int) - 1)), (0, .inr (ro, i)), (1, .inr (ro + 1, 8 * cap + i)), (2, zi (j : Int))]) (st2 := [.inl .null, zi ((n : Int) - 1), .inr (ro + 1, 8 * cap + i)]) rfl ?_
  refine zX.nast (j := (n - 1)) ⟨rfl, rfl⟩ (zup_n (zn (by omega)) zup_s) (by omega) (by omega) (by omega) (by omega) ?_
  show zX _ 157 43 [(3, zi ((n : Int) - 1)), (0, .inr (ro, i)), (1, .inr (ro + 1, 8 * cap + i)), (2, zi (j : Int))] [] c s (xup (xup (xup (xup h (ro, i) (.inl (0, [.inl (.int (md + (Int32.ofInt 1))), .inr (ro + 1, 8 * cap + i), zi (n : Int)]))) (ro + 1, 8 * cap + i) (.inr (4, cap, (xcpy g g (j + 1) j (n - 1 - j))))) (ro, i) (.inl (0, [.inl (.int (md + (Int32.ofInt 1))), .inr (ro + 1, 8 * cap + i), zi ((n : Int) - 1)]))) (ro + 1, 8 * cap + i) (.inr (4, cap, (xfu (xcpy g g (j + 1) j (n - 1 - j)) (n - 1) (.inl .null))))) _
  refine zX.ret rfl rfl ?_
  show zX _ 156 24 [(3, .inr x), (2, .inr (ro + 1, 8 * cap + i)), (0, .inr (ro, i)), (1, zi (j : Int))] [] c s _ _
  refine zX.sn 1 (pc2 := 25) (l2 := [(3, .inr x), (2, .inr (ro + 1, 8 * cap + i)), (0, .inr (ro, i)), (1, zi (j : Int))]) (st2 := [.inr x]) rfl ?_
  refine zX.ret rfl rfl ?_
  exact k1 _ (zup_n (zn (by omega)) zup_s) zup_s (fun za zb hn => (zup_n (zn (by omega)) (zup_n (zn (by omega)) (zup_n (zn (by omega)) (zup_n (zn (by omega)) rfl)))))

set_option maxHeartbeats 4000000 in
theorem r_remB {d c s : Nat} {h : xH} {Q : xR → Nat → Nat → xH → Prop} {ro i j n cap : Nat} {md : Int32} {x : Nat × Nat} {g : Nat → xV} {xs : List (Nat × Nat)} (h0 : 0 < ro) (hn : n ≤ cap) (hc : cap ≤ 108) (hjn : j + 1 = n) (hE : zEl h ro xs) (hg : ∀ (j : Nat) (x : Nat × Nat), xs[j]? = some x → g j = .inr x) (hxl : xs.length = n) (hgj : g j = .inr x) (H_ro_i : h (ro, i) = some (.inl (0, [.inl (.int md), .inr (ro + 1, 8 * cap + i), zi (n : Int)]))) (H_ro_1_8_cap_i : h (ro + 1, 8 * cap + i) = some (.inr (4, cap, g)))
    (k1 : ∀ h' : xH, h' (ro, i) = some (.inl (0, [.inl (.int (md + (Int32.ofInt 1))), .inr (ro + 1, 8 * cap + i), zi ((n : Int) - 1)])) → h' (ro + 1, 8 * cap + i) = some (.inr (4, cap, (xfu g (n - 1) (.inl .null)))) → (∀ za zb : Nat, ¬ ((za = ro ∧ zb = i) ∨ (za = ro + 1 ∧ zb = 8 * cap + i)) → h' (za, zb) = h (za, zb)) → Q (.inl (some (.inr x))) c s h') :
    zX (d + 2) 156 0 [(0, .inr (ro, i)), (1, zi (j : Int))] [] c s h Q := by
  refine zX.sn 1 (pc2 := 1) (l2 := [(0, .inr (ro, i)), (1, zi (j : Int))]) (st2 := [zi (j : Int)]) rfl ?_
  refine zX.sn 1 (pc2 := 2) (l2 := [(0, .inr (ro, i)), (1, zi (j : Int))]) (st2 := [.inr (ro, i), zi (j : Int)]) rfl ?_
  refine zX.getf ⟨rfl, rfl⟩ H_ro_i rfl rfl ?_
  refine zX.call (mid2 := 164) (as := [zi (j : Int), zi (n : Int)]) (rest := []) ⟨rfl, rfl⟩ (fun _ => rfl) rfl ⟨Nat.le_of_ble_eq_true rfl, Nat.le_of_ble_eq_true rfl⟩ ?_
  show zX _ 164 0 [(0, zi (j : Int)), (1, zi (n : Int))] [] c s _ _
  refine zX.sn 1 (pc2 := 1) (l2 := [(0, zi (j : Int)), (1, zi (n : Int))]) (st2 := [zi (j : Int)]) rfl ?_
  refine zX.sn 1 (pc2 := 2) (l2 := [(0, zi (j : Int)), (1, zi (n : Int))]) (st2 := [zi (n : Int), zi (j : Int)]) rfl ?_
  refine zX.sn 1 (pc2 := 3) (l2 := [(0, zi (j : Int)), (1, zi (n : Int))]) (st2 := [.inl .null, zi (n : Int), zi (j : Int)]) rfl ?_
  refine zX.call (mid2 := 167) (as := [zi (j : Int), zi (n : Int), .inl .null]) (rest := []) ⟨rfl, rfl⟩ (fun _ => rfl) rfl ⟨Nat.le_of_ble_eq_true rfl, Nat.le_of_ble_eq_true rfl⟩ ?_
  show zX _ 167 0 [(0, zi (j : Int)), (1, zi (n : Int)), (2, .inl .null)] [] c s _ _
  refine zX.sn 1 (pc2 := 1) (l2 := [(0, zi (j : Int)), (1, zi (n : Int)), (2, .inl .null)]) (st2 := [zi (j : Int)]) rfl ?_
  refine zX.icmp0 (tgt := 9) ⟨rfl, rfl⟩ rfl (by omega) (fun (zz : (j : Int) < 0) => absurd zz (by omega)) (fun (e1 : 0 ≤ (j : Int)) => ?_)
  refine zX.sn 1 (pc2 := 5) (l2 := [(0, zi (j : Int)), (1, zi (n : Int)), (2, .inl .null)]) (st2 := [zi (j : Int)]) rfl ?_
  refine zX.sn 1 (pc2 := 6) (l2 := [(0, zi (j : Int)), (1, zi (n : Int)), (2, .inl .null)]) (st2 := [zi (n : Int), zi (j : Int)]) rfl ?_
  refine zX.icmp (tgt := 16) ⟨rfl, rfl⟩ rfl (by omega) (by omega) (fun (e2 : (j : Int) < (n : Int)) => ?_) (fun (zz : (n : Int) ≤ (j : Int)) => absurd zz (by omega))
  refine zX.sn 1 (pc2 := 17) (l2 := [(0, zi (j : Int)), (1, zi (n : Int)), (2, .inl .null)]) (st2 := [zi (j : Int)]) rfl ?_
  refine zX.ret rfl rfl ?_
  show zX _ 164 6 [(0, zi (j : Int)), (1, zi (n : Int))] [zi (j : Int)] c s _ _
  refine zX.ret rfl rfl ?_
  show zX _ 156 8 [(0, .inr (ro, i)), (1, zi (j : Int))] [zi (j : Int)] c s _ _
  refine zX.sn 1 (pc2 := 9) (l2 := [(0, .inr (ro, i)), (1, zi (j : Int))]) (st2 := []) rfl ?_
  refine zX.sn 1 (pc2 := 10) (l2 := [(0, .inr (ro, i)), (1, zi (j : Int))]) (st2 := [.inr (ro, i)]) rfl ?_
  refine zX.getf ⟨rfl, rfl⟩ H_ro_i rfl rfl ?_
  refine zX.sn 1 (pc2 := 14) (l2 := [(2, .inr (ro + 1, 8 * cap + i)), (0, .inr (ro, i)), (1, zi (j : Int))]) (st2 := []) rfl ?_
  refine zX.sn 1 (pc2 := 15) (l2 := [(2, .inr (ro + 1, 8 * cap + i)), (0, .inr (ro, i)), (1, zi (j : Int))]) (st2 := [.inr (ro + 1, 8 * cap + i)]) rfl ?_
  refine zX.sn 1 (pc2 := 16) (l2 := [(2, .inr (ro + 1, 8 * cap + i)), (0, .inr (ro, i)), (1, zi (j : Int))]) (st2 := [zi (j : Int), .inr (ro + 1, 8 * cap + i)]) rfl ?_
  refine zX.aald (j := j) ⟨rfl, rfl⟩ H_ro_1_8_cap_i rfl (by omega) (by omega) ?_
  rw [show (g j) = .inr x from hgj]
  show zX _ 156 17 [(2, .inr (ro + 1, 8 * cap + i)), (0, .inr (ro, i)), (1, zi (j : Int))] [.inr x] c s _ _
  refine zX.sn 1 (pc2 := 18) (l2 := [(3, .inr x), (2, .inr (ro + 1, 8 * cap + i)), (0, .inr (ro, i)), (1, zi (j : Int))]) (st2 := []) rfl ?_
  refine zX.sn 1 (pc2 := 19) (l2 := [(3, .inr x), (2, .inr (ro + 1, 8 * cap + i)), (0, .inr (ro, i)), (1, zi (j : Int))]) (st2 := [.inr (ro, i)]) rfl ?_
  refine zX.sn 1 (pc2 := 20) (l2 := [(3, .inr x), (2, .inr (ro + 1, 8 * cap + i)), (0, .inr (ro, i)), (1, zi (j : Int))]) (st2 := [.inr (ro + 1, 8 * cap + i), .inr (ro, i)]) rfl ?_
  refine zX.sn 1 (pc2 := 21) (l2 := [(3, .inr x), (2, .inr (ro + 1, 8 * cap + i)), (0, .inr (ro, i)), (1, zi (j : Int))]) (st2 := [zi (j : Int), .inr (ro + 1, 8 * cap + i), .inr (ro, i)]) rfl ?_
  refine zX.call (mid2 := 157) (as := [.inr (ro, i), .inr (ro + 1, 8 * cap + i), zi (j : Int)]) (rest := []) ⟨rfl, rfl⟩ (fun _ => rfl) (zX.inv rfl H_ro_i rfl rfl) ⟨Nat.le_of_ble_eq_true rfl, Nat.le_of_ble_eq_true rfl⟩ ?_
  show zX _ 157 0 [(0, .inr (ro, i)), (1, .inr (ro + 1, 8 * cap + i)), (2, zi (j : Int))] [] c s _ _
  refine zX.sn 1 (pc2 := 1) (l2 := [(0, .inr (ro, i)), (1, .inr (ro + 1, 8 * cap + i)), (2, zi (j : Int))]) (st2 := [.inr (ro, i)]) rfl ?_
  refine zX.sn 1 (pc2 := 2) (l2 := [(0, .inr (ro, i)), (1, .inr (ro + 1, 8 * cap + i)), (2, zi (j : Int))]) (st2 := [.inr (ro, i), .inr (ro, i)]) rfl ?_
  refine zX.getf ⟨rfl, rfl⟩ H_ro_i rfl rfl ?_
  refine zX.sn 1 (pc2 := 6) (l2 := [(0, .inr (ro, i)), (1, .inr (ro + 1, 8 * cap + i)), (2, zi (j : Int))]) (st2 := [zi 1, .inl (.int md), .inr (ro, i)]) rfl ?_
  refine zX.sn 1 (pc2 := 7) (l2 := [(0, .inr (ro, i)), (1, .inr (ro + 1, 8 * cap + i)), (2, zi (j : Int))]) (st2 := [.inl (.int (md + (Int32.ofInt 1))), .inr (ro, i)]) rfl ?_
  refine zX.putf ⟨rfl, rfl⟩ H_ro_i rfl (by omega) rfl ?_
  show zX _ 157 10 [(0, .inr (ro, i)), (1, .inr (ro + 1, 8 * cap + i)), (2, zi (j : Int))] [] c s (xup h (ro, i) (.inl (0, [.inl (.int (md + (Int32.ofInt 1))), .inr (ro + 1, 8 * cap + i), zi (n : Int)]))) _
  refine zX.sn 1 (pc2 := 11) (l2 := [(0, .inr (ro, i)), (1, .inr (ro + 1, 8 * cap + i)), (2, zi (j : Int))]) (st2 := [.inr (ro, i)]) rfl ?_
  refine zX.getf ⟨rfl, rfl⟩ zup_s rfl rfl ?_
  refine zX.sn 1 (pc2 := 15) (l2 := [(0, .inr (ro, i)), (1, .inr (ro + 1, 8 * cap + i)), (2, zi (j : Int))]) (st2 := [zi 1, zi (n : Int)]) rfl ?_
  refine zX.isub ⟨rfl, rfl⟩ ?_
  refine zX.sn 1 (pc2 := 17) (l2 := [(0, .inr (ro, i)), (1, .inr (ro + 1, 8 * cap + i)), (2, zi (j : Int))]) (st2 := [zi ((n : Int) - 1), zi ((n : Int) - 1)]) rfl ?_
  refine zX.sn 1 (pc2 := 18) (l2 := [(3, zi ((n : Int) - 1)), (0, .inr (ro, i)), (1, .inr (ro + 1, 8 * cap + i)), (2, zi (j : Int))]) (st2 := [zi ((n : Int) - 1)]) rfl ?_
  refine zX.sn 1 (pc2 := 19) (l2 := [(3, zi ((n : Int) - 1)), (0, .inr (ro, i)), (1, .inr (ro + 1, 8 * cap + i)), (2, zi (j : Int))]) (st2 := [zi (j : Int), zi ((n : Int) - 1)]) rfl ?_
  refine zX.icmp (tgt := 34) ⟨rfl, rfl⟩ rfl (by omega) (by omega) (fun (e3 : ((n : Int) - 1) ≤ (j : Int)) => ?_) (fun (zz : (j : Int) < ((n : Int) - 1)) => absurd zz (by omega))
  refine zX.sn 1 (pc2 := 35) (l2 := [(3, zi ((n : Int) - 1)), (0, .inr (ro, i)), (1, .inr (ro + 1, 8 * cap + i)), (2, zi (j : Int))]) (st2 := [.inr (ro + 1, 8 * cap + i)]) rfl ?_
  refine zX.sn 1 (pc2 := 36) (l2 := [(3, zi ((n : Int) - 1)), (0, .inr (ro, i)), (1, .inr (ro + 1, 8 * cap + i)), (2, zi (j : Int))]) (st2 := [.inr (ro, i), .inr (ro + 1, 8 * cap + i)]) rfl ?_
  refine zX.sn 1 (pc2 := 37) (l2 := [(3, zi ((n : Int) - 1)), (0, .inr (ro, i)), (1, .inr (ro + 1, 8 * cap + i)), (2, zi (j : Int))]) (st2 := [zi ((n : Int) - 1), .inr (ro, i), .inr (ro + 1, 8 * cap + i)]) rfl ?_
  refine zX.sn 1 (pc2 := 38) (l2 := [(3, zi ((n : Int) - 1)), (0, .inr (ro, i)), (1, .inr (ro + 1, 8 * cap + i)), (2, zi (j : Int))]) (st2 := [zi ((n : Int) - 1), .inr (ro, i), zi ((n : Int) - 1), .inr (ro + 1, 8 * cap + i)]) rfl ?_
  refine zX.putf ⟨rfl, rfl⟩ zup_s rfl (by omega) rfl ?_
  show zX _ 157 41 [(3, zi ((n : Int) - 1)), (0, .inr (ro, i)), (1, .inr (ro + 1, 8 * cap + i)), (2, zi (j : Int))] [zi ((n : Int) - 1), .inr (ro + 1, 8 * cap + i)] c s (xup (xup h (ro, i) (.inl (0, [.inl (.int (md + (Int32.ofInt 1))), .inr (ro + 1, 8 * cap + i), zi (n : Int)]))) (ro, i) (.inl (0, [.inl (.int (md + (Int32.ofInt 1))), .inr (ro + 1, 8 * cap + i), zi ((n : Int) - 1)]))) _
  refine zX.sn 1 (pc2 := 42) (l2 := [(3, zi ((n : Int) - 1)), (0, .inr (ro, i)), (1, .inr (ro + 1, 8 * cap + i)), (2, zi (j : Int))]) (st2 := [.inl .null, zi ((n : Int) - 1), .inr (ro + 1, 8 * cap + i)]) rfl ?_
  refine zX.nast (j := (n - 1)) ⟨rfl, rfl⟩ (zup_n (zn (by omega)) (zup_n (zn (by omega)) H_ro_1_8_cap_i)) (by omega) (by omega) (by omega) (by omega) ?_
  show zX _ 157 43 [(3, zi ((n : Int) - 1)), (0, .inr (ro, i)), (1, .inr (ro + 1, 8 * cap + i)), (2, zi (j : Int))] [] c s (xup (xup (xup h (ro, i) (.inl (0, [.inl (.int (md + (Int32.ofInt 1))), .inr (ro + 1, 8 * cap + i), zi (n : Int)]))) (ro, i) (.inl (0, [.inl (.int (md + (Int32.ofInt 1))), .inr (ro + 1, 8 * cap + i), zi ((n : Int) - 1)]))) (ro + 1, 8 * cap + i) (.inr (4, cap, (xfu g (n - 1) (.inl .null))))) _
  refine zX.ret rfl rfl ?_
  show zX _ 156 24 [(3, .inr x), (2, .inr (ro + 1, 8 * cap + i)), (0, .inr (ro, i)), (1, zi (j : Int))] [] c s _ _
  refine zX.sn 1 (pc2 := 25) (l2 := [(3, .inr x), (2, .inr (ro + 1, 8 * cap + i)), (0, .inr (ro, i)), (1, zi (j : Int))]) (st2 := [.inr x]) rfl ?_
  refine zX.ret rfl rfl ?_
  exact k1 _ (zup_n (zn (by omega)) zup_s) zup_s (fun za zb hn => (zup_n (zn (by omega)) (zup_n (zn (by omega)) (zup_n (zn (by omega)) rfl))))

end ZR45
