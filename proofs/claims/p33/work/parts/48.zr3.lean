set_option maxRecDepth 100000
section ZR48
theorem zcpJ {N : Nat} {fo : Nat → Int64} : xcpy (zJ fo) (zJ (fun _ => 0)) 0 0 N = zJ (fun j => if j < N then fo j else 0) := by
  funext j
  show (if 0 ≤ j ∧ j < 0 + N then zJ fo (0 + (j - 0)) else zJ (fun _ => 0) j) = Sum.inl (Value.long (if j < N then fo j else 0))
  by_cases hj : j < N
  · rw [if_pos ⟨by omega, by omega⟩, if_pos hj]
    show Sum.inl (Value.long (fo (0 + (j - 0)))) = _
    rw [show 0 + (j - 0) = j from by omega]
  · rw [if_neg (fun y => hj (by omega)), if_neg hj]
set_option maxHeartbeats 4000000 in
theorem r_clearE {d c s : Nat} {h : xH} {Q : xR → Nat → Nat → xH → Prop} {ro i : Nat} {md : Int32} {g : Nat → xV} (h0 : 0 < ro) (H_ro_i : h (ro, i) = some (.inl (0, [.inl (.int md), .inr (0, 1), zi 0]))) (H_0_1 : h (0, 1) = some (.inr (4, 0, g)))
    (k1 : ∀ h' : xH, h' (ro, i) = some (.inl (0, [.inl (.int (md + (Int32.ofInt 1))), .inr (0, 1), zi 0])) → (∀ za zb : Nat, ¬ ((za = ro ∧ zb = i)) → h' (za, zb) = h (za, zb)) → Q (.inl none) c s h') :
    zX d 158 0 [(0, .inr (ro, i))] [] c s h Q := by
  refine zX.sn 1 (pc2 := 1) (l2 := [(0, .inr (ro, i))]) (st2 := [.inr (ro, i)]) rfl ?_
  refine zX.sn 1 (pc2 := 2) (l2 := [(0, .inr (ro, i))]) (st2 := [.inr (ro, i), .inr (ro, i)]) rfl ?_
  refine zX.getf ⟨rfl, rfl⟩ H_ro_i rfl rfl ?_
  refine zX.sn 1 (pc2 := 6) (l2 := [(0, .inr (ro, i))]) (st2 := [zi 1, .inl (.int md), .inr (ro, i)]) rfl ?_
  refine zX.sn 1 (pc2 := 7) (l2 := [(0, .inr (ro, i))]) (st2 := [.inl (.int (md + (Int32.ofInt 1))), .inr (ro, i)]) rfl ?_
  refine zX.putf ⟨rfl, rfl⟩ H_ro_i rfl (by omega) rfl ?_
  show zX _ 158 10 [(0, .inr (ro, i))] [] c s (xup h (ro, i) (.inl (0, [.inl (.int (md + (Int32.ofInt 1))), .inr (0, 1), zi 0]))) _
  refine zX.sn 1 (pc2 := 11) (l2 := [(0, .inr (ro, i))]) (st2 := [.inr (ro, i)]) rfl ?_
  refine zX.getf ⟨rfl, rfl⟩ zup_s rfl rfl ?_
  refine zX.sn 1 (pc2 := 15) (l2 := [(1, .inr (0, 1)), (0, .inr (ro, i))]) (st2 := []) rfl ?_
  refine zX.sn 1 (pc2 := 16) (l2 := [(1, .inr (0, 1)), (0, .inr (ro, i))]) (st2 := [.inr (ro, i)]) rfl ?_
  refine zX.getf ⟨rfl, rfl⟩ zup_s rfl rfl ?_
  refine zX.sn 1 (pc2 := 20) (l2 := [(2, zi 0), (1, .inr (0, 1)), (0, .inr (ro, i))]) (st2 := []) rfl ?_
  refine zX.sn 1 (pc2 := 21) (l2 := [(2, zi 0), (1, .inr (0, 1)), (0, .inr (ro, i))]) (st2 := [.inr (ro, i)]) rfl ?_
  refine zX.sn 1 (pc2 := 22) (l2 := [(2, zi 0), (1, .inr (0, 1)), (0, .inr (ro, i))]) (st2 := [zi 0, .inr (ro, i)]) rfl ?_
  refine zX.sn 1 (pc2 := 23) (l2 := [(2, zi 0), (1, .inr (0, 1)), (0, .inr (ro, i))]) (st2 := [zi 0, .inr (ro, i), zi 0]) rfl ?_
  refine zX.putf ⟨rfl, rfl⟩ zup_s rfl (by omega) rfl ?_
  show zX _ 158 26 [(2, zi 0), (1, .inr (0, 1)), (0, .inr (ro, i))] [zi 0] c s (xup (xup h (ro, i) (.inl (0, [.inl (.int (md + (Int32.ofInt 1))), .inr (0, 1), zi 0]))) (ro, i) (.inl (0, [.inl (.int (md + (Int32.ofInt 1))), .inr (0, 1), zi 0]))) _
  refine zX.sn 1 (pc2 := 27) (l2 := [(3, zi 0), (2, zi 0), (1, .inr (0, 1)), (0, .inr (ro, i))]) (st2 := []) rfl ?_
  refine zX.sn 1 (pc2 := 28) (l2 := [(3, zi 0), (2, zi 0), (1, .inr (0, 1)), (0, .inr (ro, i))]) (st2 := [zi 0]) rfl ?_
  refine zX.sn 1 (pc2 := 29) (l2 := [(3, zi 0), (2, zi 0), (1, .inr (0, 1)), (0, .inr (ro, i))]) (st2 := [zi 0, zi 0]) rfl ?_
  refine zX.icmp (tgt := 42) ⟨rfl, rfl⟩ rfl (by omega) (by omega) (fun (e1 : 0 ≤ 0) => ?_) (fun (zz : 0 < 0) => absurd zz (by omega))
  refine zX.ret rfl rfl ?_
  exact k1 _ zup_s (fun za zb hn => (zup_n (zn (by omega)) (zup_n (zn (by omega)) rfl)))

set_option maxHeartbeats 4000000 in
theorem r_clear0 {d c s : Nat} {h : xH} {Q : xR → Nat → Nat → xH → Prop} {ro i n cap : Nat} {md : Int32} {g : Nat → xV} (h0 : 0 < ro) (hn : n ≤ cap) (hc : cap ≤ 108) (H_ro_i : h (ro, i) = some (.inl (0, [.inl (.int md), .inr (ro + 1, 8 * cap + i), zi (n : Int)]))) (H_ro_1_8_cap_i : h (ro + 1, 8 * cap + i) = some (.inr (4, cap, g)))
    (k1 : ∀ h' : xH, h' (ro, i) = some (.inl (0, [.inl (.int (md + (Int32.ofInt 1))), .inr (ro + 1, 8 * cap + i), zi 0])) → (∀ za zb : Nat, ¬ ((za = ro ∧ zb = i)) → h' (za, zb) = h (za, zb)) → zX d 158 27 [(0, .inr (ro, i)), (1, .inr (ro + 1, 8 * cap + i)), (2, zi (n : Int)), (3, zi 0)] [] c s h' Q) :
    zX d 158 0 [(0, .inr (ro, i))] [] c s h Q := by
  refine zX.sn 1 (pc2 := 1) (l2 := [(0, .inr (ro, i))]) (st2 := [.inr (ro, i)]) rfl ?_
  refine zX.sn 1 (pc2 := 2) (l2 := [(0, .inr (ro, i))]) (st2 := [.inr (ro, i), .inr (ro, i)]) rfl ?_
  refine zX.getf ⟨rfl, rfl⟩ H_ro_i rfl rfl ?_
  refine zX.sn 1 (pc2 := 6) (l2 := [(0, .inr (ro, i))]) (st2 := [zi 1, .inl (.int md), .inr (ro, i)]) rfl ?_
  refine zX.sn 1 (pc2 := 7) (l2 := [(0, .inr (ro, i))]) (st2 := [.inl (.int (md + (Int32.ofInt 1))), .inr (ro, i)]) rfl ?_
  refine zX.putf ⟨rfl, rfl⟩ H_ro_i rfl (by omega) rfl ?_
  show zX _ 158 10 [(0, .inr (ro, i))] [] c s (xup h (ro, i) (.inl (0, [.inl (.int (md + (Int32.ofInt 1))), .inr (ro + 1, 8 * cap + i), zi (n : Int)]))) _
  refine zX.sn 1 (pc2 := 11) (l2 := [(0, .inr (ro, i))]) (st2 := [.inr (ro, i)]) rfl ?_
  refine zX.getf ⟨rfl, rfl⟩ zup_s rfl rfl ?_
  refine zX.sn 1 (pc2 := 15) (l2 := [(1, .inr (ro + 1, 8 * cap + i)), (0, .inr (ro, i))]) (st2 := []) rfl ?_
  refine zX.sn 1 (pc2 := 16) (l2 := [(1, .inr (ro + 1, 8 * cap + i)), (0, .inr (ro, i))]) (st2 := [.inr (ro, i)]) rfl ?_
  refine zX.getf ⟨rfl, rfl⟩ zup_s rfl rfl ?_
  refine zX.sn 1 (pc2 := 20) (l2 := [(2, zi (n : Int)), (1, .inr (ro + 1, 8 * cap + i)), (0, .inr (ro, i))]) (st2 := []) rfl ?_
  refine zX.sn 1 (pc2 := 21) (l2 := [(2, zi (n : Int)), (1, .inr (ro + 1, 8 * cap + i)), (0, .inr (ro, i))]) (st2 := [.inr (ro, i)]) rfl ?_
  refine zX.sn 1 (pc2 := 22) (l2 := [(2, zi (n : Int)), (1, .inr (ro + 1, 8 * cap + i)), (0, .inr (ro, i))]) (st2 := [zi 0, .inr (ro, i)]) rfl ?_
  refine zX.sn 1 (pc2 := 23) (l2 := [(2, zi (n : Int)), (1, .inr (ro + 1, 8 * cap + i)), (0, .inr (ro, i))]) (st2 := [zi 0, .inr (ro, i), zi 0]) rfl ?_
  refine zX.putf ⟨rfl, rfl⟩ zup_s rfl (by omega) rfl ?_
  show zX _ 158 26 [(2, zi (n : Int)), (1, .inr (ro + 1, 8 * cap + i)), (0, .inr (ro, i))] [zi 0] c s (xup (xup h (ro, i) (.inl (0, [.inl (.int (md + (Int32.ofInt 1))), .inr (ro + 1, 8 * cap + i), zi (n : Int)]))) (ro, i) (.inl (0, [.inl (.int (md + (Int32.ofInt 1))), .inr (ro + 1, 8 * cap + i), zi 0]))) _
  refine zX.sn 1 (pc2 := 27) (l2 := [(3, zi 0), (2, zi (n : Int)), (1, .inr (ro + 1, 8 * cap + i)), (0, .inr (ro, i))]) (st2 := []) rfl ?_
  refine zX.re [(0, .inr (ro, i)), (1, .inr (ro + 1, 8 * cap + i)), (2, zi (n : Int)), (3, zi 0)] [3, 2, 1, 0] [3, 2, 1, 0] rfl rfl (by decide) ?_
  exact k1 _ zup_s (fun za zb hn => (zup_n (zn (by omega)) (zup_n (zn (by omega)) rfl)))

set_option maxHeartbeats 4000000 in
theorem r_clear {d c s : Nat} {h : xH} {Q : xR → Nat → Nat → xH → Prop} {ro i n j cap : Nat} {md : Int32} {g : Nat → xV} (h0 : 0 < ro) (hn : n ≤ cap) (hc : cap ≤ 108) (hj : j ≤ n) (H_ro_i : h (ro, i) = some (.inl (0, [.inl (.int md), .inr (ro + 1, 8 * cap + i), zi 0]))) (H_ro_1_8_cap_i : h (ro + 1, 8 * cap + i) = some (.inr (4, cap, g)))
    (k1 : ((n : Int) ≤ (j : Int)) → Q (.inl none) c s h)
    (k2 : ((j : Int) < (n : Int)) → ∀ h' : xH, h' (ro + 1, 8 * cap + i) = some (.inr (4, cap, (xfu g j (.inl .null)))) → (∀ za zb : Nat, ¬ ((za = ro + 1 ∧ zb = 8 * cap + i)) → h' (za, zb) = h (za, zb)) → zX d 158 27 [(0, .inr (ro, i)), (1, .inr (ro + 1, 8 * cap + i)), (2, zi (n : Int)), (3, zi ((j : Int) + 1))] [] c s h' Q) :
    zX d 158 27 [(0, .inr (ro, i)), (1, .inr (ro + 1, 8 * cap + i)), (2, zi (n : Int)), (3, zi (j : Int))] [] c s h Q := by
  refine zX.sn 1 (pc2 := 28) (l2 := [(0, .inr (ro, i)), (1, .inr (ro + 1, 8 * cap + i)), (2, zi (n : Int)), (3, zi (j : Int))]) (st2 := [zi (j : Int)]) rfl ?_
  refine zX.sn 1 (pc2 := 29) (l2 := [(0, .inr (ro, i)), (1, .inr (ro + 1, 8 * cap + i)), (2, zi (n : Int)), (3, zi (j : Int))]) (st2 := [zi (n : Int), zi (j : Int)]) rfl ?_
  refine zX.icmp (tgt := 42) ⟨rfl, rfl⟩ rfl (by omega) (by omega) (fun (e1 : (n : Int) ≤ (j : Int)) => ?_) (fun (e1 : (j : Int) < (n : Int)) => ?_)
  · refine zX.ret rfl rfl ?_
    exact k1 e1
  · refine zX.sn 1 (pc2 := 33) (l2 := [(0, .inr (ro, i)), (1, .inr (ro + 1, 8 * cap + i)), (2, zi (n : Int)), (3, zi (j : Int))]) (st2 := [.inr (ro + 1, 8 * cap + i)]) rfl ?_
    refine zX.sn 1 (pc2 := 34) (l2 := [(0, .inr (ro, i)), (1, .inr (ro + 1, 8 * cap + i)), (2, zi (n : Int)), (3, zi (j : Int))]) (st2 := [zi (j : Int), .inr (ro + 1, 8 * cap + i)]) rfl ?_
    refine zX.sn 1 (pc2 := 35) (l2 := [(0, .inr (ro, i)), (1, .inr (ro + 1, 8 * cap + i)), (2, zi (n : Int)), (3, zi (j : Int))]) (st2 := [.inl .null, zi (j : Int), .inr (ro + 1, 8 * cap + i)]) rfl ?_
    refine zX.nast (j := j) ⟨rfl, rfl⟩ H_ro_1_8_cap_i (by omega) rfl (by omega) (by omega) ?_
    show zX _ 158 36 [(0, .inr (ro, i)), (1, .inr (ro + 1, 8 * cap + i)), (2, zi (n : Int)), (3, zi (j : Int))] [] c s (xup h (ro + 1, 8 * cap + i) (.inr (4, cap, (xfu g j (.inl .null))))) _
    refine zX.s1 (pc2 := 39) (l2 := [(3, zi ((j : Int) + 1)), (0, .inr (ro, i)), (1, .inr (ro + 1, 8 * cap + i)), (2, zi (n : Int))]) (st2 := []) ⟨rfl, rfl⟩ (by rw [show (zi ((j : Int) + 1) : xV) = .inl (.int (Int32.ofInt (j : Int) + 1)) from congrArg (fun z => (.inl (.int z) : xV)) (Int32.ofInt_add _ _)]; rfl) ?_
    refine zX.sn 1 (pc2 := 27) (l2 := [(3, zi ((j : Int) + 1)), (0, .inr (ro, i)), (1, .inr (ro + 1, 8 * cap + i)), (2, zi (n : Int))]) (st2 := []) rfl ?_
    refine zX.re [(0, .inr (ro, i)), (1, .inr (ro + 1, 8 * cap + i)), (2, zi (n : Int)), (3, zi ((j : Int) + 1))] [1, 2, 3, 0] [3, 0, 1, 2] rfl rfl (by decide) ?_
    exact k2 e1 _ zup_s (fun za zb hn => (zup_n (zn (by omega)) rfl))

set_option maxHeartbeats 4000000 in
theorem r_rclr {d c s : Nat} {h : xH} {Q : xR → Nat → Nat → xH → Prop} {ro i L : Nat} {fa : Nat → Int64} (h0 : 0 < ro) (hL : L ≤ 67108864) (hb0 : ∀ t, L ≤ t → fa t = 0) (H_ro_i : h (ro, i) = some (.inl (5, [.inr (ro + 1, i), zi (zcnt fa L : Int)]))) (H_ro_1_i : h (ro + 1, i) = some (.inr (1, L, zJ fa)))
    (k1 : ∀ h' : xH, h' (ro + 1, i) = some (.inr (1, L, zJ (fun _ => 0))) → h' (ro, i) = some (.inl (5, [.inr (ro + 1, i), zi 0])) → (∀ za zb : Nat, ¬ ((za = ro + 1 ∧ zb = i) ∨ (za = ro ∧ zb = i)) → h' (za, zb) = h (za, zb)) → Q (.inl none) c s h') :
    zX (d + 1) 26 0 [(0, .inr (ro, i))] [] c s h Q := by
  refine zX.sn 1 (pc2 := 1) (l2 := [(0, .inr (ro, i))]) (st2 := [.inr (ro, i)]) rfl ?_
  refine zX.getf ⟨rfl, rfl⟩ H_ro_i rfl rfl ?_
  refine zX.sn 1 (pc2 := 5) (l2 := [(0, .inr (ro, i))]) (st2 := [.inl (.long 0), .inr (ro + 1, i)]) rfl ?_
  refine zX.call (mid2 := 159) (as := [.inr (ro + 1, i), .inl (.long 0)]) (rest := []) ⟨rfl, rfl⟩ (fun _ => rfl) rfl ⟨Nat.le_of_ble_eq_true rfl, Nat.le_of_ble_eq_true rfl⟩ ?_
  refine s_fillJ0 (by omega) (by omega) hb0 H_ro_1_i (fun h1 he1 hF1 => ?_)
  show zX _ 26 8 [(0, .inr (ro, i))] [] c s _ _
  refine zX.sn 1 (pc2 := 9) (l2 := [(0, .inr (ro, i))]) (st2 := [.inr (ro, i)]) rfl ?_
  refine zX.sn 1 (pc2 := 10) (l2 := [(0, .inr (ro, i))]) (st2 := [zi 0, .inr (ro, i)]) rfl ?_
  refine zX.putf ⟨rfl, rfl⟩ ((hF1 ro i (by omega)).trans H_ro_i) rfl (by omega) rfl ?_
  show zX _ 26 13 [(0, .inr (ro, i))] [] c s (xup h1 (ro, i) (.inl (5, [.inr (ro + 1, i), zi 0]))) _
  refine zX.ret rfl rfl ?_
  exact k1 _ (zup_n (zn (by omega)) he1) zup_s (fun za zb hn => (zup_n (zn (by omega)) ((hF1 za zb (by omega)).trans rfl)))

set_option maxHeartbeats 4000000 in
theorem r_tclrA {d c s : Nat} {h : xH} {Q : xR → Nat → Nat → xH → Prop} {ro i L : Nat} {fn fs fg : Nat → Int32} (h0 : 0 < ro) (hL : L ≤ 67108864) (hb_fn : ∀ t, L ≤ t → fn t = 0) (hb_fs : ∀ t, L ≤ t → fs t = 0) (hb_fg : ∀ t, L ≤ t → fg t = 0) (H_ro_i : h (ro, i) = some (.inl (7, [.inr (ro + 1, i), .inr (ro + 2, i), .inr (ro + 3, i)]))) (H_ro_1_i : h (ro + 1, i) = some (.inr (0, L, zI fn))) (H_ro_2_i : h (ro + 2, i) = some (.inr (0, L, zI fs))) (H_ro_3_i : h (ro + 3, i) = some (.inr (0, L, zI fg)))
    (k1 : ∀ h' : xH, h' (ro + 1, i) = some (.inr (0, L, zI (fun _ => 0))) → h' (ro + 2, i) = some (.inr (0, L, zI (fun _ => 0))) → h' (ro + 3, i) = some (.inr (0, L, zI (fun _ => 0))) → (∀ za zb : Nat, ¬ ((za = ro + 1 ∧ zb = i) ∨ (za = ro + 2 ∧ zb = i) ∨ (za = ro + 3 ∧ zb = i)) → h' (za, zb) = h (za, zb)) → Q (.inl none) c s h') :
    zX (d + 1) 57 0 [(0, .inr (ro, i))] [] c s h Q := by
  refine zX.sn 1 (pc2 := 1) (l2 := [(0, .inr (ro, i))]) (st2 := [.inr (ro, i)]) rfl ?_
  refine zX.getf ⟨rfl, rfl⟩ H_ro_i rfl rfl ?_
  refine zX.sn 1 (pc2 := 5) (l2 := [(0, .inr (ro, i))]) (st2 := [zi 0, .inr (ro + 1, i)]) rfl ?_
  refine zX.call (mid2 := 160) (as := [.inr (ro + 1, i), zi 0]) (rest := []) ⟨rfl, rfl⟩ (fun _ => rfl) rfl ⟨Nat.le_of_ble_eq_true rfl, Nat.le_of_ble_eq_true rfl⟩ ?_
  refine s_fillI (by omega) (by omega) hb_fn H_ro_1_i (fun h1 he1 hF1 => ?_)
  show zX _ 57 8 [(0, .inr (ro, i))] [] c s _ _
  refine zX.sn 1 (pc2 := 9) (l2 := [(0, .inr (ro, i))]) (st2 := [.inr (ro, i)]) rfl ?_
  refine zX.getf ⟨rfl, rfl⟩ ((hF1 ro i (by omega)).trans H_ro_i) rfl rfl ?_
  refine zX.sn 1 (pc2 := 13) (l2 := [(0, .inr (ro, i))]) (st2 := [zi 0, .inr (ro + 2, i)]) rfl ?_
  refine zX.call (mid2 := 160) (as := [.inr (ro + 2, i), zi 0]) (rest := []) ⟨rfl, rfl⟩ (fun _ => rfl) rfl ⟨Nat.le_of_ble_eq_true rfl, Nat.le_of_ble_eq_true rfl⟩ ?_
  refine s_fillI (by omega) (by omega) hb_fs ((hF1 (ro + 2) i (by omega)).trans H_ro_2_i) (fun h2 he2 hF2 => ?_)
  show zX _ 57 16 [(0, .inr (ro, i))] [] c s _ _
  refine zX.sn 1 (pc2 := 17) (l2 := [(0, .inr (ro, i))]) (st2 := [.inr (ro, i)]) rfl ?_
  refine zX.getf ⟨rfl, rfl⟩ ((hF2 ro i (by omega)).trans ((hF1 ro i (by omega)).trans H_ro_i)) rfl rfl ?_
  refine zX.sn 1 (pc2 := 21) (l2 := [(0, .inr (ro, i))]) (st2 := [zi 0, .inr (ro + 3, i)]) rfl ?_
  refine zX.call (mid2 := 160) (as := [.inr (ro + 3, i), zi 0]) (rest := []) ⟨rfl, rfl⟩ (fun _ => rfl) rfl ⟨Nat.le_of_ble_eq_true rfl, Nat.le_of_ble_eq_true rfl⟩ ?_
  refine s_fillI (by omega) (by omega) hb_fg ((hF2 (ro + 3) i (by omega)).trans ((hF1 (ro + 3) i (by omega)).trans H_ro_3_i)) (fun h3 he3 hF3 => ?_)
  show zX _ 57 24 [(0, .inr (ro, i))] [] c s _ _
  refine zX.ret rfl rfl ?_
  exact k1 _ ((hF3 (ro + 1) i (by omega)).trans ((hF2 (ro + 1) i (by omega)).trans he1)) ((hF3 (ro + 2) i (by omega)).trans he2) he3 (fun za zb hn => ((hF3 za zb (by omega)).trans ((hF2 za zb (by omega)).trans ((hF1 za zb (by omega)).trans rfl))))

set_option maxHeartbeats 4000000 in
theorem r_oat {d c s : Nat} {h : xH} {Q : xR → Nat → Nat → xH → Prop} {N z j : Nat} {fo : Nat → Int64} (hN : N ≤ 320000) (hj : j < N) (H_2_0 : h (2, 0) = some (.inl (3, [.inr (3, N), zi (z : Int)]))) (H_3_N : h (3, N) = some (.inr (1, N, zJ fo)))
    (k1 : Q (.inl (some (.inl (.long (fo j))))) c s h) :
    zX d 12 0 [(0, .inr (2, 0)), (1, zi (j : Int))] [] c s h Q := by
  refine zX.sn 1 (pc2 := 1) (l2 := [(0, .inr (2, 0)), (1, zi (j : Int))]) (st2 := [zi (j : Int)]) rfl ?_
  refine zX.icmp0 (tgt := 22) ⟨rfl, rfl⟩ rfl (by omega) (fun (zz : (j : Int) < 0) => absurd zz (by omega)) (fun (e1 : 0 ≤ (j : Int)) => ?_)
  refine zX.sn 1 (pc2 := 5) (l2 := [(0, .inr (2, 0)), (1, zi (j : Int))]) (st2 := [zi (j : Int)]) rfl ?_
  refine zX.sn 1 (pc2 := 6) (l2 := [(0, .inr (2, 0)), (1, zi (j : Int))]) (st2 := [.inr (2, 0), zi (j : Int)]) rfl ?_
  refine zX.getf ⟨rfl, rfl⟩ H_2_0 rfl rfl ?_
  refine zX.alen ⟨rfl, rfl⟩ H_3_N ?_
  refine zX.icmp (tgt := 22) ⟨rfl, rfl⟩ rfl (by omega) (by omega) (fun (zz : (N : Int) ≤ (j : Int)) => absurd zz (by omega)) (fun (e2 : (j : Int) < (N : Int)) => ?_)
  refine zX.sn 1 (pc2 := 14) (l2 := [(0, .inr (2, 0)), (1, zi (j : Int))]) (st2 := [.inr (2, 0)]) rfl ?_
  refine zX.getf ⟨rfl, rfl⟩ H_2_0 rfl rfl ?_
  refine zX.sn 1 (pc2 := 18) (l2 := [(0, .inr (2, 0)), (1, zi (j : Int))]) (st2 := [zi (j : Int), .inr (3, N)]) rfl ?_
  refine zX.lald (j := j) ⟨rfl, rfl⟩ H_3_N rfl (by omega) (by omega) ?_
  show zX _ 12 19 [(0, .inr (2, 0)), (1, zi (j : Int))] [.inl (.long (fo j))] c s _ _
  refine zX.sn 1 (pc2 := 23) (l2 := [(0, .inr (2, 0)), (1, zi (j : Int))]) (st2 := [.inl (.long (fo j))]) rfl ?_
  refine zX.ret rfl rfl ?_
  exact k1

set_option maxHeartbeats 4000000 in
theorem r_oadd {d c s : Nat} {h : xH} {Q : xR → Nat → Nat → xH → Prop} {N z : Nat} {fo : Nat → Int64} {x : Int64} (hN : N ≤ 320000) (hz : z < N) (H_2_0 : h (2, 0) = some (.inl (3, [.inr (3, N), zi (z : Int)]))) (H_3_N : h (3, N) = some (.inr (1, N, zJ fo)))
    (k1 : ∀ h' : xH, h' (3, N) = some (.inr (1, N, zJ (zfi fo z x))) → h' (2, 0) = some (.inl (3, [.inr (3, N), zi ((z : Int) + 1)])) → (∀ za zb : Nat, ¬ ((za = 3 ∧ zb = N) ∨ (za = 2 ∧ zb = 0)) → h' (za, zb) = h (za, zb)) → Q (.inl none) c s h') :
    zX d 11 0 [(0, .inr (2, 0)), (1, .inl (.long x))] [] c s h Q := by
  refine zX.sn 1 (pc2 := 1) (l2 := [(0, .inr (2, 0)), (1, .inl (.long x))]) (st2 := [.inr (2, 0)]) rfl ?_
  refine zX.getf ⟨rfl, rfl⟩ H_2_0 rfl rfl ?_
  refine zX.sn 1 (pc2 := 5) (l2 := [(0, .inr (2, 0)), (1, .inl (.long x))]) (st2 := [.inr (2, 0), zi (z : Int)]) rfl ?_
  refine zX.getf ⟨rfl, rfl⟩ H_2_0 rfl rfl ?_
  refine zX.alen ⟨rfl, rfl⟩ H_3_N ?_
  refine zX.icmp (tgt := 44) ⟨rfl, rfl⟩ rfl (by omega) (by omega) (fun (e1 : (z : Int) < (N : Int)) => ?_) (fun (zz : (N : Int) ≤ (z : Int)) => absurd zz (by omega))
  refine zX.sn 1 (pc2 := 45) (l2 := [(0, .inr (2, 0)), (1, .inl (.long x))]) (st2 := [.inr (2, 0)]) rfl ?_
  refine zX.getf ⟨rfl, rfl⟩ H_2_0 rfl rfl ?_
  refine zX.icmp0 (tgt := 83) ⟨rfl, rfl⟩ rfl (by omega) (fun (zz : (z : Int) < 0) => absurd zz (by omega)) (fun (e2 : 0 ≤ (z : Int)) => ?_)
  refine zX.sn 1 (pc2 := 52) (l2 := [(0, .inr (2, 0)), (1, .inl (.long x))]) (st2 := [.inr (2, 0)]) rfl ?_
  refine zX.getf ⟨rfl, rfl⟩ H_2_0 rfl rfl ?_
  refine zX.sn 1 (pc2 := 56) (l2 := [(0, .inr (2, 0)), (1, .inl (.long x))]) (st2 := [.inr (2, 0), zi (z : Int)]) rfl ?_
  refine zX.getf ⟨rfl, rfl⟩ H_2_0 rfl rfl ?_
  refine zX.alen ⟨rfl, rfl⟩ H_3_N ?_
  refine zX.icmp (tgt := 83) ⟨rfl, rfl⟩ rfl (by omega) (by omega) (fun (zz : (N : Int) ≤ (z : Int)) => absurd zz (by omega)) (fun (e3 : (z : Int) < (N : Int)) => ?_)
  refine zX.sn 1 (pc2 := 64) (l2 := [(0, .inr (2, 0)), (1, .inl (.long x))]) (st2 := [.inr (2, 0)]) rfl ?_
  refine zX.getf ⟨rfl, rfl⟩ H_2_0 rfl rfl ?_
  refine zX.sn 1 (pc2 := 68) (l2 := [(0, .inr (2, 0)), (1, .inl (.long x))]) (st2 := [.inr (2, 0), .inr (3, N)]) rfl ?_
  refine zX.getf ⟨rfl, rfl⟩ H_2_0 rfl rfl ?_
  refine zX.sn 1 (pc2 := 72) (l2 := [(0, .inr (2, 0)), (1, .inl (.long x))]) (st2 := [.inl (.long x), zi (z : Int), .inr (3, N)]) rfl ?_
  refine zX.last (j := z) ⟨rfl, rfl⟩ H_3_N (by omega) rfl (by omega) (by omega) ?_
  show zX _ 11 73 [(0, .inr (2, 0)), (1, .inl (.long x))] [] c s (xup h (3, N) (.inr (1, N, zJ (zfi fo z x)))) _
  refine zX.sn 1 (pc2 := 74) (l2 := [(0, .inr (2, 0)), (1, .inl (.long x))]) (st2 := [.inr (2, 0)]) rfl ?_
  refine zX.sn 1 (pc2 := 75) (l2 := [(0, .inr (2, 0)), (1, .inl (.long x))]) (st2 := [.inr (2, 0), .inr (2, 0)]) rfl ?_
  refine zX.getf ⟨rfl, rfl⟩ (zup_n (zn (by omega)) H_2_0) rfl rfl ?_
  refine zX.sn 1 (pc2 := 79) (l2 := [(0, .inr (2, 0)), (1, .inl (.long x))]) (st2 := [zi 1, zi (z : Int), .inr (2, 0)]) rfl ?_
  refine zX.iadd ⟨rfl, rfl⟩ ?_
  refine zX.putf ⟨rfl, rfl⟩ (zup_n (zn (by omega)) H_2_0) rfl (by omega) rfl ?_
  show zX _ 11 83 [(0, .inr (2, 0)), (1, .inl (.long x))] [] c s (xup (xup h (3, N) (.inr (1, N, zJ (zfi fo z x)))) (2, 0) (.inl (3, [.inr (3, N), zi ((z : Int) + 1)]))) _
  refine zX.ret rfl rfl ?_
  exact k1 _ (zup_n (zn (by omega)) zup_s) zup_s (fun za zb hn => (zup_n (zn (by omega)) (zup_n (zn (by omega)) rfl)))

set_option maxHeartbeats 4000000 in
theorem r_oaddG {d c s : Nat} {h : xH} {Q : xR → Nat → Nat → xH → Prop} {N M : Nat} {fo : Nat → Int64} {x : Int64} (hN : N < 320000) (h64 : 64 ≤ N) (hM : (M : Int) = (if (320000 : Int) < (N : Int) * 2 then (320000 : Int) else (N : Int) * 2)) (hM2 : M ≤ 2 * N) (hNM : N < M) (hM3 : M ≤ 320000) (H_2_0 : h (2, 0) = some (.inl (3, [.inr (3, N), zi (N : Int)]))) (H_3_N : h (3, N) = some (.inr (1, N, zJ fo))) (F_3_M : h (3, M) = none)
    (k1 : ∀ h' : xH, h' (3, M) = some (.inr (1, M, zJ (zfi (fun j => if j < N then fo j else 0) N x))) → h' (2, 0) = some (.inl (3, [.inr (3, M), zi ((N : Int) + 1)])) → (∀ za zb : Nat, ¬ ((za = 3 ∧ zb = M) ∨ (za = 2 ∧ zb = 0)) → h' (za, zb) = h (za, zb)) → Q (.inl none) (c + 1) (s + M) h') :
    zX (d + 1) 11 0 [(0, .inr (2, 0)), (1, .inl (.long x))] [] c s h Q := by
  refine zX.sn 1 (pc2 := 1) (l2 := [(0, .inr (2, 0)), (1, .inl (.long x))]) (st2 := [.inr (2, 0)]) rfl ?_
  refine zX.getf ⟨rfl, rfl⟩ H_2_0 rfl rfl ?_
  refine zX.sn 1 (pc2 := 5) (l2 := [(0, .inr (2, 0)), (1, .inl (.long x))]) (st2 := [.inr (2, 0), zi (N : Int)]) rfl ?_
  refine zX.getf ⟨rfl, rfl⟩ H_2_0 rfl rfl ?_
  refine zX.alen ⟨rfl, rfl⟩ H_3_N ?_
  refine zX.icmp (tgt := 44) ⟨rfl, rfl⟩ rfl (by omega) (by omega) (fun (zz : (N : Int) < (N : Int)) => absurd zz (by omega)) (fun (e1 : (N : Int) ≤ (N : Int)) => ?_)
  refine zX.sn 1 (pc2 := 13) (l2 := [(0, .inr (2, 0)), (1, .inl (.long x))]) (st2 := [.inr (2, 0)]) rfl ?_
  refine zX.getf ⟨rfl, rfl⟩ H_2_0 rfl rfl ?_
  refine zX.s2 [] (pc2 := 18) (l2 := [(0, .inr (2, 0)), (1, .inl (.long x))]) (st2 := [zi 320000, zi (N : Int)]) ⟨rfl, rfl⟩ (fun _ => rfl) rfl (fun _ => rfl) ?_
  refine zX.icmp (tgt := 44) ⟨rfl, rfl⟩ rfl (by omega) (by omega) (fun (zz : 320000 ≤ (N : Int)) => absurd zz (by omega)) (fun (e2 : (N : Int) < 320000) => ?_)
  refine zX.sn 1 (pc2 := 22) (l2 := [(0, .inr (2, 0)), (1, .inl (.long x))]) (st2 := [.inr (2, 0)]) rfl ?_
  refine zX.sn 1 (pc2 := 23) (l2 := [(0, .inr (2, 0)), (1, .inl (.long x))]) (st2 := [.inr (2, 0), .inr (2, 0)]) rfl ?_
  refine zX.getf ⟨rfl, rfl⟩ H_2_0 rfl rfl ?_
  refine zX.sn 1 (pc2 := 27) (l2 := [(0, .inr (2, 0)), (1, .inl (.long x))]) (st2 := [.inr (2, 0), .inr (3, N), .inr (2, 0)]) rfl ?_
  refine zX.getf ⟨rfl, rfl⟩ H_2_0 rfl rfl ?_
  refine zX.alen ⟨rfl, rfl⟩ H_3_N ?_
  refine zX.sn 1 (pc2 := 32) (l2 := [(0, .inr (2, 0)), (1, .inl (.long x))]) (st2 := [zi 2, zi (N : Int), .inr (3, N), .inr (2, 0)]) rfl ?_
  refine zX.imul ⟨rfl, rfl⟩ ?_
  refine zX.s2 [] (pc2 := 35) (l2 := [(0, .inr (2, 0)), (1, .inl (.long x))]) (st2 := [zi 320000, zi ((N : Int) * 2), .inr (3, N), .inr (2, 0)]) ⟨rfl, rfl⟩ (fun _ => rfl) rfl (fun _ => rfl) ?_
  refine zX.mini ⟨rfl, rfl⟩ (by omega) (by omega) (Nat.le_of_ble_eq_true rfl) ?_
  rw [show (if 320000 < ((N : Int) * 2) then 320000 else ((N : Int) * 2)) = (M : Int) from (by omega)]
  refine zX.call (mid2 := 163) (as := [.inr (3, N), zi (M : Int)]) (rest := [.inr (2, 0)]) ⟨rfl, rfl⟩ (fun _ => rfl) rfl ⟨Nat.le_of_ble_eq_true rfl, Nat.le_of_ble_eq_true rfl⟩ ?_
  show zX _ 163 0 [(0, .inr (3, N)), (1, zi (M : Int))] [] c s _ _
  refine zX.sn 1 (pc2 := 1) (l2 := [(0, .inr (3, N)), (1, zi (M : Int))]) (st2 := [zi (M : Int)]) rfl ?_
  refine zX.sn 1 (pc2 := 2) (l2 := [(0, .inr (3, N)), (1, zi (M : Int))]) (st2 := [.inr (3, N), zi (M : Int)]) rfl ?_
  refine zX.alen ⟨rfl, rfl⟩ H_3_N ?_
  refine zX.icmp (tgt := 14) ⟨rfl, rfl⟩ rfl (by omega) (by omega) (fun (e3 : ¬ (M : Int) = (N : Int)) => ?_) (fun (zz : (M : Int) = (N : Int)) => absurd zz (by omega))
  refine zX.sn 1 (pc2 := 15) (l2 := [(0, .inr (3, N)), (1, zi (M : Int))]) (st2 := [zi (M : Int)]) rfl ?_
  refine zX.newa (n := M) (3, M) ⟨rfl, rfl⟩ F_3_M (by omega) rfl (by omega) ?_
  show zX _ 163 17 [(0, .inr (3, N)), (1, zi (M : Int))] [.inr (3, M)] (c + 1) (s + M) (xup h (3, M) (.inr (1, M, zJ (fun _ => 0)))) _
  refine zX.sn 1 (pc2 := 18) (l2 := [(2, .inr (3, M)), (0, .inr (3, N)), (1, zi (M : Int))]) (st2 := []) rfl ?_
  refine zX.sn 1 (pc2 := 19) (l2 := [(2, .inr (3, M)), (0, .inr (3, N)), (1, zi (M : Int))]) (st2 := [.inr (3, N)]) rfl ?_
  refine zX.sn 1 (pc2 := 20) (l2 := [(2, .inr (3, M)), (0, .inr (3, N)), (1, zi (M : Int))]) (st2 := [zi 0, .inr (3, N)]) rfl ?_
  refine zX.sn 1 (pc2 := 21) (l2 := [(2, .inr (3, M)), (0, .inr (3, N)), (1, zi (M : Int))]) (st2 := [.inr (3, M), zi 0, .inr (3, N)]) rfl ?_
  refine zX.sn 1 (pc2 := 22) (l2 := [(2, .inr (3, M)), (0, .inr (3, N)), (1, zi (M : Int))]) (st2 := [zi 0, .inr (3, M), zi 0, .inr (3, N)]) rfl ?_
  refine zX.sn 1 (pc2 := 23) (l2 := [(2, .inr (3, M)), (0, .inr (3, N)), (1, zi (M : Int))]) (st2 := [.inr (3, N), zi 0, .inr (3, M), zi 0, .inr (3, N)]) rfl ?_
  refine zX.alen ⟨rfl, rfl⟩ (zup_n (zn (by omega)) H_3_N) ?_
  refine zX.sn 1 (pc2 := 25) (l2 := [(2, .inr (3, M)), (0, .inr (3, N)), (1, zi (M : Int))]) (st2 := [zi (M : Int), zi (N : Int), zi 0, .inr (3, M), zi 0, .inr (3, N)]) rfl ?_
  refine zX.mini ⟨rfl, rfl⟩ (by omega) (by omega) (Nat.le_of_ble_eq_true rfl) ?_
  rw [if_neg (by omega)]
  refine zX.acp (n := N) (dp := 0) (sp := 0) ⟨rfl, rfl⟩ (zup_n (zn (by omega)) H_3_N) zup_s (by decide) (by omega) rfl (by omega) (by omega) (by omega) (by omega) (List.all_eq_true.mpr (fun _ _ => rfl)) (Nat.le_of_ble_eq_true rfl) ?_
  rw [zcpJ]
  show zX _ 163 31 [(2, .inr (3, M)), (0, .inr (3, N)), (1, zi (M : Int))] [] (c + 1) (s + M) (xup (xup h (3, M) (.inr (1, M, zJ (fun _ => 0)))) (3, M) (.inr (1, M, zJ (fun j => if j < N then fo j else 0)))) _
  refine zX.sn 1 (pc2 := 32) (l2 := [(2, .inr (3, M)), (0, .inr (3, N)), (1, zi (M : Int))]) (st2 := [.inr (3, M)]) rfl ?_
  refine zX.ret rfl rfl ?_
  show zX _ 11 41 [(0, .inr (2, 0)), (1, .inl (.long x))] [.inr (3, M), .inr (2, 0)] (c + 1) (s + M) _ _
  refine zX.putf ⟨rfl, rfl⟩ (zup_n (zn (by omega)) (zup_n (zn (by omega)) H_2_0)) rfl (by omega) rfl ?_
  show zX _ 11 44 [(0, .inr (2, 0)), (1, .inl (.long x))] [] (c + 1) (s + M) (xup (xup (xup h (3, M) (.inr (1, M, zJ (fun _ => 0)))) (3, M) (.inr (1, M, zJ (fun j => if j < N then fo j else 0)))) (2, 0) (.inl (3, [.inr (3, M), zi (N : Int)]))) _
  refine zX.sn 1 (pc2 := 45) (l2 := [(0, .inr (2, 0)), (1, .inl (.long x))]) (st2 := [.inr (2, 0)]) rfl ?_
  refine zX.getf ⟨rfl, rfl⟩ zup_s rfl rfl ?_
  refine zX.icmp0 (tgt := 83) ⟨rfl, rfl⟩ rfl (by omega) (fun (zz : (N : Int) < 0) => absurd zz (by omega)) (fun (e4 : 0 ≤ (N : Int)) => ?_)
  refine zX.sn 1 (pc2 := 52) (l2 := [(0, .inr (2, 0)), (1, .inl (.long x))]) (st2 := [.inr (2, 0)]) rfl ?_
  refine zX.getf ⟨rfl, rfl⟩ zup_s rfl rfl ?_
  refine zX.sn 1 (pc2 := 56) (l2 := [(0, .inr (2, 0)), (1, .inl (.long x))]) (st2 := [.inr (2, 0), zi (N : Int)]) rfl ?_
  refine zX.getf ⟨rfl, rfl⟩ zup_s rfl rfl ?_
  refine zX.alen ⟨rfl, rfl⟩ (zup_n (zn (by omega)) zup_s) ?_
  refine zX.icmp (tgt := 83) ⟨rfl, rfl⟩ rfl (by omega) (by omega) (fun (zz : (M : Int) ≤ (N : Int)) => absurd zz (by omega)) (fun (e5 : (N : Int) < (M : Int)) => ?_)
  refine zX.sn 1 (pc2 := 64) (l2 := [(0, .inr (2, 0)), (1, .inl (.long x))]) (st2 := [.inr (2, 0)]) rfl ?_
  refine zX.getf ⟨rfl, rfl⟩ zup_s rfl rfl ?_
  refine zX.sn 1 (pc2 := 68) (l2 := [(0, .inr (2, 0)), (1, .inl (.long x))]) (st2 := [.inr (2, 0), .inr (3, M)]) rfl ?_
  refine zX.getf ⟨rfl, rfl⟩ zup_s rfl rfl ?_
  refine zX.sn 1 (pc2 := 72) (l2 := [(0, .inr (2, 0)), (1, .inl (.long x))]) (st2 := [.inl (.long x), zi (N : Int), .inr (3, M)]) rfl ?_
  refine zX.last (j := N) ⟨rfl, rfl⟩ (zup_n (zn (by omega)) zup_s) (by omega) rfl (by omega) (by omega) ?_
  show zX _ 11 73 [(0, .inr (2, 0)), (1, .inl (.long x))] [] (c + 1) (s + M) (xup (xup (xup (xup h (3, M) (.inr (1, M, zJ (fun _ => 0)))) (3, M) (.inr (1, M, zJ (fun j => if j < N then fo j else 0)))) (2, 0) (.inl (3, [.inr (3, M), zi (N : Int)]))) (3, M) (.inr (1, M, zJ (zfi (fun j => if j < N then fo j else 0) N x)))) _
  refine zX.sn 1 (pc2 := 74) (l2 := [(0, .inr (2, 0)), (1, .inl (.long x))]) (st2 := [.inr (2, 0)]) rfl ?_
  refine zX.sn 1 (pc2 := 75) (l2 := [(0, .inr (2, 0)), (1, .inl (.long x))]) (st2 := [.inr (2, 0), .inr (2, 0)]) rfl ?_
  refine zX.getf ⟨rfl, rfl⟩ (zup_n (zn (by omega)) zup_s) rfl rfl ?_
  refine zX.sn 1 (pc2 := 79) (l2 := [(0, .inr (2, 0)), (1, .inl (.long x))]) (st2 := [zi 1, zi (N : Int), .inr (2, 0)]) rfl ?_
  refine zX.iadd ⟨rfl, rfl⟩ ?_
  refine zX.putf ⟨rfl, rfl⟩ (zup_n (zn (by omega)) zup_s) rfl (by omega) rfl ?_
  show zX _ 11 83 [(0, .inr (2, 0)), (1, .inl (.long x))] [] (c + 1) (s + M) (xup (xup (xup (xup (xup h (3, M) (.inr (1, M, zJ (fun _ => 0)))) (3, M) (.inr (1, M, zJ (fun j => if j < N then fo j else 0)))) (2, 0) (.inl (3, [.inr (3, M), zi (N : Int)]))) (3, M) (.inr (1, M, zJ (zfi (fun j => if j < N then fo j else 0) N x)))) (2, 0) (.inl (3, [.inr (3, M), zi ((N : Int) + 1)]))) _
  refine zX.ret rfl rfl ?_
  exact k1 _ (zup_n (zn (by omega)) zup_s) zup_s (fun za zb hn => (zup_n (zn (by omega)) (zup_n (zn (by omega)) (zup_n (zn (by omega)) (zup_n (zn (by omega)) (zup_n (zn (by omega)) rfl))))))

end ZR48
