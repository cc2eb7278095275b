set_option maxRecDepth 100000
section ZR43
set_option maxHeartbeats 4000000 in
theorem r_at {d c s : Nat} {h : xH} {Q : xR → Nat → Nat → xH → Prop} {ro i L k : Nat} {fa : Nat → Int64} (h0 : 0 < ro) (hL : L ≤ 67108864) (hk : k < L) (H_ro_i : h (ro, i) = some (.inl (5, [.inr (ro + 1, i), zi (zcnt fa L : Int)]))) (H_ro_1_i : h (ro + 1, i) = some (.inr (1, L, zJ fa)))
    (k1 : Q (.inl (some (.inl (.long (fa k))))) c s h) :
    zX d 23 0 [(0, .inr (ro, i)), (1, zi (k : Int))] [] c s h Q := by
  refine zX.sn 1 (pc2 := 1) (l2 := [(0, .inr (ro, i)), (1, zi (k : Int))]) (st2 := [zi (k : Int)]) rfl ?_
  refine zX.icmp0 (tgt := 22) ⟨rfl, rfl⟩ rfl (by omega) (fun (zz : (k : Int) < 0) => absurd zz (by omega)) (fun (e1 : 0 ≤ (k : Int)) => ?_)
  refine zX.sn 1 (pc2 := 5) (l2 := [(0, .inr (ro, i)), (1, zi (k : Int))]) (st2 := [zi (k : Int)]) rfl ?_
  refine zX.sn 1 (pc2 := 6) (l2 := [(0, .inr (ro, i)), (1, zi (k : Int))]) (st2 := [.inr (ro, i), zi (k : Int)]) rfl ?_
  refine zX.getf ⟨rfl, rfl⟩ H_ro_i rfl rfl ?_
  refine zX.alen ⟨rfl, rfl⟩ H_ro_1_i ?_
  refine zX.icmp (tgt := 22) ⟨rfl, rfl⟩ rfl (by omega) (by omega) (fun (zz : (L : Int) ≤ (k : Int)) => absurd zz (by omega)) (fun (e2 : (k : Int) < (L : Int)) => ?_)
  refine zX.sn 1 (pc2 := 14) (l2 := [(0, .inr (ro, i)), (1, zi (k : Int))]) (st2 := [.inr (ro, i)]) rfl ?_
  refine zX.getf ⟨rfl, rfl⟩ H_ro_i rfl rfl ?_
  refine zX.sn 1 (pc2 := 18) (l2 := [(0, .inr (ro, i)), (1, zi (k : Int))]) (st2 := [zi (k : Int), .inr (ro + 1, i)]) rfl ?_
  refine zX.lald (j := k) ⟨rfl, rfl⟩ H_ro_1_i rfl (by omega) (by omega) ?_
  show zX _ 23 19 [(0, .inr (ro, i)), (1, zi (k : Int))] [.inl (.long (fa k))] c s _ _
  refine zX.sn 1 (pc2 := 23) (l2 := [(0, .inr (ro, i)), (1, zi (k : Int))]) (st2 := [.inl (.long (fa k))]) rfl ?_
  refine zX.ret rfl rfl ?_
  exact k1

set_option maxHeartbeats 4000000 in
theorem r_put {d c s : Nat} {h : xH} {Q : xR → Nat → Nat → xH → Prop} {ro i L k : Nat} {fa : Nat → Int64} {y : Int64} (h0 : 0 < ro) (hL : L ≤ 67108864) (hk : k < L) (hz : zcnt fa L ≤ L) (H_ro_i : h (ro, i) = some (.inl (5, [.inr (ro + 1, i), zi (zcnt fa L : Int)]))) (H_ro_1_i : h (ro + 1, i) = some (.inr (1, L, zJ fa)))
    (k1 : (¬ (fa k) = 0) → ∀ h' : xH, h' (ro, i) = some (.inl (5, [.inr (ro + 1, i), zi ((zcnt fa L : Int) + 0)])) → h' (ro + 1, i) = some (.inr (1, L, zJ (zfi fa k y))) → (∀ za zb : Nat, ¬ ((za = ro ∧ zb = i) ∨ (za = ro + 1 ∧ zb = i)) → h' (za, zb) = h (za, zb)) → Q (.inl none) c s h')
    (k2 : ((fa k) = 0) → ∀ h' : xH, h' (ro, i) = some (.inl (5, [.inr (ro + 1, i), zi ((zcnt fa L : Int) + 1)])) → h' (ro + 1, i) = some (.inr (1, L, zJ (zfi fa k y))) → (∀ za zb : Nat, ¬ ((za = ro ∧ zb = i) ∨ (za = ro + 1 ∧ zb = i)) → h' (za, zb) = h (za, zb)) → Q (.inl none) c s h') :
    zX d 24 0 [(0, .inr (ro, i)), (1, zi (k : Int)), (2, .inl (.long y))] [] c s h Q := by
  refine zX.sn 1 (pc2 := 1) (l2 := [(0, .inr (ro, i)), (1, zi (k : Int)), (2, .inl (.long y))]) (st2 := [zi (k : Int)]) rfl ?_
  refine zX.icmp0 (tgt := 45) ⟨rfl, rfl⟩ rfl (by omega) (fun (zz : (k : Int) < 0) => absurd zz (by omega)) (fun (e1 : 0 ≤ (k : Int)) => ?_)
  refine zX.sn 1 (pc2 := 5) (l2 := [(0, .inr (ro, i)), (1, zi (k : Int)), (2, .inl (.long y))]) (st2 := [zi (k : Int)]) rfl ?_
  refine zX.sn 1 (pc2 := 6) (l2 := [(0, .inr (ro, i)), (1, zi (k : Int)), (2, .inl (.long y))]) (st2 := [.inr (ro, i), zi (k : Int)]) rfl ?_
  refine zX.getf ⟨rfl, rfl⟩ H_ro_i rfl rfl ?_
  refine zX.alen ⟨rfl, rfl⟩ H_ro_1_i ?_
  refine zX.icmp (tgt := 45) ⟨rfl, rfl⟩ rfl (by omega) (by omega) (fun (zz : (L : Int) ≤ (k : Int)) => absurd zz (by omega)) (fun (e2 : (k : Int) < (L : Int)) => ?_)
  refine zX.sn 1 (pc2 := 14) (l2 := [(0, .inr (ro, i)), (1, zi (k : Int)), (2, .inl (.long y))]) (st2 := [.inr (ro, i)]) rfl ?_
  refine zX.sn 1 (pc2 := 15) (l2 := [(0, .inr (ro, i)), (1, zi (k : Int)), (2, .inl (.long y))]) (st2 := [.inr (ro, i), .inr (ro, i)]) rfl ?_
  refine zX.getf ⟨rfl, rfl⟩ H_ro_i rfl rfl ?_
  refine zX.sn 1 (pc2 := 19) (l2 := [(0, .inr (ro, i)), (1, zi (k : Int)), (2, .inl (.long y))]) (st2 := [.inr (ro, i), zi (zcnt fa L : Int), .inr (ro, i)]) rfl ?_
  refine zX.getf ⟨rfl, rfl⟩ H_ro_i rfl rfl ?_
  refine zX.sn 1 (pc2 := 23) (l2 := [(0, .inr (ro, i)), (1, zi (k : Int)), (2, .inl (.long y))]) (st2 := [zi (k : Int), .inr (ro + 1, i), zi (zcnt fa L : Int), .inr (ro, i)]) rfl ?_
  refine zX.lald (j := k) ⟨rfl, rfl⟩ H_ro_1_i rfl (by omega) (by omega) ?_
  show zX _ 24 24 [(0, .inr (ro, i)), (1, zi (k : Int)), (2, .inl (.long y))] [.inl (.long (fa k)), zi (zcnt fa L : Int), .inr (ro, i)] c s _ _
  refine zX.sn 1 (pc2 := 25) (l2 := [(0, .inr (ro, i)), (1, zi (k : Int)), (2, .inl (.long y))]) (st2 := [.inl (.long 0), .inl (.long (fa k)), zi (zcnt fa L : Int), .inr (ro, i)]) rfl ?_
  refine zX.sn 1 (pc2 := 26) (l2 := [(0, .inr (ro, i)), (1, zi (k : Int)), (2, .inl (.long y))]) (st2 := [.inl (.int (lg_cmp (fa k) 0)), zi (zcnt fa L : Int), .inr (ro, i)]) rfl ?_
  refine zX.lne (tgt := 33) ⟨rfl, rfl⟩ rfl (fun (e3 : ¬ (fa k) = 0) => ?_) (fun (e3 : (fa k) = 0) => ?_)
  · refine zX.sn 1 (pc2 := 34) (l2 := [(0, .inr (ro, i)), (1, zi (k : Int)), (2, .inl (.long y))]) (st2 := [zi 0, zi (zcnt fa L : Int), .inr (ro, i)]) rfl ?_
    refine zX.iadd ⟨rfl, rfl⟩ ?_
    refine zX.putf ⟨rfl, rfl⟩ H_ro_i rfl (by omega) rfl ?_
    show zX _ 24 38 [(0, .inr (ro, i)), (1, zi (k : Int)), (2, .inl (.long y))] [] c s (xup h (ro, i) (.inl (5, [.inr (ro + 1, i), zi ((zcnt fa L : Int) + 0)]))) _
    refine zX.sn 1 (pc2 := 39) (l2 := [(0, .inr (ro, i)), (1, zi (k : Int)), (2, .inl (.long y))]) (st2 := [.inr (ro, i)]) rfl ?_
    refine zX.getf ⟨rfl, rfl⟩ zup_s rfl rfl ?_
    refine zX.sn 1 (pc2 := 43) (l2 := [(0, .inr (ro, i)), (1, zi (k : Int)), (2, .inl (.long y))]) (st2 := [zi (k : Int), .inr (ro + 1, i)]) rfl ?_
    refine zX.sn 1 (pc2 := 44) (l2 := [(0, .inr (ro, i)), (1, zi (k : Int)), (2, .inl (.long y))]) (st2 := [.inl (.long y), zi (k : Int), .inr (ro + 1, i)]) rfl ?_
    refine zX.last (j := k) ⟨rfl, rfl⟩ (zup_n (zn (by omega)) H_ro_1_i) (by omega) rfl (by omega) (by omega) ?_
    show zX _ 24 45 [(0, .inr (ro, i)), (1, zi (k : Int)), (2, .inl (.long y))] [] c s (xup (xup h (ro, i) (.inl (5, [.inr (ro + 1, i), zi ((zcnt fa L : Int) + 0)]))) (ro + 1, i) (.inr (1, L, zJ (zfi fa k y)))) _
    refine zX.ret rfl rfl ?_
    exact k1 e3 _ (zup_n (zn (by omega)) zup_s) zup_s (fun za zb hn => (zup_n (zn (by omega)) (zup_n (zn (by omega)) rfl)))
  · refine zX.sn 1 (pc2 := 30) (l2 := [(0, .inr (ro, i)), (1, zi (k : Int)), (2, .inl (.long y))]) (st2 := [zi 1, zi (zcnt fa L : Int), .inr (ro, i)]) rfl ?_
    refine zX.sn 1 (pc2 := 34) (l2 := [(0, .inr (ro, i)), (1, zi (k : Int)), (2, .inl (.long y))]) (st2 := [zi 1, zi (zcnt fa L : Int), .inr (ro, i)]) rfl ?_
    refine zX.iadd ⟨rfl, rfl⟩ ?_
    refine zX.putf ⟨rfl, rfl⟩ H_ro_i rfl (by omega) rfl ?_
    show zX _ 24 38 [(0, .inr (ro, i)), (1, zi (k : Int)), (2, .inl (.long y))] [] c s (xup h (ro, i) (.inl (5, [.inr (ro + 1, i), zi ((zcnt fa L : Int) + 1)]))) _
    refine zX.sn 1 (pc2 := 39) (l2 := [(0, .inr (ro, i)), (1, zi (k : Int)), (2, .inl (.long y))]) (st2 := [.inr (ro, i)]) rfl ?_
    refine zX.getf ⟨rfl, rfl⟩ zup_s rfl rfl ?_
    refine zX.sn 1 (pc2 := 43) (l2 := [(0, .inr (ro, i)), (1, zi (k : Int)), (2, .inl (.long y))]) (st2 := [zi (k : Int), .inr (ro + 1, i)]) rfl ?_
    refine zX.sn 1 (pc2 := 44) (l2 := [(0, .inr (ro, i)), (1, zi (k : Int)), (2, .inl (.long y))]) (st2 := [.inl (.long y), zi (k : Int), .inr (ro + 1, i)]) rfl ?_
    refine zX.last (j := k) ⟨rfl, rfl⟩ (zup_n (zn (by omega)) H_ro_1_i) (by omega) rfl (by omega) (by omega) ?_
    show zX _ 24 45 [(0, .inr (ro, i)), (1, zi (k : Int)), (2, .inl (.long y))] [] c s (xup (xup h (ro, i) (.inl (5, [.inr (ro + 1, i), zi ((zcnt fa L : Int) + 1)]))) (ro + 1, i) (.inr (1, L, zJ (zfi fa k y)))) _
    refine zX.ret rfl rfl ?_
    exact k2 e3 _ (zup_n (zn (by omega)) zup_s) zup_s (fun za zb hn => (zup_n (zn (by omega)) (zup_n (zn (by omega)) rfl)))

set_option maxHeartbeats 4000000 in
theorem r_clr {d c s : Nat} {h : xH} {Q : xR → Nat → Nat → xH → Prop} {ro i L k : Nat} {fa : Nat → Int64} (h0 : 0 < ro) (hL : L ≤ 67108864) (hk : k < L) (hz : zcnt fa L ≤ L) (H_ro_i : h (ro, i) = some (.inl (5, [.inr (ro + 1, i), zi (zcnt fa L : Int)]))) (H_ro_1_i : h (ro + 1, i) = some (.inr (1, L, zJ fa)))
    (k1 : (¬ (fa k) = 0) → ∀ h' : xH, h' (ro, i) = some (.inl (5, [.inr (ro + 1, i), zi ((zcnt fa L : Int) - 1)])) → h' (ro + 1, i) = some (.inr (1, L, zJ (zfi fa k 0))) → (∀ za zb : Nat, ¬ ((za = ro ∧ zb = i) ∨ (za = ro + 1 ∧ zb = i)) → h' (za, zb) = h (za, zb)) → Q (.inl none) c s h')
    (k2 : ((fa k) = 0) → ∀ h' : xH, h' (ro, i) = some (.inl (5, [.inr (ro + 1, i), zi ((zcnt fa L : Int) - 0)])) → h' (ro + 1, i) = some (.inr (1, L, zJ (zfi fa k 0))) → (∀ za zb : Nat, ¬ ((za = ro ∧ zb = i) ∨ (za = ro + 1 ∧ zb = i)) → h' (za, zb) = h (za, zb)) → Q (.inl none) c s h') :
    zX d 25 0 [(0, .inr (ro, i)), (1, zi (k : Int))] [] c s h Q := by
  refine zX.sn 1 (pc2 := 1) (l2 := [(0, .inr (ro, i)), (1, zi (k : Int))]) (st2 := [zi (k : Int)]) rfl ?_
  refine zX.icmp0 (tgt := 45) ⟨rfl, rfl⟩ rfl (by omega) (fun (zz : (k : Int) < 0) => absurd zz (by omega)) (fun (e1 : 0 ≤ (k : Int)) => ?_)
  refine zX.sn 1 (pc2 := 5) (l2 := [(0, .inr (ro, i)), (1, zi (k : Int))]) (st2 := [zi (k : Int)]) rfl ?_
  refine zX.sn 1 (pc2 := 6) (l2 := [(0, .inr (ro, i)), (1, zi (k : Int))]) (st2 := [.inr (ro, i), zi (k : Int)]) rfl ?_
  refine zX.getf ⟨rfl, rfl⟩ H_ro_i rfl rfl ?_
  refine zX.alen ⟨rfl, rfl⟩ H_ro_1_i ?_
  refine zX.icmp (tgt := 45) ⟨rfl, rfl⟩ rfl (by omega) (by omega) (fun (zz : (L : Int) ≤ (k : Int)) => absurd zz (by omega)) (fun (e2 : (k : Int) < (L : Int)) => ?_)
  refine zX.sn 1 (pc2 := 14) (l2 := [(0, .inr (ro, i)), (1, zi (k : Int))]) (st2 := [.inr (ro, i)]) rfl ?_
  refine zX.sn 1 (pc2 := 15) (l2 := [(0, .inr (ro, i)), (1, zi (k : Int))]) (st2 := [.inr (ro, i), .inr (ro, i)]) rfl ?_
  refine zX.getf ⟨rfl, rfl⟩ H_ro_i rfl rfl ?_
  refine zX.sn 1 (pc2 := 19) (l2 := [(0, .inr (ro, i)), (1, zi (k : Int))]) (st2 := [.inr (ro, i), zi (zcnt fa L : Int), .inr (ro, i)]) rfl ?_
  refine zX.getf ⟨rfl, rfl⟩ H_ro_i rfl rfl ?_
  refine zX.sn 1 (pc2 := 23) (l2 := [(0, .inr (ro, i)), (1, zi (k : Int))]) (st2 := [zi (k : Int), .inr (ro + 1, i), zi (zcnt fa L : Int), .inr (ro, i)]) rfl ?_
  refine zX.lald (j := k) ⟨rfl, rfl⟩ H_ro_1_i rfl (by omega) (by omega) ?_
  show zX _ 25 24 [(0, .inr (ro, i)), (1, zi (k : Int))] [.inl (.long (fa k)), zi (zcnt fa L : Int), .inr (ro, i)] c s _ _
  refine zX.sn 1 (pc2 := 25) (l2 := [(0, .inr (ro, i)), (1, zi (k : Int))]) (st2 := [.inl (.long 0), .inl (.long (fa k)), zi (zcnt fa L : Int), .inr (ro, i)]) rfl ?_
  refine zX.sn 1 (pc2 := 26) (l2 := [(0, .inr (ro, i)), (1, zi (k : Int))]) (st2 := [.inl (.int (lg_cmp (fa k) 0)), zi (zcnt fa L : Int), .inr (ro, i)]) rfl ?_
  refine zX.lne (tgt := 33) ⟨rfl, rfl⟩ rfl (fun (e3 : ¬ (fa k) = 0) => ?_) (fun (e3 : (fa k) = 0) => ?_)
  · refine zX.sn 1 (pc2 := 34) (l2 := [(0, .inr (ro, i)), (1, zi (k : Int))]) (st2 := [zi 1, zi (zcnt fa L : Int), .inr (ro, i)]) rfl ?_
    refine zX.isub ⟨rfl, rfl⟩ ?_
    refine zX.putf ⟨rfl, rfl⟩ H_ro_i rfl (by omega) rfl ?_
    show zX _ 25 38 [(0, .inr (ro, i)), (1, zi (k : Int))] [] c s (xup h (ro, i) (.inl (5, [.inr (ro + 1, i), zi ((zcnt fa L : Int) - 1)]))) _
    refine zX.sn 1 (pc2 := 39) (l2 := [(0, .inr (ro, i)), (1, zi (k : Int))]) (st2 := [.inr (ro, i)]) rfl ?_
    refine zX.getf ⟨rfl, rfl⟩ zup_s rfl rfl ?_
    refine zX.sn 1 (pc2 := 43) (l2 := [(0, .inr (ro, i)), (1, zi (k : Int))]) (st2 := [zi (k : Int), .inr (ro + 1, i)]) rfl ?_
    refine zX.sn 1 (pc2 := 44) (l2 := [(0, .inr (ro, i)), (1, zi (k : Int))]) (st2 := [.inl (.long 0), zi (k : Int), .inr (ro + 1, i)]) rfl ?_
    refine zX.last (j := k) ⟨rfl, rfl⟩ (zup_n (zn (by omega)) H_ro_1_i) (by omega) rfl (by omega) (by omega) ?_
    show zX _ 25 45 [(0, .inr (ro, i)), (1, zi (k : Int))] [] c s (xup (xup h (ro, i) (.inl (5, [.inr (ro + 1, i), zi ((zcnt fa L : Int) - 1)]))) (ro + 1, i) (.inr (1, L, zJ (zfi fa k 0)))) _
    refine zX.ret rfl rfl ?_
    exact k1 e3 _ (zup_n (zn (by omega)) zup_s) zup_s (fun za zb hn => (zup_n (zn (by omega)) (zup_n (zn (by omega)) rfl)))
  · refine zX.sn 1 (pc2 := 30) (l2 := [(0, .inr (ro, i)), (1, zi (k : Int))]) (st2 := [zi 0, zi (zcnt fa L : Int), .inr (ro, i)]) rfl ?_
    refine zX.sn 1 (pc2 := 34) (l2 := [(0, .inr (ro, i)), (1, zi (k : Int))]) (st2 := [zi 0, zi (zcnt fa L : Int), .inr (ro, i)]) rfl ?_
    refine zX.isub ⟨rfl, rfl⟩ ?_
    refine zX.putf ⟨rfl, rfl⟩ H_ro_i rfl (by omega) rfl ?_
    show zX _ 25 38 [(0, .inr (ro, i)), (1, zi (k : Int))] [] c s (xup h (ro, i) (.inl (5, [.inr (ro + 1, i), zi ((zcnt fa L : Int) - 0)]))) _
    refine zX.sn 1 (pc2 := 39) (l2 := [(0, .inr (ro, i)), (1, zi (k : Int))]) (st2 := [.inr (ro, i)]) rfl ?_
    refine zX.getf ⟨rfl, rfl⟩ zup_s rfl rfl ?_
    refine zX.sn 1 (pc2 := 43) (l2 := [(0, .inr (ro, i)), (1, zi (k : Int))]) (st2 := [zi (k : Int), .inr (ro + 1, i)]) rfl ?_
    refine zX.sn 1 (pc2 := 44) (l2 := [(0, .inr (ro, i)), (1, zi (k : Int))]) (st2 := [.inl (.long 0), zi (k : Int), .inr (ro + 1, i)]) rfl ?_
    refine zX.last (j := k) ⟨rfl, rfl⟩ (zup_n (zn (by omega)) H_ro_1_i) (by omega) rfl (by omega) (by omega) ?_
    show zX _ 25 45 [(0, .inr (ro, i)), (1, zi (k : Int))] [] c s (xup (xup h (ro, i) (.inl (5, [.inr (ro + 1, i), zi ((zcnt fa L : Int) - 0)]))) (ro + 1, i) (.inr (1, L, zJ (zfi fa k 0)))) _
    refine zX.ret rfl rfl ?_
    exact k2 e3 _ (zup_n (zn (by omega)) zup_s) zup_s (fun za zb hn => (zup_n (zn (by omega)) (zup_n (zn (by omega)) rfl)))

set_option maxHeartbeats 4000000 in
theorem r_has {d c s : Nat} {h : xH} {Q : xR → Nat → Nat → xH → Prop} {ro i L k : Nat} {fn fs fg : Nat → Int32} (h0 : 0 < ro) (hL : L ≤ 67108864) (hk : k < L) (H_ro_i : h (ro, i) = some (.inl (7, [.inr (ro + 1, i), .inr (ro + 2, i), .inr (ro + 3, i)]))) (H_ro_1_i : h (ro + 1, i) = some (.inr (0, L, zI fn))) (H_ro_2_i : h (ro + 2, i) = some (.inr (0, L, zI fs))) (H_ro_3_i : h (ro + 3, i) = some (.inr (0, L, zI fg)))
    (k1 : (¬ 0 < (fn k)) → Q (.inl (some (zi 0))) c s h)
    (k2 : (0 < (fn k)) → Q (.inl (some (zi 1))) c s h) :
    zX (d + 1) 53 0 [(0, .inr (ro, i)), (1, zi (k : Int))] [] c s h Q := by
  refine zX.sn 1 (pc2 := 1) (l2 := [(0, .inr (ro, i)), (1, zi (k : Int))]) (st2 := [.inr (ro, i)]) rfl ?_
  refine zX.sn 1 (pc2 := 2) (l2 := [(0, .inr (ro, i)), (1, zi (k : Int))]) (st2 := [zi (k : Int), .inr (ro, i)]) rfl ?_
  refine zX.call (mid2 := 52) (as := [.inr (ro, i), zi (k : Int)]) (rest := []) ⟨rfl, rfl⟩ (fun _ => rfl) (zX.inv rfl H_ro_i rfl rfl) ⟨Nat.le_of_ble_eq_true rfl, Nat.le_of_ble_eq_true rfl⟩ ?_
  show zX _ 52 0 [(0, .inr (ro, i)), (1, zi (k : Int))] [] c s _ _
  refine zX.sn 1 (pc2 := 1) (l2 := [(0, .inr (ro, i)), (1, zi (k : Int))]) (st2 := [zi (k : Int)]) rfl ?_
  refine zX.icmp0 (tgt := 35) ⟨rfl, rfl⟩ rfl (by omega) (fun (zz : (k : Int) < 0) => absurd zz (by omega)) (fun (e1 : 0 ≤ (k : Int)) => ?_)
  refine zX.sn 1 (pc2 := 5) (l2 := [(0, .inr (ro, i)), (1, zi (k : Int))]) (st2 := [zi (k : Int)]) rfl ?_
  refine zX.sn 1 (pc2 := 6) (l2 := [(0, .inr (ro, i)), (1, zi (k : Int))]) (st2 := [.inr (ro, i), zi (k : Int)]) rfl ?_
  refine zX.getf ⟨rfl, rfl⟩ H_ro_i rfl rfl ?_
  refine zX.alen ⟨rfl, rfl⟩ H_ro_1_i ?_
  refine zX.icmp (tgt := 35) ⟨rfl, rfl⟩ rfl (by omega) (by omega) (fun (zz : (L : Int) ≤ (k : Int)) => absurd zz (by omega)) (fun (e2 : (k : Int) < (L : Int)) => ?_)
  refine zX.sn 1 (pc2 := 14) (l2 := [(0, .inr (ro, i)), (1, zi (k : Int))]) (st2 := [zi (k : Int)]) rfl ?_
  refine zX.sn 1 (pc2 := 15) (l2 := [(0, .inr (ro, i)), (1, zi (k : Int))]) (st2 := [.inr (ro, i), zi (k : Int)]) rfl ?_
  refine zX.getf ⟨rfl, rfl⟩ H_ro_i rfl rfl ?_
  refine zX.alen ⟨rfl, rfl⟩ H_ro_2_i ?_
  refine zX.icmp (tgt := 35) ⟨rfl, rfl⟩ rfl (by omega) (by omega) (fun (zz : (L : Int) ≤ (k : Int)) => absurd zz (by omega)) (fun (e3 : (k : Int) < (L : Int)) => ?_)
  refine zX.sn 1 (pc2 := 23) (l2 := [(0, .inr (ro, i)), (1, zi (k : Int))]) (st2 := [zi (k : Int)]) rfl ?_
  refine zX.sn 1 (pc2 := 24) (l2 := [(0, .inr (ro, i)), (1, zi (k : Int))]) (st2 := [.inr (ro, i), zi (k : Int)]) rfl ?_
  refine zX.getf ⟨rfl, rfl⟩ H_ro_i rfl rfl ?_
  refine zX.alen ⟨rfl, rfl⟩ H_ro_3_i ?_
  refine zX.icmp (tgt := 35) ⟨rfl, rfl⟩ rfl (by omega) (by omega) (fun (zz : (L : Int) ≤ (k : Int)) => absurd zz (by omega)) (fun (e4 : (k : Int) < (L : Int)) => ?_)
  refine zX.sn 1 (pc2 := 32) (l2 := [(0, .inr (ro, i)), (1, zi (k : Int))]) (st2 := [zi 1]) rfl ?_
  refine zX.sn 1 (pc2 := 36) (l2 := [(0, .inr (ro, i)), (1, zi (k : Int))]) (st2 := [zi 1]) rfl ?_
  refine zX.ret rfl (zret_z rfl (by decide)) ?_
  show zX _ 53 5 [(0, .inr (ro, i)), (1, zi (k : Int))] [zi 1] c s _ _
  refine zX.icmp0 (tgt := 21) ⟨rfl, rfl⟩ rfl (by omega) (fun (zz : 1 = 0) => absurd zz (by omega)) (fun (e5 : ¬ 1 = 0) => ?_)
  refine zX.sn 1 (pc2 := 9) (l2 := [(0, .inr (ro, i)), (1, zi (k : Int))]) (st2 := [.inr (ro, i)]) rfl ?_
  refine zX.getf ⟨rfl, rfl⟩ H_ro_i rfl rfl ?_
  refine zX.sn 1 (pc2 := 13) (l2 := [(0, .inr (ro, i)), (1, zi (k : Int))]) (st2 := [zi (k : Int), .inr (ro + 1, i)]) rfl ?_
  refine zX.iald (j := k) ⟨rfl, rfl⟩ H_ro_1_i rfl (by omega) (by omega) ?_
  show zX _ 53 14 [(0, .inr (ro, i)), (1, zi (k : Int))] [.inl (.int (fn k))] c s _ _
  refine zX.rcmp0 (tgt := 21) ⟨rfl, rfl⟩ rfl (fun (e6 : ¬ 0 < (fn k)) => ?_) (fun (e6 : 0 < (fn k)) => ?_)
  · refine zX.sn 1 (pc2 := 22) (l2 := [(0, .inr (ro, i)), (1, zi (k : Int))]) (st2 := [zi 0]) rfl ?_
    refine zX.ret rfl (zret_z rfl (by decide)) ?_
    exact k1 e6
  · refine zX.sn 1 (pc2 := 18) (l2 := [(0, .inr (ro, i)), (1, zi (k : Int))]) (st2 := [zi 1]) rfl ?_
    refine zX.sn 1 (pc2 := 22) (l2 := [(0, .inr (ro, i)), (1, zi (k : Int))]) (st2 := [zi 1]) rfl ?_
    refine zX.ret rfl (zret_z rfl (by decide)) ?_
    exact k2 e6

set_option maxHeartbeats 4000000 in
theorem r_tadd {d c s : Nat} {h : xH} {Q : xR → Nat → Nat → xH → Prop} {ro i L k : Nat} {fn fs fg : Nat → Int32} {v : Int} (h0 : 0 < ro) (hL : L ≤ 67108864) (hk : k < L) (H_ro_i : h (ro, i) = some (.inl (7, [.inr (ro + 1, i), .inr (ro + 2, i), .inr (ro + 3, i)]))) (H_ro_1_i : h (ro + 1, i) = some (.inr (0, L, zI fn))) (H_ro_2_i : h (ro + 2, i) = some (.inr (0, L, zI fs))) (H_ro_3_i : h (ro + 3, i) = some (.inr (0, L, zI fg)))
    (k1 : (¬ (fn k) = 0) → ∀ h' : xH, h' (ro + 3, i) = some (.inr (0, L, zI (zfi fg k (if (fg k) < (Int32.ofInt v) then (Int32.ofInt v) else (fg k))))) → h' (ro + 1, i) = some (.inr (0, L, zI (zfi fn k ((fn k) + (Int32.ofInt 1))))) → h' (ro + 2, i) = some (.inr (0, L, zI (zfi fs k ((fs k) + (Int32.ofInt v))))) → (∀ za zb : Nat, ¬ ((za = ro + 3 ∧ zb = i) ∨ (za = ro + 1 ∧ zb = i) ∨ (za = ro + 2 ∧ zb = i)) → h' (za, zb) = h (za, zb)) → Q (.inl none) c s h')
    (k2 : ((fn k) = 0) → ∀ h' : xH, h' (ro + 3, i) = some (.inr (0, L, zI (zfi fg k (Int32.ofInt v)))) → h' (ro + 1, i) = some (.inr (0, L, zI (zfi fn k ((fn k) + (Int32.ofInt 1))))) → h' (ro + 2, i) = some (.inr (0, L, zI (zfi fs k ((fs k) + (Int32.ofInt v))))) → (∀ za zb : Nat, ¬ ((za = ro + 3 ∧ zb = i) ∨ (za = ro + 1 ∧ zb = i) ∨ (za = ro + 2 ∧ zb = i)) → h' (za, zb) = h (za, zb)) → Q (.inl none) c s h') :
    zX (d + 1) 54 0 [(0, .inr (ro, i)), (1, zi (k : Int)), (2, zi v)] [] c s h Q := by
  refine zX.sn 1 (pc2 := 1) (l2 := [(0, .inr (ro, i)), (1, zi (k : Int)), (2, zi v)]) (st2 := [.inr (ro, i)]) rfl ?_
  refine zX.sn 1 (pc2 := 2) (l2 := [(0, .inr (ro, i)), (1, zi (k : Int)), (2, zi v)]) (st2 := [zi (k : Int), .inr (ro, i)]) rfl ?_
  refine zX.call (mid2 := 52) (as := [.inr (ro, i), zi (k : Int)]) (rest := []) ⟨rfl, rfl⟩ (fun _ => rfl) (zX.inv rfl H_ro_i rfl rfl) ⟨Nat.le_of_ble_eq_true rfl, Nat.le_of_ble_eq_true rfl⟩ ?_
  show zX _ 52 0 [(0, .inr (ro, i)), (1, zi (k : Int))] [] c s _ _
  refine zX.sn 1 (pc2 := 1) (l2 := [(0, .inr (ro, i)), (1, zi (k : Int))]) (st2 := [zi (k : Int)]) rfl ?_
  refine zX.icmp0 (tgt := 35) ⟨rfl, rfl⟩ rfl (by omega) (fun (zz : (k : Int) < 0) => absurd zz (by omega)) (fun (e1 : 0 ≤ (k : Int)) => ?_)
  refine zX.sn 1 (pc2 := 5) (l2 := [(0, .inr (ro, i)), (1, zi (k : Int))]) (st2 := [zi (k : Int)]) rfl ?_
  refine zX.sn 1 (pc2 := 6) (l2 := [(0, .inr (ro, i)), (1, zi (k : Int))]) (st2 := [.inr (ro, i), zi (k : Int)]) rfl ?_
  refine zX.getf ⟨rfl, rfl⟩ H_ro_i rfl rfl ?_
  refine zX.alen ⟨rfl, rfl⟩ H_ro_1_i ?_
  refine zX.icmp (tgt := 35) ⟨rfl, rfl⟩ rfl (by omega) (by omega) (fun (zz : (L : Int) ≤ (k : Int)) => absurd zz (by omega)) (fun (e2 : (k : Int) < (L : Int)) => ?_)
  refine zX.sn 1 (pc2 := 14) (l2 := [(0, .inr (ro, i)), (1, zi (k : Int))]) (st2 := [zi (k : Int)]) rfl ?_
  refine zX.sn 1 (pc2 := 15) (l2 := [(0, .inr (ro, i)), (1, zi (k : Int))]) (st2 := [.inr (ro, i), zi (k : Int)]) rfl ?_
  refine zX.getf ⟨rfl, rfl⟩ H_ro_i rfl rfl ?_
  refine zX.alen ⟨rfl, rfl⟩ H_ro_2_i ?_
  refine zX.icmp (tgt := 35) ⟨rfl, rfl⟩ rfl (by omega) (by omega) (fun (zz : (L : Int) ≤ (k : Int)) => absurd zz (by omega)) (fun (e3 : (k : Int) < (L : Int)) => ?_)
  refine zX.sn 1 (pc2 := 23) (l2 := [(0, .inr (ro, i)), (1, zi (k : Int))]) (st2 := [zi (k : Int)]) rfl ?_
  refine zX.sn 1 (pc2 := 24) (l2 := [(0, .inr (ro, i)), (1, zi (k : Int))]) (st2 := [.inr (ro, i), zi (k : Int)]) rfl ?_
  refine zX.getf ⟨rfl, rfl⟩ H_ro_i rfl rfl ?_
  refine zX.alen ⟨rfl, rfl⟩ H_ro_3_i ?_
  refine zX.icmp (tgt := 35) ⟨rfl, rfl⟩ rfl (by omega) (by omega) (fun (zz : (L : Int) ≤ (k : Int)) => absurd zz (by omega)) (fun (e4 : (k : Int) < (L : Int)) => ?_)
  refine zX.sn 1 (pc2 := 32) (l2 := [(0, .inr (ro, i)), (1, zi (k : Int))]) (st2 := [zi 1]) rfl ?_
  refine zX.sn 1 (pc2 := 36) (l2 := [(0, .inr (ro, i)), (1, zi (k : Int))]) (st2 := [zi 1]) rfl ?_
  refine zX.ret rfl (zret_z rfl (by decide)) ?_
  show zX _ 54 5 [(0, .inr (ro, i)), (1, zi (k : Int)), (2, zi v)] [zi 1] c s _ _
  refine zX.icmp0 (tgt := 57) ⟨rfl, rfl⟩ rfl (by omega) (fun (zz : 1 = 0) => absurd zz (by omega)) (fun (e5 : ¬ 1 = 0) => ?_)
  refine zX.sn 1 (pc2 := 9) (l2 := [(0, .inr (ro, i)), (1, zi (k : Int)), (2, zi v)]) (st2 := [.inr (ro, i)]) rfl ?_
  refine zX.getf ⟨rfl, rfl⟩ H_ro_i rfl rfl ?_
  refine zX.sn 1 (pc2 := 13) (l2 := [(0, .inr (ro, i)), (1, zi (k : Int)), (2, zi v)]) (st2 := [zi (k : Int), .inr (ro + 3, i)]) rfl ?_
  refine zX.sn 1 (pc2 := 14) (l2 := [(0, .inr (ro, i)), (1, zi (k : Int)), (2, zi v)]) (st2 := [.inr (ro, i), zi (k : Int), .inr (ro + 3, i)]) rfl ?_
  refine zX.getf ⟨rfl, rfl⟩ H_ro_i rfl rfl ?_
  refine zX.sn 1 (pc2 := 18) (l2 := [(0, .inr (ro, i)), (1, zi (k : Int)), (2, zi v)]) (st2 := [zi (k : Int), .inr (ro + 1, i), zi (k : Int), .inr (ro + 3, i)]) rfl ?_
  refine zX.iald (j := k) ⟨rfl, rfl⟩ H_ro_1_i rfl (by omega) (by omega) ?_
  show zX _ 54 19 [(0, .inr (ro, i)), (1, zi (k : Int)), (2, zi v)] [.inl (.int (fn k)), zi (k : Int), .inr (ro + 3, i)] c s _ _
  refine zX.rcmp0 (tgt := 26) ⟨rfl, rfl⟩ rfl (fun (e6 : ¬ (fn k) = 0) => ?_) (fun (e6 : (fn k) = 0) => ?_)
  · refine zX.sn 1 (pc2 := 27) (l2 := [(0, .inr (ro, i)), (1, zi (k : Int)), (2, zi v)]) (st2 := [.inr (ro, i), zi (k : Int), .inr (ro + 3, i)]) rfl ?_
    refine zX.getf ⟨rfl, rfl⟩ H_ro_i rfl rfl ?_
    refine zX.sn 1 (pc2 := 31) (l2 := [(0, .inr (ro, i)), (1, zi (k : Int)), (2, zi v)]) (st2 := [zi (k : Int), .inr (ro + 3, i), zi (k : Int), .inr (ro + 3, i)]) rfl ?_
    refine zX.iald (j := k) ⟨rfl, rfl⟩ H_ro_3_i rfl (by omega) (by omega) ?_
    show zX _ 54 32 [(0, .inr (ro, i)), (1, zi (k : Int)), (2, zi v)] [.inl (.int (fg k)), zi (k : Int), .inr (ro + 3, i)] c s _ _
    refine zX.sn 1 (pc2 := 33) (l2 := [(0, .inr (ro, i)), (1, zi (k : Int)), (2, zi v)]) (st2 := [zi v, .inl (.int (fg k)), zi (k : Int), .inr (ro + 3, i)]) rfl ?_
    refine zX.rmaxi ⟨rfl, rfl⟩ (Nat.le_of_ble_eq_true rfl) ?_
    refine zX.iast (j := k) ⟨rfl, rfl⟩ H_ro_3_i (by omega) rfl (by omega) (by omega) ?_
    show zX _ 54 37 [(0, .inr (ro, i)), (1, zi (k : Int)), (2, zi v)] [] c s (xup h (ro + 3, i) (.inr (0, L, zI (zfi fg k (if (fg k) < (Int32.ofInt v) then (Int32.ofInt v) else (fg k)))))) _
    refine zX.sn 1 (pc2 := 38) (l2 := [(0, .inr (ro, i)), (1, zi (k : Int)), (2, zi v)]) (st2 := [.inr (ro, i)]) rfl ?_
    refine zX.getf ⟨rfl, rfl⟩ (zup_n (zn (by omega)) H_ro_i) rfl rfl ?_
    refine zX.sn 1 (pc2 := 42) (l2 := [(0, .inr (ro, i)), (1, zi (k : Int)), (2, zi v)]) (st2 := [zi (k : Int), .inr (ro + 1, i)]) rfl ?_
    refine zX.sn 1 (pc2 := 43) (l2 := [(0, .inr (ro, i)), (1, zi (k : Int)), (2, zi v)]) (st2 := [zi (k : Int), .inr (ro + 1, i), zi (k : Int), .inr (ro + 1, i)]) rfl ?_
    refine zX.iald (j := k) ⟨rfl, rfl⟩ (zup_n (zn (by omega)) H_ro_1_i) rfl (by omega) (by omega) ?_
    show zX _ 54 44 [(0, .inr (ro, i)), (1, zi (k : Int)), (2, zi v)] [.inl (.int (fn k)), zi (k : Int), .inr (ro + 1, i)] c s _ _
    refine zX.sn 1 (pc2 := 45) (l2 := [(0, .inr (ro, i)), (1, zi (k : Int)), (2, zi v)]) (st2 := [zi 1, .inl (.int (fn k)), zi (k : Int), .inr (ro + 1, i)]) rfl ?_
    refine zX.sn 1 (pc2 := 46) (l2 := [(0, .inr (ro, i)), (1, zi (k : Int)), (2, zi v)]) (st2 := [.inl (.int ((fn k) + (Int32.ofInt 1))), zi (k : Int), .inr (ro + 1, i)]) rfl ?_
    refine zX.iast (j := k) ⟨rfl, rfl⟩ (zup_n (zn (by omega)) H_ro_1_i) (by omega) rfl (by omega) (by omega) ?_
    show zX _ 54 47 [(0, .inr (ro, i)), (1, zi (k : Int)), (2, zi v)] [] c s (xup (xup h (ro + 3, i) (.inr (0, L, zI (zfi fg k (if (fg k) < (Int32.ofInt v) then (Int32.ofInt v) else (fg k)))))) (ro + 1, i) (.inr (0, L, zI (zfi fn k ((fn k) + (Int32.ofInt 1)))))) _
    refine zX.sn 1 (pc2 := 48) (l2 := [(0, .inr (ro, i)), (1, zi (k : Int)), (2, zi v)]) (st2 := [.inr (ro, i)]) rfl ?_
    refine zX.getf ⟨rfl, rfl⟩ (zup_n (zn (by omega)) (zup_n (zn (by omega)) H_ro_i)) rfl rfl ?_
    refine zX.sn 1 (pc2 := 52) (l2 := [(0, .inr (ro, i)), (1, zi (k : Int)), (2, zi v)]) (st2 := [zi (k : Int), .inr (ro + 2, i)]) rfl ?_
    refine zX.sn 1 (pc2 := 53) (l2 := [(0, .inr (ro, i)), (1, zi (k : Int)), (2, zi v)]) (st2 := [zi (k : Int), .inr (ro + 2, i), zi (k : Int), .inr (ro + 2, i)]) rfl ?_
    refine zX.iald (j := k) ⟨rfl, rfl⟩ (zup_n (zn (by omega)) (zup_n (zn (by omega)) H_ro_2_i)) rfl (by omega) (by omega) ?_
    show zX _ 54 54 [(0, .inr (ro, i)), (1, zi (k : Int)), (2, zi v)] [.inl (.int (fs k)), zi (k : Int), .inr (ro + 2, i)] c s _ _
    refine zX.sn 1 (pc2 := 55) (l2 := [(0, .inr (ro, i)), (1, zi (k : Int)), (2, zi v)]) (st2 := [zi v, .inl (.int (fs k)), zi (k : Int), .inr (ro + 2, i)]) rfl ?_
    refine zX.sn 1 (pc2 := 56) (l2 := [(0, .inr (ro, i)), (1, zi (k : Int)), (2, zi v)]) (st2 := [.inl (.int ((fs k) + (Int32.ofInt v))), zi (k : Int), .inr (ro + 2, i)]) rfl ?_
    refine zX.iast (j := k) ⟨rfl, rfl⟩ (zup_n (zn (by omega)) (zup_n (zn (by omega)) H_ro_2_i)) (by omega) rfl (by omega) (by omega) ?_
    show zX _ 54 57 [(0, .inr (ro, i)), (1, zi (k : Int)), (2, zi v)] [] c s (xup (xup (xup h (ro + 3, i) (.inr (0, L, zI (zfi fg k (if (fg k) < (Int32.ofInt v) then (Int32.ofInt v) else (fg k)))))) (ro + 1, i) (.inr (0, L, zI (zfi fn k ((fn k) + (Int32.ofInt 1)))))) (ro + 2, i) (.inr (0, L, zI (zfi fs k ((fs k) + (Int32.ofInt v)))))) _
    refine zX.ret rfl rfl ?_
    exact k1 e6 _ (zup_n (zn (by omega)) (zup_n (zn (by omega)) zup_s)) (zup_n (zn (by omega)) zup_s) zup_s (fun za zb hn => (zup_n (zn (by omega)) (zup_n (zn (by omega)) (zup_n (zn (by omega)) rfl))))
  · refine zX.sn 1 (pc2 := 23) (l2 := [(0, .inr (ro, i)), (1, zi (k : Int)), (2, zi v)]) (st2 := [zi v, zi (k : Int), .inr (ro + 3, i)]) rfl ?_
    refine zX.sn 1 (pc2 := 36) (l2 := [(0, .inr (ro, i)), (1, zi (k : Int)), (2, zi v)]) (st2 := [zi v, zi (k : Int), .inr (ro + 3, i)]) rfl ?_
    refine zX.iast (j := k) ⟨rfl, rfl⟩ H_ro_3_i (by omega) rfl (by omega) (by omega) ?_
    show zX _ 54 37 [(0, .inr (ro, i)), (1, zi (k : Int)), (2, zi v)] [] c s (xup h (ro + 3, i) (.inr (0, L, zI (zfi fg k (Int32.ofInt v))))) _
    refine zX.sn 1 (pc2 := 38) (l2 := [(0, .inr (ro, i)), (1, zi (k : Int)), (2, zi v)]) (st2 := [.inr (ro, i)]) rfl ?_
    refine zX.getf ⟨rfl, rfl⟩ (zup_n (zn (by omega)) H_ro_i) rfl rfl ?_
    refine zX.sn 1 (pc2 := 42) (l2 := [(0, .inr (ro, i)), (1, zi (k : Int)), (2, zi v)]) (st2 := [zi (k : Int), .inr (ro + 1, i)]) rfl ?_
    refine zX.sn 1 (pc2 := 43) (l2 := [(0, .inr (ro, i)), (1, zi (k : Int)), (2, zi v)]) (st2 := [zi (k : Int), .inr (ro + 1, i), zi (k : Int), .inr (ro + 1, i)]) rfl ?_
    refine zX.iald (j := k) ⟨rfl, rfl⟩ (zup_n (zn (by omega)) H_ro_1_i) rfl (by omega) (by omega) ?_
    show zX _ 54 44 [(0, .inr (ro, i)), (1, zi (k : Int)), (2, zi v)] [.inl (.int (fn k)), zi (k : Int), .inr (ro + 1, i)] c s _ _
    refine zX.sn 1 (pc2 := 45) (l2 := [(0, .inr (ro, i)), (1, zi (k : Int)), (2, zi v)]) (st2 := [zi 1, .inl (.int (fn k)), zi (k : Int), .inr (ro + 1, i)]) rfl ?_
    refine zX.sn 1 (pc2 := 46) (l2 := [(0, .inr (ro, i)), (1, zi (k : Int)), (2, zi v)]) (st2 := [.inl (.int ((fn k) + (Int32.ofInt 1))), zi (k : Int), .inr (ro + 1, i)]) rfl ?_
    refine zX.iast (j := k) ⟨rfl, rfl⟩ (zup_n (zn (by omega)) H_ro_1_i) (by omega) rfl (by omega) (by omega) ?_
    show zX _ 54 47 [(0, .inr (ro, i)), (1, zi (k : Int)), (2, zi v)] [] c s (xup (xup h (ro + 3, i) (.inr (0, L, zI (zfi fg k (Int32.ofInt v))))) (ro + 1, i) (.inr (0, L, zI (zfi fn k ((fn k) + (Int32.ofInt 1)))))) _
    refine zX.sn 1 (pc2 := 48) (l2 := [(0, .inr (ro, i)), (1, zi (k : Int)), (2, zi v)]) (st2 := [.inr (ro, i)]) rfl ?_
    refine zX.getf ⟨rfl, rfl⟩ (zup_n (zn (by omega)) (zup_n (zn (by omega)) H_ro_i)) rfl rfl ?_
    refine zX.sn 1 (pc2 := 52) (l2 := [(0, .inr (ro, i)), (1, zi (k : Int)), (2, zi v)]) (st2 := [zi (k : Int), .inr (ro + 2, i)]) rfl ?_
    refine zX.sn 1 (pc2 := 53) (l2 := [(0, .inr (ro, i)), (1, zi (k : Int)), (2, zi v)]) (st2 := [zi (k : Int), .inr (ro + 2, i), zi (k : Int), .inr (ro + 2, i)]) rfl ?_
    refine zX.iald (j := k) ⟨rfl, rfl⟩ (zup_n (zn (by omega)) (zup_n (zn (by omega)) H_ro_2_i)) rfl (by omega) (by omega) ?_
    show zX _ 54 54 [(0, .inr (ro, i)), (1, zi (k : Int)), (2, zi v)] [.inl (.int (fs k)), zi (k : Int), .inr (ro + 2, i)] c s _ _
    refine zX.sn 1 (pc2 := 55) (l2 := [(0, .inr (ro, i)), (1, zi (k : Int)), (2, zi v)]) (st2 := [zi v, .inl (.int (fs k)), zi (k : Int), .inr (ro + 2, i)]) rfl ?_
    refine zX.sn 1 (pc2 := 56) (l2 := [(0, .inr (ro, i)), (1, zi (k : Int)), (2, zi v)]) (st2 := [.inl (.int ((fs k) + (Int32.ofInt v))), zi (k : Int), .inr (ro + 2, i)]) rfl ?_
    refine zX.iast (j := k) ⟨rfl, rfl⟩ (zup_n (zn (by omega)) (zup_n (zn (by omega)) H_ro_2_i)) (by omega) rfl (by omega) (by omega) ?_
    show zX _ 54 57 [(0, .inr (ro, i)), (1, zi (k : Int)), (2, zi v)] [] c s (xup (xup (xup h (ro + 3, i) (.inr (0, L, zI (zfi fg k (Int32.ofInt v))))) (ro + 1, i) (.inr (0, L, zI (zfi fn k ((fn k) + (Int32.ofInt 1)))))) (ro + 2, i) (.inr (0, L, zI (zfi fs k ((fs k) + (Int32.ofInt v)))))) _
    refine zX.ret rfl rfl ?_
    exact k2 e6 _ (zup_n (zn (by omega)) (zup_n (zn (by omega)) zup_s)) (zup_n (zn (by omega)) zup_s) zup_s (fun za zb hn => (zup_n (zn (by omega)) (zup_n (zn (by omega)) (zup_n (zn (by omega)) rfl))))

set_option maxHeartbeats 4000000 in
theorem r_tall {d c s : Nat} {h : xH} {Q : xR → Nat → Nat → xH → Prop} {ro i L k j : Nat} {fn fs fg : Nat → Int32} (h0 : 0 < ro) (hL : L ≤ 67108864) (hk : k < L) (hj : j < L) (H_ro_i : h (ro, i) = some (.inl (7, [.inr (ro + 1, i), .inr (ro + 2, i), .inr (ro + 3, i)]))) (H_ro_1_i : h (ro + 1, i) = some (.inr (0, L, zI fn))) (H_ro_2_i : h (ro + 2, i) = some (.inr (0, L, zI fs))) (H_ro_3_i : h (ro + 3, i) = some (.inr (0, L, zI fg)))
    (k1 : (¬ 0 < (fn j)) → Q (.inl none) c s h)
    (k2 : (0 < (fn j)) → (¬ (fn k) = 0) → ∀ h' : xH, h' (ro + 3, i) = some (.inr (0, L, zI (zfi fg k (if (fg k) < (fg j) then (fg j) else (fg k))))) → h' (ro + 1, i) = some (.inr (0, L, zI (zfi fn k ((fn k) + (fn j))))) → h' (ro + 2, i) = some (.inr (0, L, zI (zfi fs k ((fs k) + (fs j))))) → (∀ za zb : Nat, ¬ ((za = ro + 3 ∧ zb = i) ∨ (za = ro + 1 ∧ zb = i) ∨ (za = ro + 2 ∧ zb = i)) → h' (za, zb) = h (za, zb)) → Q (.inl none) c s h')
    (k3 : (0 < (fn j)) → ((fn k) = 0) → ∀ h' : xH, h' (ro + 3, i) = some (.inr (0, L, zI (zfi fg k (fg j)))) → h' (ro + 1, i) = some (.inr (0, L, zI (zfi fn k ((fn k) + (fn j))))) → h' (ro + 2, i) = some (.inr (0, L, zI (zfi fs k ((fs k) + (fs j))))) → (∀ za zb : Nat, ¬ ((za = ro + 3 ∧ zb = i) ∨ (za = ro + 1 ∧ zb = i) ∨ (za = ro + 2 ∧ zb = i)) → h' (za, zb) = h (za, zb)) → Q (.inl none) c s h') :
    zX (d + 2) 55 0 [(0, .inr (ro, i)), (1, zi (k : Int)), (2, zi (j : Int))] [] c s h Q := by
  refine zX.sn 1 (pc2 := 1) (l2 := [(0, .inr (ro, i)), (1, zi (k : Int)), (2, zi (j : Int))]) (st2 := [.inr (ro, i)]) rfl ?_
  refine zX.sn 1 (pc2 := 2) (l2 := [(0, .inr (ro, i)), (1, zi (k : Int)), (2, zi (j : Int))]) (st2 := [zi (k : Int), .inr (ro, i)]) rfl ?_
  refine zX.call (mid2 := 52) (as := [.inr (ro, i), zi (k : Int)]) (rest := []) ⟨rfl, rfl⟩ (fun _ => rfl) (zX.inv rfl H_ro_i rfl rfl) ⟨Nat.le_of_ble_eq_true rfl, Nat.le_of_ble_eq_true rfl⟩ ?_
  show zX _ 52 0 [(0, .inr (ro, i)), (1, zi (k : Int))] [] c s _ _
  refine zX.sn 1 (pc2 := 1) (l2 := [(0, .inr (ro, i)), (1, zi (k : Int))]) (st2 := [zi (k : Int)]) rfl ?_
  refine zX.icmp0 (tgt := 35) ⟨rfl, rfl⟩ rfl (by omega) (fun (zz : (k : Int) < 0) => absurd zz (by omega)) (fun (e1 : 0 ≤ (k : Int)) => ?_)
  refine zX.sn 1 (pc2 := 5) (l2 := [(0, .inr (ro, i)), (1, zi (k : Int))]) (st2 := [zi (k : Int)]) rfl ?_
  refine zX.sn 1 (pc2 := 6) (l2 := [(0, .inr (ro, i)), (1, zi (k : Int))]) (st2 := [.inr (ro, i), zi (k : Int)]) rfl ?_
  refine zX.getf ⟨rfl, rfl⟩ H_ro_i rfl rfl ?_
  refine zX.alen ⟨rfl, rfl⟩ H_ro_1_i ?_
  refine zX.icmp (tgt := 35) ⟨rfl, rfl⟩ rfl (by omega) (by omega) (fun (zz : (L : Int) ≤ (k : Int)) => absurd zz (by omega)) (fun (e2 : (k : Int) < (L : Int)) => ?_)
  refine zX.sn 1 (pc2 := 14) (l2 := [(0, .inr (ro, i)), (1, zi (k : Int))]) (st2 := [zi (k : Int)]) rfl ?_
  refine zX.sn 1 (pc2 := 15) (l2 := [(0, .inr (ro, i)), (1, zi (k : Int))]) (st2 := [.inr (ro, i), zi (k : Int)]) rfl ?_
  refine zX.getf ⟨rfl, rfl⟩ H_ro_i rfl rfl ?_
  refine zX.alen ⟨rfl, rfl⟩ H_ro_2_i ?_
  refine zX.icmp (tgt := 35) ⟨rfl, rfl⟩ rfl (by omega) (by omega) (fun (zz : (L : Int) ≤ (k : Int)) => absurd zz (by omega)) (fun (e3 : (k : Int) < (L : Int)) => ?_)
  refine zX.sn 1 (pc2 := 23) (l2 := [(0, .inr (ro, i)), (1, zi (k : Int))]) (st2 := [zi (k : Int)]) rfl ?_
  refine zX.sn 1 (pc2 := 24) (l2 := [(0, .inr (ro, i)), (1, zi (k : Int))]) (st2 := [.inr (ro, i), zi (k : Int)]) rfl ?_
  refine zX.getf ⟨rfl, rfl⟩ H_ro_i rfl rfl ?_
  refine zX.alen ⟨rfl, rfl⟩ H_ro_3_i ?_
  refine zX.icmp (tgt := 35) ⟨rfl, rfl⟩ rfl (by omega) (by omega) (fun (zz : (L : Int) ≤ (k : Int)) => absurd zz (by omega)) (fun (e4 : (k : Int) < (L : Int)) => ?_)
  refine zX.sn 1 (pc2 := 32) (l2 := [(0, .inr (ro, i)), (1, zi (k : Int))]) (st2 := [zi 1]) rfl ?_
  refine zX.sn 1 (pc2 := 36) (l2 := [(0, .inr (ro, i)), (1, zi (k : Int))]) (st2 := [zi 1]) rfl ?_
  refine zX.ret rfl (zret_z rfl (by decide)) ?_
  show zX _ 55 5 [(0, .inr (ro, i)), (1, zi (k : Int)), (2, zi (j : Int))] [zi 1] c s _ _
  refine zX.icmp0 (tgt := 85) ⟨rfl, rfl⟩ rfl (by omega) (fun (zz : 1 = 0) => absurd zz (by omega)) (fun (e5 : ¬ 1 = 0) => ?_)
  refine zX.sn 1 (pc2 := 9) (l2 := [(0, .inr (ro, i)), (1, zi (k : Int)), (2, zi (j : Int))]) (st2 := [.inr (ro, i)]) rfl ?_
  refine zX.sn 1 (pc2 := 10) (l2 := [(0, .inr (ro, i)), (1, zi (k : Int)), (2, zi (j : Int))]) (st2 := [zi (j : Int), .inr (ro, i)]) rfl ?_
  refine zX.call (mid2 := 53) (as := [.inr (ro, i), zi (j : Int)]) (rest := []) ⟨rfl, rfl⟩ (fun _ => rfl) (zX.inv rfl H_ro_i rfl rfl) ⟨Nat.le_of_ble_eq_true rfl, Nat.le_of_ble_eq_true rfl⟩ ?_
  show zX _ 53 0 [(0, .inr (ro, i)), (1, zi (j : Int))] [] c s _ _
  refine zX.sn 1 (pc2 := 1) (l2 := [(0, .inr (ro, i)), (1, zi (j : Int))]) (st2 := [.inr (ro, i)]) rfl ?_
  refine zX.sn 1 (pc2 := 2) (l2 := [(0, .inr (ro, i)), (1, zi (j : Int))]) (st2 := [zi (j : Int), .inr (ro, i)]) rfl ?_
  refine zX.call (mid2 := 52) (as := [.inr (ro, i), zi (j : Int)]) (rest := []) ⟨rfl, rfl⟩ (fun _ => rfl) (zX.inv rfl H_ro_i rfl rfl) ⟨Nat.le_of_ble_eq_true rfl, Nat.le_of_ble_eq_true rfl⟩ ?_
  show zX _ 52 0 [(0, .inr (ro, i)), (1, zi (j : Int))] [] c s _ _
  refine zX.sn 1 (pc2 := 1) (l2 := [(0, .inr (ro, i)), (1, zi (j : Int))]) (st2 := [zi (j : Int)]) rfl ?_
  refine zX.icmp0 (tgt := 35) ⟨rfl, rfl⟩ rfl (by omega) (fun (zz : (j : Int) < 0) => absurd zz (by omega)) (fun (e6 : 0 ≤ (j : Int)) => ?_)
  refine zX.sn 1 (pc2 := 5) (l2 := [(0, .inr (ro, i)), (1, zi (j : Int))]) (st2 := [zi (j : Int)]) rfl ?_
  refine zX.sn 1 (pc2 := 6) (l2 := [(0, .inr (ro, i)), (1, zi (j : Int))]) (st2 := [.inr (ro, i), zi (j : Int)]) rfl ?_
  refine zX.getf ⟨rfl, rfl⟩ H_ro_i rfl rfl ?_
  refine zX.alen ⟨rfl, rfl⟩ H_ro_1_i ?_
  refine zX.icmp (tgt := 35) ⟨rfl, rfl⟩ rfl (by omega) (by omega) (fun (zz : (L : Int) ≤ (j : Int)) => absurd zz (by omega)) (fun (e7 : (j : Int) < (L : Int)) => ?_)
  refine zX.sn 1 (pc2 := 14) (l2 := [(0, .inr (ro, i)), (1, zi (j : Int))]) (st2 := [zi (j : Int)]) rfl ?_
  refine zX.sn 1 (pc2 := 15) (l2 := [(0, .inr (ro, i)), (1, zi (j : Int))]) (st2 := [.inr (ro, i), zi (j : Int)]) rfl ?_
  refine zX.getf ⟨rfl, rfl⟩ H_ro_i rfl rfl ?_
  refine zX.alen ⟨rfl, rfl⟩ H_ro_2_i ?_
  refine zX.icmp (tgt := 35) ⟨rfl, rfl⟩ rfl (by omega) (by omega) (fun (zz : (L : Int) ≤ (j : Int)) => absurd zz (by omega)) (fun (e8 : (j : Int) < (L : Int)) => ?_)
  refine zX.sn 1 (pc2 := 23) (l2 := [(0, .inr (ro, i)), (1, zi (j : Int))]) (st2 := [zi (j : Int)]) rfl ?_
  refine zX.sn 1 (pc2 := 24) (l2 := [(0, .inr (ro, i)), (1, zi (j : Int))]) (st2 := [.inr (ro, i), zi (j : Int)]) rfl ?_
  refine zX.getf ⟨rfl, rfl⟩ H_ro_i rfl rfl ?_
  refine zX.alen ⟨rfl, rfl⟩ H_ro_3_i ?_
  refine zX.icmp (tgt := 35) ⟨rfl, rfl⟩ rfl (by omega) (by omega) (fun (zz : (L : Int) ≤ (j : Int)) => absurd zz (by omega)) (fun (e9 : (j : Int) < (L : Int)) => ?_)
  refine zX.sn 1 (pc2 := 32) (l2 := [(0, .inr (ro, i)), (1, zi (j : Int))]) (st2 := [zi 1]) rfl ?_
  refine zX.sn 1 (pc2 := 36) (l2 := [(0, .inr (ro, i)), (1, zi (j : Int))]) (st2 := [zi 1]) rfl ?_
  refine zX.ret rfl (zret_z rfl (by decide)) ?_
  show zX _ 53 5 [(0, .inr (ro, i)), (1, zi (j : Int))] [zi 1] c s _ _
  refine zX.icmp0 (tgt := 21) ⟨rfl, rfl⟩ rfl (by omega) (fun (zz : 1 = 0) => absurd zz (by omega)) (fun (e10 : ¬ 1 = 0) => ?_)
  refine zX.sn 1 (pc2 := 9) (l2 := [(0, .inr (ro, i)), (1, zi (j : Int))]) (st2 := [.inr (ro, i)]) rfl ?_
  refine zX.getf ⟨rfl, rfl⟩ H_ro_i rfl rfl ?_
  refine zX.sn 1 (pc2 := 13) (l2 := [(0, .inr (ro, i)), (1, zi (j : Int))]) (st2 := [zi (j : Int), .inr (ro + 1, i)]) rfl ?_
  refine zX.iald (j := j) ⟨rfl, rfl⟩ H_ro_1_i rfl (by omega) (by omega) ?_
  show zX _ 53 14 [(0, .inr (ro, i)), (1, zi (j : Int))] [.inl (.int (fn j))] c s _ _
  refine zX.rcmp0 (tgt := 21) ⟨rfl, rfl⟩ rfl (fun (e11 : ¬ 0 < (fn j)) => ?_) (fun (e11 : 0 < (fn j)) => ?_)
  · refine zX.sn 1 (pc2 := 22) (l2 := [(0, .inr (ro, i)), (1, zi (j : Int))]) (st2 := [zi 0]) rfl ?_
    refine zX.ret rfl (zret_z rfl (by decide)) ?_
    show zX _ 55 13 [(0, .inr (ro, i)), (1, zi (k : Int)), (2, zi (j : Int))] [zi 0] c s _ _
    refine zX.icmp0 (tgt := 85) ⟨rfl, rfl⟩ rfl (by omega) (fun (e12 : 0 = 0) => ?_) (fun (zz : ¬ 0 = 0) => absurd zz (by omega))
    refine zX.ret rfl rfl ?_
    exact k1 e11
  · refine zX.sn 1 (pc2 := 18) (l2 := [(0, .inr (ro, i)), (1, zi (j : Int))]) (st2 := [zi 1]) rfl ?_
    refine zX.sn 1 (pc2 := 22) (l2 := [(0, .inr (ro, i)), (1, zi (j : Int))]) (st2 := [zi 1]) rfl ?_
    refine zX.ret rfl (zret_z rfl (by decide)) ?_
    show zX _ 55 13 [(0, .inr (ro, i)), (1, zi (k : Int)), (2, zi (j : Int))] [zi 1] c s _ _
    refine zX.icmp0 (tgt := 85) ⟨rfl, rfl⟩ rfl (by omega) (fun (zz : 1 = 0) => absurd zz (by omega)) (fun (e13 : ¬ 1 = 0) => ?_)
    refine zX.sn 1 (pc2 := 17) (l2 := [(0, .inr (ro, i)), (1, zi (k : Int)), (2, zi (j : Int))]) (st2 := [.inr (ro, i)]) rfl ?_
    refine zX.getf ⟨rfl, rfl⟩ H_ro_i rfl rfl ?_
    refine zX.sn 1 (pc2 := 21) (l2 := [(0, .inr (ro, i)), (1, zi (k : Int)), (2, zi (j : Int))]) (st2 := [zi (k : Int), .inr (ro + 3, i)]) rfl ?_
    refine zX.sn 1 (pc2 := 22) (l2 := [(0, .inr (ro, i)), (1, zi (k : Int)), (2, zi (j : Int))]) (st2 := [.inr (ro, i), zi (k : Int), .inr (ro + 3, i)]) rfl ?_
    refine zX.getf ⟨rfl, rfl⟩ H_ro_i rfl rfl ?_
    refine zX.sn 1 (pc2 := 26) (l2 := [(0, .inr (ro, i)), (1, zi (k : Int)), (2, zi (j : Int))]) (st2 := [zi (k : Int), .inr (ro + 1, i), zi (k : Int), .inr (ro + 3, i)]) rfl ?_
    refine zX.iald (j := k) ⟨rfl, rfl⟩ H_ro_1_i rfl (by omega) (by omega) ?_
    show zX _ 55 27 [(0, .inr (ro, i)), (1, zi (k : Int)), (2, zi (j : Int))] [.inl (.int (fn k)), zi (k : Int), .inr (ro + 3, i)] c s _ _
    refine zX.rcmp0 (tgt := 39) ⟨rfl, rfl⟩ rfl (fun (e14 : ¬ (fn k) = 0) => ?_) (fun (e14 : (fn k) = 0) => ?_)
    · refine zX.sn 1 (pc2 := 40) (l2 := [(0, .inr (ro, i)), (1, zi (k : Int)), (2, zi (j : Int))]) (st2 := [.inr (ro, i), zi (k : Int), .inr (ro + 3, i)]) rfl ?_
      refine zX.getf ⟨rfl, rfl⟩ H_ro_i rfl rfl ?_
      refine zX.sn 1 (pc2 := 44) (l2 := [(0, .inr (ro, i)), (1, zi (k : Int)), (2, zi (j : Int))]) (st2 := [zi (k : Int), .inr (ro + 3, i), zi (k : Int), .inr (ro + 3, i)]) rfl ?_
      refine zX.iald (j := k) ⟨rfl, rfl⟩ H_ro_3_i rfl (by omega) (by omega) ?_
      show zX _ 55 45 [(0, .inr (ro, i)), (1, zi (k : Int)), (2, zi (j : Int))] [.inl (.int (fg k)), zi (k : Int), .inr (ro + 3, i)] c s _ _
      refine zX.sn 1 (pc2 := 46) (l2 := [(0, .inr (ro, i)), (1, zi (k : Int)), (2, zi (j : Int))]) (st2 := [.inr (ro, i), .inl (.int (fg k)), zi (k : Int), .inr (ro + 3, i)]) rfl ?_
      refine zX.getf ⟨rfl, rfl⟩ H_ro_i rfl rfl ?_
      refine zX.sn 1 (pc2 := 50) (l2 := [(0, .inr (ro, i)), (1, zi (k : Int)), (2, zi (j : Int))]) (st2 := [zi (j : Int), .inr (ro + 3, i), .inl (.int (fg k)), zi (k : Int), .inr (ro + 3, i)]) rfl ?_
      refine zX.iald (j := j) ⟨rfl, rfl⟩ H_ro_3_i rfl (by omega) (by omega) ?_
      show zX _ 55 51 [(0, .inr (ro, i)), (1, zi (k : Int)), (2, zi (j : Int))] [.inl (.int (fg j)), .inl (.int (fg k)), zi (k : Int), .inr (ro + 3, i)] c s _ _
      refine zX.rmaxi ⟨rfl, rfl⟩ (Nat.le_of_ble_eq_true rfl) ?_
      refine zX.iast (j := k) ⟨rfl, rfl⟩ H_ro_3_i (by omega) rfl (by omega) (by omega) ?_
      show zX _ 55 55 [(0, .inr (ro, i)), (1, zi (k : Int)), (2, zi (j : Int))] [] c s (xup h (ro + 3, i) (.inr (0, L, zI (zfi fg k (if (fg k) < (fg j) then (fg j) else (fg k)))))) _
      refine zX.sn 1 (pc2 := 56) (l2 := [(0, .inr (ro, i)), (1, zi (k : Int)), (2, zi (j : Int))]) (st2 := [.inr (ro, i)]) rfl ?_
      refine zX.getf ⟨rfl, rfl⟩ (zup_n (zn (by omega)) H_ro_i) rfl rfl ?_
      refine zX.sn 1 (pc2 := 60) (l2 := [(0, .inr (ro, i)), (1, zi (k : Int)), (2, zi (j : Int))]) (st2 := [zi (k : Int), .inr (ro + 1, i)]) rfl ?_
      refine zX.sn 1 (pc2 := 61) (l2 := [(0, .inr (ro, i)), (1, zi (k : Int)), (2, zi (j : Int))]) (st2 := [zi (k : Int), .inr (ro + 1, i), zi (k : Int), .inr (ro + 1, i)]) rfl ?_
      refine zX.iald (j := k) ⟨rfl, rfl⟩ (zup_n (zn (by omega)) H_ro_1_i) rfl (by omega) (by omega) ?_
      show zX _ 55 62 [(0, .inr (ro, i)), (1, zi (k : Int)), (2, zi (j : Int))] [.inl (.int (fn k)), zi (k : Int), .inr (ro + 1, i)] c s _ _
      refine zX.sn 1 (pc2 := 63) (l2 := [(0, .inr (ro, i)), (1, zi (k : Int)), (2, zi (j : Int))]) (st2 := [.inr (ro, i), .inl (.int (fn k)), zi (k : Int), .inr (ro + 1, i)]) rfl ?_
      refine zX.getf ⟨rfl, rfl⟩ (zup_n (zn (by omega)) H_ro_i) rfl rfl ?_
      refine zX.sn 1 (pc2 := 67) (l2 := [(0, .inr (ro, i)), (1, zi (k : Int)), (2, zi (j : Int))]) (st2 := [zi (j : Int), .inr (ro + 1, i), .inl (.int (fn k)), zi (k : Int), .inr (ro + 1, i)]) rfl ?_
      refine zX.iald (j := j) ⟨rfl, rfl⟩ (zup_n (zn (by omega)) H_ro_1_i) rfl (by omega) (by omega) ?_
      show zX _ 55 68 [(0, .inr (ro, i)), (1, zi (k : Int)), (2, zi (j : Int))] [.inl (.int (fn j)), .inl (.int (fn k)), zi (k : Int), .inr (ro + 1, i)] c s _ _
      refine zX.sn 1 (pc2 := 69) (l2 := [(0, .inr (ro, i)), (1, zi (k : Int)), (2, zi (j : Int))]) (st2 := [.inl (.int ((fn k) + (fn j))), zi (k : Int), .inr (ro + 1, i)]) rfl ?_
      refine zX.iast (j := k) ⟨rfl, rfl⟩ (zup_n (zn (by omega)) H_ro_1_i) (by omega) rfl (by omega) (by omega) ?_
      show zX _ 55 70 [(0, .inr (ro, i)), (1, zi (k : Int)), (2, zi (j : Int))] [] c s (xup (xup h (ro + 3, i) (.inr (0, L, zI (zfi fg k (if (fg k) < (fg j) then (fg j) else (fg k)))))) (ro + 1, i) (.inr (0, L, zI (zfi fn k ((fn k) + (fn j)))))) _
      refine zX.sn 1 (pc2 := 71) (l2 := [(0, .inr (ro, i)), (1, zi (k : Int)), (2, zi (j : Int))]) (st2 := [.inr (ro, i)]) rfl ?_
      refine zX.getf ⟨rfl, rfl⟩ (zup_n (zn (by omega)) (zup_n (zn (by omega)) H_ro_i)) rfl rfl ?_
      refine zX.sn 1 (pc2 := 75) (l2 := [(0, .inr (ro, i)), (1, zi (k : Int)), (2, zi (j : Int))]) (st2 := [zi (k : Int), .inr (ro + 2, i)]) rfl ?_
      refine zX.sn 1 (pc2 := 76) (l2 := [(0, .inr (ro, i)), (1, zi (k : Int)), (2, zi (j : Int))]) (st2 := [zi (k : Int), .inr (ro + 2, i), zi (k : Int), .inr (ro + 2, i)]) rfl ?_
      refine zX.iald (j := k) ⟨rfl, rfl⟩ (zup_n (zn (by omega)) (zup_n (zn (by omega)) H_ro_2_i)) rfl (by omega) (by omega) ?_
      show zX _ 55 77 [(0, .inr (ro, i)), (1, zi (k : Int)), (2, zi (j : Int))] [.inl (.int (fs k)), zi (k : Int), .inr (ro + 2, i)] c s _ _
      refine zX.sn 1 (pc2 := 78) (l2 := [(0, .inr (ro, i)), (1, zi (k : Int)), (2, zi (j : Int))]) (st2 := [.inr (ro, i), .inl (.int (fs k)), zi (k : Int), .inr (ro + 2, i)]) rfl ?_
      refine zX.getf ⟨rfl, rfl⟩ (zup_n (zn (by omega)) (zup_n (zn (by omega)) H_ro_i)) rfl rfl ?_
      refine zX.sn 1 (pc2 := 82) (l2 := [(0, .inr (ro, i)), (1, zi (k : Int)), (2, zi (j : Int))]) (st2 := [zi (j : Int), .inr (ro + 2, i), .inl (.int (fs k)), zi (k : Int), .inr (ro + 2, i)]) rfl ?_
      refine zX.iald (j := j) ⟨rfl, rfl⟩ (zup_n (zn (by omega)) (zup_n (zn (by omega)) H_ro_2_i)) rfl (by omega) (by omega) ?_
      show zX _ 55 83 [(0, .inr (ro, i)), (1, zi (k : Int)), (2, zi (j : Int))] [.inl (.int (fs j)), .inl (.int (fs k)), zi (k : Int), .inr (ro + 2, i)] c s _ _
      refine zX.sn 1 (pc2 := 84) (l2 := [(0, .inr (ro, i)), (1, zi (k : Int)), (2, zi (j : Int))]) (st2 := [.inl (.int ((fs k) + (fs j))), zi (k : Int), .inr (ro + 2, i)]) rfl ?_
      refine zX.iast (j := k) ⟨rfl, rfl⟩ (zup_n (zn (by omega)) (zup_n (zn (by omega)) H_ro_2_i)) (by omega) rfl (by omega) (by omega) ?_
      show zX _ 55 85 [(0, .inr (ro, i)), (1, zi (k : Int)), (2, zi (j : Int))] [] c s (xup (xup (xup h (ro + 3, i) (.inr (0, L, zI (zfi fg k (if (fg k) < (fg j) then (fg j) else (fg k)))))) (ro + 1, i) (.inr (0, L, zI (zfi fn k ((fn k) + (fn j)))))) (ro + 2, i) (.inr (0, L, zI (zfi fs k ((fs k) + (fs j)))))) _
      refine zX.ret rfl rfl ?_
      exact k2 e11 e14 _ (zup_n (zn (by omega)) (zup_n (zn (by omega)) zup_s)) (zup_n (zn (by omega)) zup_s) zup_s (fun za zb hn => (zup_n (zn (by omega)) (zup_n (zn (by omega)) (zup_n (zn (by omega)) rfl))))
    · refine zX.sn 1 (pc2 := 31) (l2 := [(0, .inr (ro, i)), (1, zi (k : Int)), (2, zi (j : Int))]) (st2 := [.inr (ro, i), zi (k : Int), .inr (ro + 3, i)]) rfl ?_
      refine zX.getf ⟨rfl, rfl⟩ H_ro_i rfl rfl ?_
      refine zX.sn 1 (pc2 := 35) (l2 := [(0, .inr (ro, i)), (1, zi (k : Int)), (2, zi (j : Int))]) (st2 := [zi (j : Int), .inr (ro + 3, i), zi (k : Int), .inr (ro + 3, i)]) rfl ?_
      refine zX.iald (j := j) ⟨rfl, rfl⟩ H_ro_3_i rfl (by omega) (by omega) ?_
      show zX _ 55 36 [(0, .inr (ro, i)), (1, zi (k : Int)), (2, zi (j : Int))] [.inl (.int (fg j)), zi (k : Int), .inr (ro + 3, i)] c s _ _
      refine zX.sn 1 (pc2 := 54) (l2 := [(0, .inr (ro, i)), (1, zi (k : Int)), (2, zi (j : Int))]) (st2 := [.inl (.int (fg j)), zi (k : Int), .inr (ro + 3, i)]) rfl ?_
      refine zX.iast (j := k) ⟨rfl, rfl⟩ H_ro_3_i (by omega) rfl (by omega) (by omega) ?_
      show zX _ 55 55 [(0, .inr (ro, i)), (1, zi (k : Int)), (2, zi (j : Int))] [] c s (xup h (ro + 3, i) (.inr (0, L, zI (zfi fg k (fg j))))) _
      refine zX.sn 1 (pc2 := 56) (l2 := [(0, .inr (ro, i)), (1, zi (k : Int)), (2, zi (j : Int))]) (st2 := [.inr (ro, i)]) rfl ?_
      refine zX.getf ⟨rfl, rfl⟩ (zup_n (zn (by omega)) H_ro_i) rfl rfl ?_
      refine zX.sn 1 (pc2 := 60) (l2 := [(0, .inr (ro, i)), (1, zi (k : Int)), (2, zi (j : Int))]) (st2 := [zi (k : Int), .inr (ro + 1, i)]) rfl ?_
      refine zX.sn 1 (pc2 := 61) (l2 := [(0, .inr (ro, i)), (1, zi (k : Int)), (2, zi (j : Int))]) (st2 := [zi (k : Int), .inr (ro + 1, i), zi (k : Int), .inr (ro + 1, i)]) rfl ?_
      refine zX.iald (j := k) ⟨rfl, rfl⟩ (zup_n (zn (by omega)) H_ro_1_i) rfl (by omega) (by omega) ?_
      show zX _ 55 62 [(0, .inr (ro, i)), (1, zi (k : Int)), (2, zi (j : Int))] [.inl (.int (fn k)), zi (k : Int), .inr (ro + 1, i)] c s _ _
      refine zX.sn 1 (pc2 := 63) (l2 := [(0, .inr (ro, i)), (1, zi (k : Int)), (2, zi (j : Int))]) (st2 := [.inr (ro, i), .inl (.int (fn k)), zi (k : Int), .inr (ro + 1, i)]) rfl ?_
      refine zX.getf ⟨rfl, rfl⟩ (zup_n (zn (by omega)) H_ro_i) rfl rfl ?_
      refine zX.sn 1 (pc2 := 67) (l2 := [(0, .inr (ro, i)), (1, zi (k : Int)), (2, zi (j : Int))]) (st2 := [zi (j : Int), .inr (ro + 1, i), .inl (.int (fn k)), zi (k : Int), .inr (ro + 1, i)]) rfl ?_
      refine zX.iald (j := j) ⟨rfl, rfl⟩ (zup_n (zn (by omega)) H_ro_1_i) rfl (by omega) (by omega) ?_
      show zX _ 55 68 [(0, .inr (ro, i)), (1, zi (k : Int)), (2, zi (j : Int))] [.inl (.int (fn j)), .inl (.int (fn k)), zi (k : Int), .inr (ro + 1, i)] c s _ _
      refine zX.sn 1 (pc2 := 69) (l2 := [(0, .inr (ro, i)), (1, zi (k : Int)), (2, zi (j : Int))]) (st2 := [.inl (.int ((fn k) + (fn j))), zi (k : Int), .inr (ro + 1, i)]) rfl ?_
      refine zX.iast (j := k) ⟨rfl, rfl⟩ (zup_n (zn (by omega)) H_ro_1_i) (by omega) rfl (by omega) (by omega) ?_
      show zX _ 55 70 [(0, .inr (ro, i)), (1, zi (k : Int)), (2, zi (j : Int))] [] c s (xup (xup h (ro + 3, i) (.inr (0, L, zI (zfi fg k (fg j))))) (ro + 1, i) (.inr (0, L, zI (zfi fn k ((fn k) + (fn j)))))) _
      refine zX.sn 1 (pc2 := 71) (l2 := [(0, .inr (ro, i)), (1, zi (k : Int)), (2, zi (j : Int))]) (st2 := [.inr (ro, i)]) rfl ?_
      refine zX.getf ⟨rfl, rfl⟩ (zup_n (zn (by omega)) (zup_n (zn (by omega)) H_ro_i)) rfl rfl ?_
      refine zX.sn 1 (pc2 := 75) (l2 := [(0, .inr (ro, i)), (1, zi (k : Int)), (2, zi (j : Int))]) (st2 := [zi (k : Int), .inr (ro + 2, i)]) rfl ?_
      refine zX.sn 1 (pc2 := 76) (l2 := [(0, .inr (ro, i)), (1, zi (k : Int)), (2, zi (j : Int))]) (st2 := [zi (k : Int), .inr (ro + 2, i), zi (k : Int), .inr (ro + 2, i)]) rfl ?_
      refine zX.iald (j := k) ⟨rfl, rfl⟩ (zup_n (zn (by omega)) (zup_n (zn (by omega)) H_ro_2_i)) rfl (by omega) (by omega) ?_
      show zX _ 55 77 [(0, .inr (ro, i)), (1, zi (k : Int)), (2, zi (j : Int))] [.inl (.int (fs k)), zi (k : Int), .inr (ro + 2, i)] c s _ _
      refine zX.sn 1 (pc2 := 78) (l2 := [(0, .inr (ro, i)), (1, zi (k : Int)), (2, zi (j : Int))]) (st2 := [.inr (ro, i), .inl (.int (fs k)), zi (k : Int), .inr (ro + 2, i)]) rfl ?_
      refine zX.getf ⟨rfl, rfl⟩ (zup_n (zn (by omega)) (zup_n (zn (by omega)) H_ro_i)) rfl rfl ?_
      refine zX.sn 1 (pc2 := 82) (l2 := [(0, .inr (ro, i)), (1, zi (k : Int)), (2, zi (j : Int))]) (st2 := [zi (j : Int), .inr (ro + 2, i), .inl (.int (fs k)), zi (k : Int), .inr (ro + 2, i)]) rfl ?_
      refine zX.iald (j := j) ⟨rfl, rfl⟩ (zup_n (zn (by omega)) (zup_n (zn (by omega)) H_ro_2_i)) rfl (by omega) (by omega) ?_
      show zX _ 55 83 [(0, .inr (ro, i)), (1, zi (k : Int)), (2, zi (j : Int))] [.inl (.int (fs j)), .inl (.int (fs k)), zi (k : Int), .inr (ro + 2, i)] c s _ _
      refine zX.sn 1 (pc2 := 84) (l2 := [(0, .inr (ro, i)), (1, zi (k : Int)), (2, zi (j : Int))]) (st2 := [.inl (.int ((fs k) + (fs j))), zi (k : Int), .inr (ro + 2, i)]) rfl ?_
      refine zX.iast (j := k) ⟨rfl, rfl⟩ (zup_n (zn (by omega)) (zup_n (zn (by omega)) H_ro_2_i)) (by omega) rfl (by omega) (by omega) ?_
      show zX _ 55 85 [(0, .inr (ro, i)), (1, zi (k : Int)), (2, zi (j : Int))] [] c s (xup (xup (xup h (ro + 3, i) (.inr (0, L, zI (zfi fg k (fg j))))) (ro + 1, i) (.inr (0, L, zI (zfi fn k ((fn k) + (fn j)))))) (ro + 2, i) (.inr (0, L, zI (zfi fs k ((fs k) + (fs j)))))) _
      refine zX.ret rfl rfl ?_
      exact k3 e11 e14 _ (zup_n (zn (by omega)) (zup_n (zn (by omega)) zup_s)) (zup_n (zn (by omega)) zup_s) zup_s (fun za zb hn => (zup_n (zn (by omega)) (zup_n (zn (by omega)) (zup_n (zn (by omega)) rfl))))

set_option maxHeartbeats 4000000 in
theorem r_tclr {d c s : Nat} {h : xH} {Q : xR → Nat → Nat → xH → Prop} {ro i L k : Nat} {fn fs fg : Nat → Int32} (h0 : 0 < ro) (hL : L ≤ 67108864) (hk : k < L) (H_ro_i : h (ro, i) = some (.inl (7, [.inr (ro + 1, i), .inr (ro + 2, i), .inr (ro + 3, i)]))) (H_ro_1_i : h (ro + 1, i) = some (.inr (0, L, zI fn))) (H_ro_2_i : h (ro + 2, i) = some (.inr (0, L, zI fs))) (H_ro_3_i : h (ro + 3, i) = some (.inr (0, L, zI fg)))
    (k1 : ∀ h' : xH, h' (ro + 1, i) = some (.inr (0, L, zI (zfi fn k (Int32.ofInt 0)))) → h' (ro + 2, i) = some (.inr (0, L, zI (zfi fs k (Int32.ofInt 0)))) → h' (ro + 3, i) = some (.inr (0, L, zI (zfi fg k (Int32.ofInt 0)))) → (∀ za zb : Nat, ¬ ((za = ro + 1 ∧ zb = i) ∨ (za = ro + 2 ∧ zb = i) ∨ (za = ro + 3 ∧ zb = i)) → h' (za, zb) = h (za, zb)) → Q (.inl none) c s h') :
    zX (d + 1) 56 0 [(0, .inr (ro, i)), (1, zi (k : Int))] [] c s h Q := by
  refine zX.sn 1 (pc2 := 1) (l2 := [(0, .inr (ro, i)), (1, zi (k : Int))]) (st2 := [.inr (ro, i)]) rfl ?_
  refine zX.sn 1 (pc2 := 2) (l2 := [(0, .inr (ro, i)), (1, zi (k : Int))]) (st2 := [zi (k : Int), .inr (ro, i)]) rfl ?_
  refine zX.call (mid2 := 52) (as := [.inr (ro, i), zi (k : Int)]) (rest := []) ⟨rfl, rfl⟩ (fun _ => rfl) (zX.inv rfl H_ro_i rfl rfl) ⟨Nat.le_of_ble_eq_true rfl, Nat.le_of_ble_eq_true rfl⟩ ?_
  show zX _ 52 0 [(0, .inr (ro, i)), (1, zi (k : Int))] [] c s _ _
  refine zX.sn 1 (pc2 := 1) (l2 := [(0, .inr (ro, i)), (1, zi (k : Int))]) (st2 := [zi (k : Int)]) rfl ?_
  refine zX.icmp0 (tgt := 35) ⟨rfl, rfl⟩ rfl (by omega) (fun (zz : (k : Int) < 0) => absurd zz (by omega)) (fun (e1 : 0 ≤ (k : Int)) => ?_)
  refine zX.sn 1 (pc2 := 5) (l2 := [(0, .inr (ro, i)), (1, zi (k : Int))]) (st2 := [zi (k : Int)]) rfl ?_
  refine zX.sn 1 (pc2 := 6) (l2 := [(0, .inr (ro, i)), (1, zi (k : Int))]) (st2 := [.inr (ro, i), zi (k : Int)]) rfl ?_
  refine zX.getf ⟨rfl, rfl⟩ H_ro_i rfl rfl ?_
  refine zX.alen ⟨rfl, rfl⟩ H_ro_1_i ?_
  refine zX.icmp (tgt := 35) ⟨rfl, rfl⟩ rfl (by omega) (by omega) (fun (zz : (L : Int) ≤ (k : Int)) => absurd zz (by omega)) (fun (e2 : (k : Int) < (L : Int)) => ?_)
  refine zX.sn 1 (pc2 := 14) (l2 := [(0, .inr (ro, i)), (1, zi (k : Int))]) (st2 := [zi (k : Int)]) rfl ?_
  refine zX.sn 1 (pc2 := 15) (l2 := [(0, .inr (ro, i)), (1, zi (k : Int))]) (st2 := [.inr (ro, i), zi (k : Int)]) rfl ?_
  refine zX.getf ⟨rfl, rfl⟩ H_ro_i rfl rfl ?_
  refine zX.alen ⟨rfl, rfl⟩ H_ro_2_i ?_
  refine zX.icmp (tgt := 35) ⟨rfl, rfl⟩ rfl (by omega) (by omega) (fun (zz : (L : Int) ≤ (k : Int)) => absurd zz (by omega)) (fun (e3 : (k : Int) < (L : Int)) => ?_)
  refine zX.sn 1 (pc2 := 23) (l2 := [(0, .inr (ro, i)), (1, zi (k : Int))]) (st2 := [zi (k : Int)]) rfl ?_
  refine zX.sn 1 (pc2 := 24) (l2 := [(0, .inr (ro, i)), (1, zi (k : Int))]) (st2 := [.inr (ro, i), zi (k : Int)]) rfl ?_
  refine zX.getf ⟨rfl, rfl⟩ H_ro_i rfl rfl ?_
  refine zX.alen ⟨rfl, rfl⟩ H_ro_3_i ?_
  refine zX.icmp (tgt := 35) ⟨rfl, rfl⟩ rfl (by omega) (by omega) (fun (zz : (L : Int) ≤ (k : Int)) => absurd zz (by omega)) (fun (e4 : (k : Int) < (L : Int)) => ?_)
  refine zX.sn 1 (pc2 := 32) (l2 := [(0, .inr (ro, i)), (1, zi (k : Int))]) (st2 := [zi 1]) rfl ?_
  refine zX.sn 1 (pc2 := 36) (l2 := [(0, .inr (ro, i)), (1, zi (k : Int))]) (st2 := [zi 1]) rfl ?_
  refine zX.ret rfl (zret_z rfl (by decide)) ?_
  show zX _ 56 5 [(0, .inr (ro, i)), (1, zi (k : Int))] [zi 1] c s _ _
  refine zX.icmp0 (tgt := 29) ⟨rfl, rfl⟩ rfl (by omega) (fun (zz : 1 = 0) => absurd zz (by omega)) (fun (e5 : ¬ 1 = 0) => ?_)
  refine zX.sn 1 (pc2 := 9) (l2 := [(0, .inr (ro, i)), (1, zi (k : Int))]) (st2 := [.inr (ro, i)]) rfl ?_
  refine zX.getf ⟨rfl, rfl⟩ H_ro_i rfl rfl ?_
  refine zX.sn 1 (pc2 := 13) (l2 := [(0, .inr (ro, i)), (1, zi (k : Int))]) (st2 := [zi (k : Int), .inr (ro + 1, i)]) rfl ?_
  refine zX.sn 1 (pc2 := 14) (l2 := [(0, .inr (ro, i)), (1, zi (k : Int))]) (st2 := [zi 0, zi (k : Int), .inr (ro + 1, i)]) rfl ?_
  refine zX.iast (j := k) ⟨rfl, rfl⟩ H_ro_1_i (by omega) rfl (by omega) (by omega) ?_
  show zX _ 56 15 [(0, .inr (ro, i)), (1, zi (k : Int))] [] c s (xup h (ro + 1, i) (.inr (0, L, zI (zfi fn k (Int32.ofInt 0))))) _
  refine zX.sn 1 (pc2 := 16) (l2 := [(0, .inr (ro, i)), (1, zi (k : Int))]) (st2 := [.inr (ro, i)]) rfl ?_
  refine zX.getf ⟨rfl, rfl⟩ (zup_n (zn (by omega)) H_ro_i) rfl rfl ?_
  refine zX.sn 1 (pc2 := 20) (l2 := [(0, .inr (ro, i)), (1, zi (k : Int))]) (st2 := [zi (k : Int), .inr (ro + 2, i)]) rfl ?_
  refine zX.sn 1 (pc2 := 21) (l2 := [(0, .inr (ro, i)), (1, zi (k : Int))]) (st2 := [zi 0, zi (k : Int), .inr (ro + 2, i)]) rfl ?_
  refine zX.iast (j := k) ⟨rfl, rfl⟩ (zup_n (zn (by omega)) H_ro_2_i) (by omega) rfl (by omega) (by omega) ?_
  show zX _ 56 22 [(0, .inr (ro, i)), (1, zi (k : Int))] [] c s (xup (xup h (ro + 1, i) (.inr (0, L, zI (zfi fn k (Int32.ofInt 0))))) (ro + 2, i) (.inr (0, L, zI (zfi fs k (Int32.ofInt 0))))) _
  refine zX.sn 1 (pc2 := 23) (l2 := [(0, .inr (ro, i)), (1, zi (k : Int))]) (st2 := [.inr (ro, i)]) rfl ?_
  refine zX.getf ⟨rfl, rfl⟩ (zup_n (zn (by omega)) (zup_n (zn (by omega)) H_ro_i)) rfl rfl ?_
  refine zX.sn 1 (pc2 := 27) (l2 := [(0, .inr (ro, i)), (1, zi (k : Int))]) (st2 := [zi (k : Int), .inr (ro + 3, i)]) rfl ?_
  refine zX.sn 1 (pc2 := 28) (l2 := [(0, .inr (ro, i)), (1, zi (k : Int))]) (st2 := [zi 0, zi (k : Int), .inr (ro + 3, i)]) rfl ?_
  refine zX.iast (j := k) ⟨rfl, rfl⟩ (zup_n (zn (by omega)) (zup_n (zn (by omega)) H_ro_3_i)) (by omega) rfl (by omega) (by omega) ?_
  show zX _ 56 29 [(0, .inr (ro, i)), (1, zi (k : Int))] [] c s (xup (xup (xup h (ro + 1, i) (.inr (0, L, zI (zfi fn k (Int32.ofInt 0))))) (ro + 2, i) (.inr (0, L, zI (zfi fs k (Int32.ofInt 0))))) (ro + 3, i) (.inr (0, L, zI (zfi fg k (Int32.ofInt 0))))) _
  refine zX.ret rfl rfl ?_
  exact k1 _ (zup_n (zn (by omega)) (zup_n (zn (by omega)) zup_s)) (zup_n (zn (by omega)) zup_s) zup_s (fun za zb hn => (zup_n (zn (by omega)) (zup_n (zn (by omega)) (zup_n (zn (by omega)) rfl))))

end ZR43
