set_option maxRecDepth 100000
section ZP4
theorem zFr.freeS {h h1 : xH} {W : zWorld} {N : List (Nat × Nat)} {k : Nat} (hf : zFr N h h1) (hk : zFree k h) (hw : zWd h W) (is : List Nat) (e : N = is.filterMap (fun i => (W.map (fun p => p.1))[i]?)) : zFree k h1 := hf.free hk hw (zsl is e)
set_option maxHeartbeats 4000000 in
theorem w_tellW {d : Nat} {k0 c0 s0 : Nat} {h : xH} {Q : xR → xA → Prop} {v o q r a fr hd : Nat × Nat} {nu bs fi sz gr dr : Int32} {N z L : Nat} {fo fa : Nat → Int64} {rw ag : Nat × Nat} {me sp wi : Int32} {k : Nat} {y : Int64} (hL : L < 2147483647) (hN : N ≤ 320000) (hN0 : 0 < N) (hzN : z ≤ N) (hz : z + 2 < 320000) (hmy : k0 + 320000 < 390000 + N) (hk : k < L) (hy : y ≠ 0) (hfr : zFree k0 h) (hmx : k0 + 0 < zMax) (hw : zWd h [(v, .inl (9, [.inl (.int nu), .inl (.int bs), .inl (.int fi), .inl (.int sz), .inl (.int gr), .inr o, .inr r, .inr fr, .inr hd, .inl (.int dr), .inl (.int me), .inl (.int sp), .inl (.int wi), .inr rw, .inr ag])), (o, .inl (3, [.inr q, .inl (.int (Int32.ofNat z))])), (q, .inr (1, N, zJ fo)), (r, .inl (5, [.inr a, .inl (.int (Int32.ofNat (zcnt fa L)))])), (a, .inr (1, L, zJ fa))])
    (k1 : ∀ (ql2 : Nat × Nat), ∀ (N2 : Nat), ∀ (fo2 : Nat → Int64), ∀ (kk2 : Nat), ∀ (cc2 : Nat), ∀ (ss2 : Nat), ∀ h1, zWd h1 [(v, .inl (9, [.inl (.int nu), .inl (.int bs), .inl (.int fi), .inl (.int sz), .inl (.int gr), .inr o, .inr r, .inr fr, .inr hd, .inl (.int dr), .inl (.int me), .inl (.int sp), .inl (.int wi), .inr rw, .inr ag])), (o, .inl (3, [.inr ql2, .inl (.int (Int32.ofNat (z + 1)))])), (ql2, .inr (1, N2, zJ fo2)), (r, .inl (5, [.inr a, .inl (.int (Int32.ofNat (zcnt (zfi fa k y) L)))])), (a, .inr (1, L, zJ (zfi fa k y)))] → zFw [v, o, q, r, a] h h1 → zFree kk2 h1 → zOn [v, o, q, r, a] h ql2 → N ≤ N2 ∧ N2 ≤ 320000 ∧ z + 1 ≤ N2 → (∀ j, j < z → fo2 j = fo j) → fo2 z = y → (k0 ≤ kk2 ∧ kk2 + N ≤ k0 + N2 ∧ cc2 + N ≤ c0 + N2 ∧ ss2 + zB N ≤ s0 + zB N2) → Q (.inl none) (zNm kk2, cc2, ss2, h1)) :
    zW xPP (d + 2) 78 0 [(0, .inr v), (1, .inl (.int (Int32.ofNat k))), (2, .inl (.long y))] [] (zNm k0, c0, s0, h) Q := by
  refine zW.sn 1 (pc2 := 1) (l2 := [(0, .inr v), (1, .inl (.int (Int32.ofNat k))), (2, .inl (.long y))]) (st2 := [.inr v]) rfl ?_
  refine zW.getf ⟨rfl, rfl⟩ (hw.get 0 rfl) rfl rfl ?_
  refine zW.sn 1 (pc2 := 5) (l2 := [(0, .inr v), (1, .inl (.int (Int32.ofNat k))), (2, .inl (.long y))]) (st2 := [.inl (.int (Int32.ofNat k)), .inr r]) rfl ?_
  refine zW.sn 1 (pc2 := 6) (l2 := [(0, .inr v), (1, .inl (.int (Int32.ofNat k))), (2, .inl (.long y))]) (st2 := [.inl (.long y), .inl (.int (Int32.ofNat k)), .inr r]) rfl ?_
  refine zW.call (mid2 := 24) (as := [.inr r, .inl (.int (Int32.ofNat k)), .inl (.long y)]) (rest := []) ⟨rfl, rfl⟩ rfl (zinvV rfl (hw.get 3 rfl) rfl rfl) ⟨Nat.le_of_ble_eq_true rfl, Nat.le_of_ble_eq_true rfl⟩ ?_
  refine s_put hL hk hy (hw.sub [3, 4] rfl (by decide)) (fun h1 hv1 hg1 hn1 => ?_)
  have hr1 := hg1.freeS hfr hw [3, 4] rfl
  have hg1 := hg1.w hv1.pres
  have hw1 := hw.join2 [3, 4] rfl hv1 hn1 hg1
  have hf1 := zFw.tr (zFw.rf (N := [v, o, q, r, a])) hg1 (List.forall_mem_cons.mpr ⟨(zOn.of 3 rfl), List.forall_mem_cons.mpr ⟨(zOn.of 4 rfl), (fun _ z => by cases z)⟩⟩)
  show zW xPP _ 78 9 [(0, .inr v), (1, .inl (.int (Int32.ofNat k))), (2, .inl (.long y))] [] (zNm k0, c0, s0, h1) _
  refine zW.sn 1 (pc2 := 10) (l2 := [(0, .inr v), (1, .inl (.int (Int32.ofNat k))), (2, .inl (.long y))]) (st2 := [.inr v]) rfl ?_
  refine zW.getf ⟨rfl, rfl⟩ (hw1.get 0 rfl) rfl rfl ?_
  refine zW.sn 1 (pc2 := 14) (l2 := [(0, .inr v), (1, .inl (.int (Int32.ofNat k))), (2, .inl (.long y))]) (st2 := [.inl (.long y), .inr o]) rfl ?_
  refine zW.call (mid2 := 11) (as := [.inr o, .inl (.long y)]) (rest := []) ⟨rfl, rfl⟩ rfl (zinvV rfl (hw1.get 1 rfl) rfl rfl) ⟨Nat.le_of_ble_eq_true rfl, Nat.le_of_ble_eq_true rfl⟩ ?_
  refine s_oadd (by omega) (by omega) (by omega) (by omega) hr1 (by omega) (hw1.sub [1, 2] rfl (by decide)) (fun ql2 N2 fo2 kk2 cc2 ss2 h2 hv2 hg2 hr2 hn2 eN2 eo2 ex2 eb2 => ?_)
  have hw2 := hw1.join2 [1, 2] rfl hv2 hn2 hg2
  have hf2 := zFw.tr hf1 hg2 (List.forall_mem_cons.mpr ⟨(zOn.of 1 rfl), List.forall_mem_cons.mpr ⟨(zOn.of 2 rfl), (fun _ z => by cases z)⟩⟩)
  have ho2_q := zOn.sw hn2 hf1 1 rfl rfl (zOn.of 2 rfl)
  show zW xPP _ 78 17 [(0, .inr v), (1, .inl (.int (Int32.ofNat k))), (2, .inl (.long y))] [] (zNm kk2, cc2, ss2, h2) _
  refine zW.ret rfl rfl ?_
  exact k1 ql2 N2 fo2 kk2 cc2 ss2 _ hw2 hf2 hr2 ho2_q eN2 eo2 ex2 eb2

set_option maxHeartbeats 4000000 in
theorem w_tanewW {d : Nat} {k0 c0 s0 : Nat} {h : xH} {Q : xR → xA → Prop} {v o q r a fr hd : Nat × Nat} {nu bs fi sz gr dr : Int32} {N z L : Nat} {fo fa : Nat → Int64} {rw ag : Nat × Nat} {me sp wi : Int32} {j k : Nat} {y : Int64} (hL : L < 2147483647) (hN : N ≤ 320000) (hN0 : 0 < N) (hzN : z ≤ N) (hz : z + 2 < 320000) (hmy : k0 + 320000 < 390000 + N) (hj : j < L) (hk : k < L) (hy : y ≠ 0) (hfr : zFree k0 h) (hmx : k0 + 0 < zMax) (hw : zWd h [(v, .inl (9, [.inl (.int nu), .inl (.int bs), .inl (.int fi), .inl (.int sz), .inl (.int gr), .inr o, .inr r, .inr fr, .inr hd, .inl (.int dr), .inl (.int me), .inl (.int sp), .inl (.int wi), .inr rw, .inr ag])), (o, .inl (3, [.inr q, .inl (.int (Int32.ofNat z))])), (q, .inr (1, N, zJ fo)), (r, .inl (5, [.inr a, .inl (.int (Int32.ofNat (zcnt fa L)))])), (a, .inr (1, L, zJ fa))])
    (k1 : xcd .eq (lg_cmp (fa j) y) 0 = true → Q (.inl none) (zNm k0, c0, s0, h))
    (k2 : ∀ (ql4 : Nat × Nat), ∀ (N4 : Nat), ∀ (fo4 : Nat → Int64), ∀ (kk4 : Nat), ∀ (cc4 : Nat), ∀ (ss4 : Nat), ∀ h1, zWd h1 [(v, .inl (9, [.inl (.int nu), .inl (.int bs), .inl (.int fi), .inl (.int sz), .inl (.int gr), .inr o, .inr r, .inr fr, .inr hd, .inl (.int dr), .inl (.int me), .inl (.int sp), .inl (.int wi), .inr rw, .inr ag])), (o, .inl (3, [.inr ql4, .inl (.int (Int32.ofNat (z + 1)))])), (ql4, .inr (1, N4, zJ fo4)), (r, .inl (5, [.inr a, .inl (.int (Int32.ofNat (zcnt (zfi fa k y) L)))])), (a, .inr (1, L, zJ (zfi fa k y)))] → zFw [v, o, q, r, a] h h1 → zFree kk4 h1 → zOn [v, o, q, r, a] h ql4 → xcd .eq (lg_cmp (fa j) y) 0 = false → xcd .eq (lg_cmp (fa j) 0) 0 = true → N ≤ N4 ∧ N4 ≤ 320000 ∧ z + 1 ≤ N4 → (∀ j, j < z → fo4 j = fo j) → fo4 z = y → (k0 ≤ kk4 ∧ kk4 + N ≤ k0 + N4 ∧ cc4 + N ≤ c0 + N4 ∧ ss4 + zB N ≤ s0 + zB N4) → Q (.inl none) (zNm kk4, cc4, ss4, h1))
    (k3 : ∀ (ql6 : Nat × Nat), ∀ (N6 : Nat), ∀ (fo6 : Nat → Int64), ∀ (kk6 : Nat), ∀ (cc6 : Nat), ∀ (ss6 : Nat), ∀ (ql8 : Nat × Nat), ∀ (N8 : Nat), ∀ (fo8 : Nat → Int64), ∀ (kk8 : Nat), ∀ (cc8 : Nat), ∀ (ss8 : Nat), ∀ h1, zWd h1 [(v, .inl (9, [.inl (.int nu), .inl (.int bs), .inl (.int fi), .inl (.int sz), .inl (.int gr), .inr o, .inr r, .inr fr, .inr hd, .inl (.int dr), .inl (.int me), .inl (.int sp), .inl (.int wi), .inr rw, .inr ag])), (o, .inl (3, [.inr ql8, .inl (.int (Int32.ofNat ((z + 1) + 1)))])), (ql8, .inr (1, N8, zJ fo8)), (r, .inl (5, [.inr a, .inl (.int (Int32.ofNat (zcnt (zfi (zfi fa j 0) k y) L)))])), (a, .inr (1, L, zJ (zfi (zfi fa j 0) k y)))] → zFw [v, o, q, r, a] h h1 → zFree kk8 h1 → zOn [v, o, q, r, a] h ql8 → xcd .eq (lg_cmp (fa j) y) 0 = false → xcd .eq (lg_cmp (fa j) 0) 0 = false → N ≤ N6 ∧ N6 ≤ 320000 ∧ z + 1 ≤ N6 → (∀ j, j < z → fo6 j = fo j) → fo6 z = ((fa j) ||| (Int64.ofNat 1152921504606846976)) → (k0 ≤ kk6 ∧ kk6 + N ≤ k0 + N6 ∧ cc6 + N ≤ c0 + N6 ∧ ss6 + zB N ≤ s0 + zB N6) → N6 ≤ N8 ∧ N8 ≤ 320000 ∧ (z + 1) + 1 ≤ N8 → (∀ j, j < (z + 1) → fo8 j = fo6 j) → fo8 (z + 1) = y → (kk6 ≤ kk8 ∧ kk8 + N6 ≤ kk6 + N8 ∧ cc8 + N6 ≤ cc6 + N8 ∧ ss8 + zB N6 ≤ ss6 + zB N8) → Q (.inl none) (zNm kk8, cc8, ss8, h1)) :
    zW xPP (d + 3) 80 0 [(0, .inr v), (1, .inl (.int (Int32.ofNat j))), (2, .inl (.int (Int32.ofNat k))), (3, .inl (.long y))] [] (zNm k0, c0, s0, h) Q := by
  refine zW.sn 1 (pc2 := 1) (l2 := [(0, .inr v), (1, .inl (.int (Int32.ofNat j))), (2, .inl (.int (Int32.ofNat k))), (3, .inl (.long y))]) (st2 := [.inr v]) rfl ?_
  refine zW.getf ⟨rfl, rfl⟩ (hw.get 0 rfl) rfl rfl ?_
  refine zW.sn 1 (pc2 := 5) (l2 := [(0, .inr v), (1, .inl (.int (Int32.ofNat j))), (2, .inl (.int (Int32.ofNat k))), (3, .inl (.long y))]) (st2 := [.inl (.int (Int32.ofNat j)), .inr r]) rfl ?_
  refine zW.call (mid2 := 23) (as := [.inr r, .inl (.int (Int32.ofNat j))]) (rest := []) ⟨rfl, rfl⟩ rfl (zinvV rfl (hw.get 3 rfl) rfl rfl) ⟨Nat.le_of_ble_eq_true rfl, Nat.le_of_ble_eq_true rfl⟩ ?_
  refine s_at (by omega) hj (hw.sub [3, 4] rfl (by decide)) ?_
  show zW xPP _ 80 8 [(0, .inr v), (1, .inl (.int (Int32.ofNat j))), (2, .inl (.int (Int32.ofNat k))), (3, .inl (.long y))] [.inl (.long (fa j))] (zNm k0, c0, s0, h) _
  refine zW.sn 1 (pc2 := 9) (l2 := [(0, .inr v), (1, .inl (.int (Int32.ofNat j))), (2, .inl (.int (Int32.ofNat k))), (3, .inl (.long y))]) (st2 := [.inl (.long y), .inl (.long (fa j))]) rfl ?_
  refine zW.sn 1 (pc2 := 10) (l2 := [(0, .inr v), (1, .inl (.int (Int32.ofNat j))), (2, .inl (.int (Int32.ofNat k))), (3, .inl (.long y))]) (st2 := [.inl (.int (lg_cmp (fa j) y))]) rfl ?_
  refine zW.ifc (tgt := 24) ⟨rfl, rfl⟩ rfl (fun e1 => ?_) (fun e1 => ?_)
  · refine zW.ret rfl rfl ?_
    exact k1 e1
  · refine zW.sn 1 (pc2 := 14) (l2 := [(0, .inr v), (1, .inl (.int (Int32.ofNat j))), (2, .inl (.int (Int32.ofNat k))), (3, .inl (.long y))]) (st2 := [.inr v]) rfl ?_
    refine zW.sn 1 (pc2 := 15) (l2 := [(0, .inr v), (1, .inl (.int (Int32.ofNat j))), (2, .inl (.int (Int32.ofNat k))), (3, .inl (.long y))]) (st2 := [.inl (.int (Int32.ofNat j)), .inr v]) rfl ?_
    refine zW.call (mid2 := 79) (as := [.inr v, .inl (.int (Int32.ofNat j))]) (rest := []) ⟨rfl, rfl⟩ rfl (zinvV rfl (hw.get 0 rfl) rfl rfl) ⟨Nat.le_of_ble_eq_true rfl, Nat.le_of_ble_eq_true rfl⟩ ?_
    show zW xPP _ 79 0 [(0, .inr v), (1, .inl (.int (Int32.ofNat j)))] [] (zNm k0, c0, s0, h) _
    refine zW.sn 1 (pc2 := 1) (l2 := [(0, .inr v), (1, .inl (.int (Int32.ofNat j)))]) (st2 := [.inr v]) rfl ?_
    refine zW.getf ⟨rfl, rfl⟩ (hw.get 0 rfl) rfl rfl ?_
    refine zW.sn 1 (pc2 := 5) (l2 := [(0, .inr v), (1, .inl (.int (Int32.ofNat j)))]) (st2 := [.inl (.int (Int32.ofNat j)), .inr r]) rfl ?_
    refine zW.call (mid2 := 23) (as := [.inr r, .inl (.int (Int32.ofNat j))]) (rest := []) ⟨rfl, rfl⟩ rfl (zinvV rfl (hw.get 3 rfl) rfl rfl) ⟨Nat.le_of_ble_eq_true rfl, Nat.le_of_ble_eq_true rfl⟩ ?_
    refine s_at (by omega) hj (hw.sub [3, 4] rfl (by decide)) ?_
    show zW xPP _ 79 8 [(0, .inr v), (1, .inl (.int (Int32.ofNat j)))] [.inl (.long (fa j))] (zNm k0, c0, s0, h) _
    refine zW.sn 1 (pc2 := 9) (l2 := [(2, .inl (.long (fa j))), (0, .inr v), (1, .inl (.int (Int32.ofNat j)))]) (st2 := []) rfl ?_
    refine zW.sn 1 (pc2 := 10) (l2 := [(2, .inl (.long (fa j))), (0, .inr v), (1, .inl (.int (Int32.ofNat j)))]) (st2 := [.inl (.long (fa j))]) rfl ?_
    refine zW.sn 1 (pc2 := 11) (l2 := [(2, .inl (.long (fa j))), (0, .inr v), (1, .inl (.int (Int32.ofNat j)))]) (st2 := [.inl (.long 0), .inl (.long (fa j))]) rfl ?_
    refine zW.sn 1 (pc2 := 12) (l2 := [(2, .inl (.long (fa j))), (0, .inr v), (1, .inl (.int (Int32.ofNat j)))]) (st2 := [.inl (.int (lg_cmp (fa j) 0))]) rfl ?_
    refine zW.ifc (tgt := 35) ⟨rfl, rfl⟩ rfl (fun e2 => ?_) (fun e2 => ?_)
    · refine zW.ret rfl rfl ?_
      show zW xPP _ 80 18 [(0, .inr v), (1, .inl (.int (Int32.ofNat j))), (2, .inl (.int (Int32.ofNat k))), (3, .inl (.long y))] [] (zNm k0, c0, s0, h) _
      refine zW.sn 1 (pc2 := 19) (l2 := [(0, .inr v), (1, .inl (.int (Int32.ofNat j))), (2, .inl (.int (Int32.ofNat k))), (3, .inl (.long y))]) (st2 := [.inr v]) rfl ?_
      refine zW.sn 1 (pc2 := 20) (l2 := [(0, .inr v), (1, .inl (.int (Int32.ofNat j))), (2, .inl (.int (Int32.ofNat k))), (3, .inl (.long y))]) (st2 := [.inl (.int (Int32.ofNat k)), .inr v]) rfl ?_
      refine zW.sn 1 (pc2 := 21) (l2 := [(0, .inr v), (1, .inl (.int (Int32.ofNat j))), (2, .inl (.int (Int32.ofNat k))), (3, .inl (.long y))]) (st2 := [.inl (.long y), .inl (.int (Int32.ofNat k)), .inr v]) rfl ?_
      refine zW.call (mid2 := 78) (as := [.inr v, .inl (.int (Int32.ofNat k)), .inl (.long y)]) (rest := []) ⟨rfl, rfl⟩ rfl (zinvV rfl (hw.get 0 rfl) rfl rfl) ⟨Nat.le_of_ble_eq_true rfl, Nat.le_of_ble_eq_true rfl⟩ ?_
      show zW xPP _ 78 0 [(0, .inr v), (1, .inl (.int (Int32.ofNat k))), (2, .inl (.long y))] [] (zNm k0, c0, s0, h) _
      refine zW.sn 1 (pc2 := 1) (l2 := [(0, .inr v), (1, .inl (.int (Int32.ofNat k))), (2, .inl (.long y))]) (st2 := [.inr v]) rfl ?_
      refine zW.getf ⟨rfl, rfl⟩ (hw.get 0 rfl) rfl rfl ?_
      refine zW.sn 1 (pc2 := 5) (l2 := [(0, .inr v), (1, .inl (.int (Int32.ofNat k))), (2, .inl (.long y))]) (st2 := [.inl (.int (Int32.ofNat k)), .inr r]) rfl ?_
      refine zW.sn 1 (pc2 := 6) (l2 := [(0, .inr v), (1, .inl (.int (Int32.ofNat k))), (2, .inl (.long y))]) (st2 := [.inl (.long y), .inl (.int (Int32.ofNat k)), .inr r]) rfl ?_
      refine zW.call (mid2 := 24) (as := [.inr r, .inl (.int (Int32.ofNat k)), .inl (.long y)]) (rest := []) ⟨rfl, rfl⟩ rfl (zinvV rfl (hw.get 3 rfl) rfl rfl) ⟨Nat.le_of_ble_eq_true rfl, Nat.le_of_ble_eq_true rfl⟩ ?_
      refine s_put hL hk hy (hw.sub [3, 4] rfl (by decide)) (fun h3 hv3 hg3 hn3 => ?_)
      have hr3 := hg3.freeS hfr hw [3, 4] rfl
      have hg3 := hg3.w hv3.pres
      have hw3 := hw.join2 [3, 4] rfl hv3 hn3 hg3
      have hf3 := zFw.tr (zFw.rf (N := [v, o, q, r, a])) hg3 (List.forall_mem_cons.mpr ⟨(zOn.of 3 rfl), List.forall_mem_cons.mpr ⟨(zOn.of 4 rfl), (fun _ z => by cases z)⟩⟩)
      show zW xPP _ 78 9 [(0, .inr v), (1, .inl (.int (Int32.ofNat k))), (2, .inl (.long y))] [] (zNm k0, c0, s0, h3) _
      refine zW.sn 1 (pc2 := 10) (l2 := [(0, .inr v), (1, .inl (.int (Int32.ofNat k))), (2, .inl (.long y))]) (st2 := [.inr v]) rfl ?_
      refine zW.getf ⟨rfl, rfl⟩ (hw3.get 0 rfl) rfl rfl ?_
      refine zW.sn 1 (pc2 := 14) (l2 := [(0, .inr v), (1, .inl (.int (Int32.ofNat k))), (2, .inl (.long y))]) (st2 := [.inl (.long y), .inr o]) rfl ?_
      refine zW.call (mid2 := 11) (as := [.inr o, .inl (.long y)]) (rest := []) ⟨rfl, rfl⟩ rfl (zinvV rfl (hw3.get 1 rfl) rfl rfl) ⟨Nat.le_of_ble_eq_true rfl, Nat.le_of_ble_eq_true rfl⟩ ?_
      refine s_oadd (by omega) (by omega) (by omega) (by omega) hr3 (by omega) (hw3.sub [1, 2] rfl (by decide)) (fun ql4 N4 fo4 kk4 cc4 ss4 h4 hv4 hg4 hr4 hn4 eN4 eo4 ex4 eb4 => ?_)
      have hw4 := hw3.join2 [1, 2] rfl hv4 hn4 hg4
      have hf4 := zFw.tr hf3 hg4 (List.forall_mem_cons.mpr ⟨(zOn.of 1 rfl), List.forall_mem_cons.mpr ⟨(zOn.of 2 rfl), (fun _ z => by cases z)⟩⟩)
      have ho4_q := zOn.sw hn4 hf3 1 rfl rfl (zOn.of 2 rfl)
      show zW xPP _ 78 17 [(0, .inr v), (1, .inl (.int (Int32.ofNat k))), (2, .inl (.long y))] [] (zNm kk4, cc4, ss4, h4) _
      refine zW.ret rfl rfl ?_
      show zW xPP _ 80 24 [(0, .inr v), (1, .inl (.int (Int32.ofNat j))), (2, .inl (.int (Int32.ofNat k))), (3, .inl (.long y))] [] (zNm kk4, cc4, ss4, h4) _
      refine zW.ret rfl rfl ?_
      exact k2 ql4 N4 fo4 kk4 cc4 ss4 _ hw4 hf4 hr4 ho4_q e1 e2 eN4 eo4 ex4 eb4
    · refine zW.sn 1 (pc2 := 16) (l2 := [(2, .inl (.long (fa j))), (0, .inr v), (1, .inl (.int (Int32.ofNat j)))]) (st2 := [.inr v]) rfl ?_
      refine zW.getf ⟨rfl, rfl⟩ (hw.get 0 rfl) rfl rfl ?_
      refine zW.sn 1 (pc2 := 20) (l2 := [(2, .inl (.long (fa j))), (0, .inr v), (1, .inl (.int (Int32.ofNat j)))]) (st2 := [.inl (.int (Int32.ofNat j)), .inr r]) rfl ?_
      refine zW.call (mid2 := 25) (as := [.inr r, .inl (.int (Int32.ofNat j))]) (rest := []) ⟨rfl, rfl⟩ rfl (zinvV rfl (hw.get 3 rfl) rfl rfl) ⟨Nat.le_of_ble_eq_true rfl, Nat.le_of_ble_eq_true rfl⟩ ?_
      refine s_clr hL hj (hw.sub [3, 4] rfl (by decide)) (fun h5 hv5 hg5 hn5 => ?_)
      have hr5 := hg5.freeS hfr hw [3, 4] rfl
      have hg5 := hg5.w hv5.pres
      have hw5 := hw.join2 [3, 4] rfl hv5 hn5 hg5
      have hf5 := zFw.tr (zFw.rf (N := [v, o, q, r, a])) hg5 (List.forall_mem_cons.mpr ⟨(zOn.of 3 rfl), List.forall_mem_cons.mpr ⟨(zOn.of 4 rfl), (fun _ z => by cases z)⟩⟩)
      show zW xPP _ 79 23 [(2, .inl (.long (fa j))), (0, .inr v), (1, .inl (.int (Int32.ofNat j)))] [] (zNm k0, c0, s0, h5) _
      refine zW.sn 1 (pc2 := 24) (l2 := [(2, .inl (.long (fa j))), (0, .inr v), (1, .inl (.int (Int32.ofNat j)))]) (st2 := [.inr v]) rfl ?_
      refine zW.getf ⟨rfl, rfl⟩ (hw5.get 0 rfl) rfl rfl ?_
      refine zW.sn 1 (pc2 := 28) (l2 := [(2, .inl (.long (fa j))), (0, .inr v), (1, .inl (.int (Int32.ofNat j)))]) (st2 := [.inl (.long (fa j)), .inr o]) rfl ?_
      refine zW.s2 ⟨rfl, rfl⟩ (fun _ => rfl) rfl rfl ?_
      refine zW.sn 1 (pc2 := 32) (l2 := [(2, .inl (.long (fa j))), (0, .inr v), (1, .inl (.int (Int32.ofNat j)))]) (st2 := [.inl (.long ((fa j) ||| (Int64.ofNat 1152921504606846976))), .inr o]) rfl ?_
      refine zW.call (mid2 := 11) (as := [.inr o, .inl (.long ((fa j) ||| (Int64.ofNat 1152921504606846976)))]) (rest := []) ⟨rfl, rfl⟩ rfl (zinvV rfl (hw5.get 1 rfl) rfl rfl) ⟨Nat.le_of_ble_eq_true rfl, Nat.le_of_ble_eq_true rfl⟩ ?_
      refine s_oadd (by omega) (by omega) (by omega) (by omega) hr5 (by omega) (hw5.sub [1, 2] rfl (by decide)) (fun ql6 N6 fo6 kk6 cc6 ss6 h6 hv6 hg6 hr6 hn6 eN6 eo6 ex6 eb6 => ?_)
      have hw6 := hw5.join2 [1, 2] rfl hv6 hn6 hg6
      have hf6 := zFw.tr hf5 hg6 (List.forall_mem_cons.mpr ⟨(zOn.of 1 rfl), List.forall_mem_cons.mpr ⟨(zOn.of 2 rfl), (fun _ z => by cases z)⟩⟩)
      have ho6_q := zOn.sw hn6 hf5 1 rfl rfl (zOn.of 2 rfl)
      show zW xPP _ 79 35 [(2, .inl (.long (fa j))), (0, .inr v), (1, .inl (.int (Int32.ofNat j)))] [] (zNm kk6, cc6, ss6, h6) _
      refine zW.ret rfl rfl ?_
      show zW xPP _ 80 18 [(0, .inr v), (1, .inl (.int (Int32.ofNat j))), (2, .inl (.int (Int32.ofNat k))), (3, .inl (.long y))] [] (zNm kk6, cc6, ss6, h6) _
      refine zW.sn 1 (pc2 := 19) (l2 := [(0, .inr v), (1, .inl (.int (Int32.ofNat j))), (2, .inl (.int (Int32.ofNat k))), (3, .inl (.long y))]) (st2 := [.inr v]) rfl ?_
      refine zW.sn 1 (pc2 := 20) (l2 := [(0, .inr v), (1, .inl (.int (Int32.ofNat j))), (2, .inl (.int (Int32.ofNat k))), (3, .inl (.long y))]) (st2 := [.inl (.int (Int32.ofNat k)), .inr v]) rfl ?_
      refine zW.sn 1 (pc2 := 21) (l2 := [(0, .inr v), (1, .inl (.int (Int32.ofNat j))), (2, .inl (.int (Int32.ofNat k))), (3, .inl (.long y))]) (st2 := [.inl (.long y), .inl (.int (Int32.ofNat k)), .inr v]) rfl ?_
      refine zW.call (mid2 := 78) (as := [.inr v, .inl (.int (Int32.ofNat k)), .inl (.long y)]) (rest := []) ⟨rfl, rfl⟩ rfl (zinvV rfl (hw6.get 0 rfl) rfl rfl) ⟨Nat.le_of_ble_eq_true rfl, Nat.le_of_ble_eq_true rfl⟩ ?_
      show zW xPP _ 78 0 [(0, .inr v), (1, .inl (.int (Int32.ofNat k))), (2, .inl (.long y))] [] (zNm kk6, cc6, ss6, h6) _
      refine zW.sn 1 (pc2 := 1) (l2 := [(0, .inr v), (1, .inl (.int (Int32.ofNat k))), (2, .inl (.long y))]) (st2 := [.inr v]) rfl ?_
      refine zW.getf ⟨rfl, rfl⟩ (hw6.get 0 rfl) rfl rfl ?_
      refine zW.sn 1 (pc2 := 5) (l2 := [(0, .inr v), (1, .inl (.int (Int32.ofNat k))), (2, .inl (.long y))]) (st2 := [.inl (.int (Int32.ofNat k)), .inr r]) rfl ?_
      refine zW.sn 1 (pc2 := 6) (l2 := [(0, .inr v), (1, .inl (.int (Int32.ofNat k))), (2, .inl (.long y))]) (st2 := [.inl (.long y), .inl (.int (Int32.ofNat k)), .inr r]) rfl ?_
      refine zW.call (mid2 := 24) (as := [.inr r, .inl (.int (Int32.ofNat k)), .inl (.long y)]) (rest := []) ⟨rfl, rfl⟩ rfl (zinvV rfl (hw6.get 3 rfl) rfl rfl) ⟨Nat.le_of_ble_eq_true rfl, Nat.le_of_ble_eq_true rfl⟩ ?_
      refine s_put hL hk hy (hw6.sub [3, 4] rfl (by decide)) (fun h7 hv7 hg7 hn7 => ?_)
      have hr7 := hg7.freeS hr6 hw6 [3, 4] rfl
      have hg7 := hg7.w hv7.pres
      have hw7 := hw6.join2 [3, 4] rfl hv7 hn7 hg7
      have hf7 := zFw.tr hf6 hg7 (List.forall_mem_cons.mpr ⟨(zOn.of 3 rfl), List.forall_mem_cons.mpr ⟨(zOn.of 4 rfl), (fun _ z => by cases z)⟩⟩)
      show zW xPP _ 78 9 [(0, .inr v), (1, .inl (.int (Int32.ofNat k))), (2, .inl (.long y))] [] (zNm kk6, cc6, ss6, h7) _
      refine zW.sn 1 (pc2 := 10) (l2 := [(0, .inr v), (1, .inl (.int (Int32.ofNat k))), (2, .inl (.long y))]) (st2 := [.inr v]) rfl ?_
      refine zW.getf ⟨rfl, rfl⟩ (hw7.get 0 rfl) rfl rfl ?_
      refine zW.sn 1 (pc2 := 14) (l2 := [(0, .inr v), (1, .inl (.int (Int32.ofNat k))), (2, .inl (.long y))]) (st2 := [.inl (.long y), .inr o]) rfl ?_
      refine zW.call (mid2 := 11) (as := [.inr o, .inl (.long y)]) (rest := []) ⟨rfl, rfl⟩ rfl (zinvV rfl (hw7.get 1 rfl) rfl rfl) ⟨Nat.le_of_ble_eq_true rfl, Nat.le_of_ble_eq_true rfl⟩ ?_
      refine s_oadd (by omega) (by omega) (by omega) (by omega) hr7 (by omega) (hw7.sub [1, 2] rfl (by decide)) (fun ql8 N8 fo8 kk8 cc8 ss8 h8 hv8 hg8 hr8 hn8 eN8 eo8 ex8 eb8 => ?_)
      have hw8 := hw7.join2 [1, 2] rfl hv8 hn8 hg8
      have hf8 := zFw.tr hf7 hg8 (List.forall_mem_cons.mpr ⟨(zOn.of 1 rfl), List.forall_mem_cons.mpr ⟨ho6_q, (fun _ z => by cases z)⟩⟩)
      have ho8_q := zOn.sw hn8 hf7 1 rfl rfl ho6_q
      show zW xPP _ 78 17 [(0, .inr v), (1, .inl (.int (Int32.ofNat k))), (2, .inl (.long y))] [] (zNm kk8, cc8, ss8, h8) _
      refine zW.ret rfl rfl ?_
      show zW xPP _ 80 24 [(0, .inr v), (1, .inl (.int (Int32.ofNat j))), (2, .inl (.int (Int32.ofNat k))), (3, .inl (.long y))] [] (zNm kk8, cc8, ss8, h8) _
      refine zW.ret rfl rfl ?_
      exact k3 ql6 N6 fo6 kk6 cc6 ss6 ql8 N8 fo8 kk8 cc8 ss8 _ hw8 hf8 hr8 ho8_q e1 e2 eN6 eo6 ex6 eb6 eN8 eo8 ex8 eb8

set_option maxHeartbeats 4000000 in
theorem w_tellS {d : Nat} {k0 c0 s0 : Nat} {h : xH} {Q : xR → xA → Prop} {v o q r a fr hd : Nat × Nat} {nu bs fi sz gr dr : Int32} {N z L : Nat} {fo fa : Nat → Int64} {rw ag fs jo : Nat × Nat} {me : Int32} {k : Nat} {y : Int64} (hL : L < 2147483647) (hN : N ≤ 320000) (hN0 : 0 < N) (hzN : z ≤ N) (hz : z + 2 < 320000) (hmy : k0 + 320000 < 390000 + N) (hk : k < L) (hy : y ≠ 0) (hfr : zFree k0 h) (hmx : k0 + 0 < zMax) (hw : zWd h [(v, .inl (6, [.inl (.int nu), .inl (.int bs), .inl (.int fi), .inl (.int sz), .inl (.int gr), .inr o, .inr r, .inr fr, .inr hd, .inl (.int dr), .inl (.int me), .inr rw, .inr ag, .inr fs, .inr jo])), (o, .inl (3, [.inr q, .inl (.int (Int32.ofNat z))])), (q, .inr (1, N, zJ fo)), (r, .inl (5, [.inr a, .inl (.int (Int32.ofNat (zcnt fa L)))])), (a, .inr (1, L, zJ fa))])
    (k1 : ∀ (ql2 : Nat × Nat), ∀ (N2 : Nat), ∀ (fo2 : Nat → Int64), ∀ (kk2 : Nat), ∀ (cc2 : Nat), ∀ (ss2 : Nat), ∀ h1, zWd h1 [(v, .inl (6, [.inl (.int nu), .inl (.int bs), .inl (.int fi), .inl (.int sz), .inl (.int gr), .inr o, .inr r, .inr fr, .inr hd, .inl (.int dr), .inl (.int me), .inr rw, .inr ag, .inr fs, .inr jo])), (o, .inl (3, [.inr ql2, .inl (.int (Int32.ofNat (z + 1)))])), (ql2, .inr (1, N2, zJ fo2)), (r, .inl (5, [.inr a, .inl (.int (Int32.ofNat (zcnt (zfi fa k y) L)))])), (a, .inr (1, L, zJ (zfi fa k y)))] → zFw [v, o, q, r, a] h h1 → zFree kk2 h1 → zOn [v, o, q, r, a] h ql2 → N ≤ N2 ∧ N2 ≤ 320000 ∧ z + 1 ≤ N2 → (∀ j, j < z → fo2 j = fo j) → fo2 z = y → (k0 ≤ kk2 ∧ kk2 + N ≤ k0 + N2 ∧ cc2 + N ≤ c0 + N2 ∧ ss2 + zB N ≤ s0 + zB N2) → Q (.inl none) (zNm kk2, cc2, ss2, h1)) :
    zW xPP (d + 2) 78 0 [(0, .inr v), (1, .inl (.int (Int32.ofNat k))), (2, .inl (.long y))] [] (zNm k0, c0, s0, h) Q := by
  refine zW.sn 1 (pc2 := 1) (l2 := [(0, .inr v), (1, .inl (.int (Int32.ofNat k))), (2, .inl (.long y))]) (st2 := [.inr v]) rfl ?_
  refine zW.getf ⟨rfl, rfl⟩ (hw.get 0 rfl) rfl rfl ?_
  refine zW.sn 1 (pc2 := 5) (l2 := [(0, .inr v), (1, .inl (.int (Int32.ofNat k))), (2, .inl (.long y))]) (st2 := [.inl (.int (Int32.ofNat k)), .inr r]) rfl ?_
  refine zW.sn 1 (pc2 := 6) (l2 := [(0, .inr v), (1, .inl (.int (Int32.ofNat k))), (2, .inl (.long y))]) (st2 := [.inl (.long y), .inl (.int (Int32.ofNat k)), .inr r]) rfl ?_
  refine zW.call (mid2 := 24) (as := [.inr r, .inl (.int (Int32.ofNat k)), .inl (.long y)]) (rest := []) ⟨rfl, rfl⟩ rfl (zinvV rfl (hw.get 3 rfl) rfl rfl) ⟨Nat.le_of_ble_eq_true rfl, Nat.le_of_ble_eq_true rfl⟩ ?_
  refine s_put hL hk hy (hw.sub [3, 4] rfl (by decide)) (fun h1 hv1 hg1 hn1 => ?_)
  have hr1 := hg1.freeS hfr hw [3, 4] rfl
  have hg1 := hg1.w hv1.pres
  have hw1 := hw.join2 [3, 4] rfl hv1 hn1 hg1
  have hf1 := zFw.tr (zFw.rf (N := [v, o, q, r, a])) hg1 (List.forall_mem_cons.mpr ⟨(zOn.of 3 rfl), List.forall_mem_cons.mpr ⟨(zOn.of 4 rfl), (fun _ z => by cases z)⟩⟩)
  show zW xPP _ 78 9 [(0, .inr v), (1, .inl (.int (Int32.ofNat k))), (2, .inl (.long y))] [] (zNm k0, c0, s0, h1) _
  refine zW.sn 1 (pc2 := 10) (l2 := [(0, .inr v), (1, .inl (.int (Int32.ofNat k))), (2, .inl (.long y))]) (st2 := [.inr v]) rfl ?_
  refine zW.getf ⟨rfl, rfl⟩ (hw1.get 0 rfl) rfl rfl ?_
  refine zW.sn 1 (pc2 := 14) (l2 := [(0, .inr v), (1, .inl (.int (Int32.ofNat k))), (2, .inl (.long y))]) (st2 := [.inl (.long y), .inr o]) rfl ?_
  refine zW.call (mid2 := 11) (as := [.inr o, .inl (.long y)]) (rest := []) ⟨rfl, rfl⟩ rfl (zinvV rfl (hw1.get 1 rfl) rfl rfl) ⟨Nat.le_of_ble_eq_true rfl, Nat.le_of_ble_eq_true rfl⟩ ?_
  refine s_oadd (by omega) (by omega) (by omega) (by omega) hr1 (by omega) (hw1.sub [1, 2] rfl (by decide)) (fun ql2 N2 fo2 kk2 cc2 ss2 h2 hv2 hg2 hr2 hn2 eN2 eo2 ex2 eb2 => ?_)
  have hw2 := hw1.join2 [1, 2] rfl hv2 hn2 hg2
  have hf2 := zFw.tr hf1 hg2 (List.forall_mem_cons.mpr ⟨(zOn.of 1 rfl), List.forall_mem_cons.mpr ⟨(zOn.of 2 rfl), (fun _ z => by cases z)⟩⟩)
  have ho2_q := zOn.sw hn2 hf1 1 rfl rfl (zOn.of 2 rfl)
  show zW xPP _ 78 17 [(0, .inr v), (1, .inl (.int (Int32.ofNat k))), (2, .inl (.long y))] [] (zNm kk2, cc2, ss2, h2) _
  refine zW.ret rfl rfl ?_
  exact k1 ql2 N2 fo2 kk2 cc2 ss2 _ hw2 hf2 hr2 ho2_q eN2 eo2 ex2 eb2

set_option maxHeartbeats 4000000 in
theorem w_tanewS {d : Nat} {k0 c0 s0 : Nat} {h : xH} {Q : xR → xA → Prop} {v o q r a fr hd : Nat × Nat} {nu bs fi sz gr dr : Int32} {N z L : Nat} {fo fa : Nat → Int64} {rw ag fs jo : Nat × Nat} {me : Int32} {j k : Nat} {y : Int64} (hL : L < 2147483647) (hN : N ≤ 320000) (hN0 : 0 < N) (hzN : z ≤ N) (hz : z + 2 < 320000) (hmy : k0 + 320000 < 390000 + N) (hj : j < L) (hk : k < L) (hy : y ≠ 0) (hfr : zFree k0 h) (hmx : k0 + 0 < zMax) (hw : zWd h [(v, .inl (6, [.inl (.int nu), .inl (.int bs), .inl (.int fi), .inl (.int sz), .inl (.int gr), .inr o, .inr r, .inr fr, .inr hd, .inl (.int dr), .inl (.int me), .inr rw, .inr ag, .inr fs, .inr jo])), (o, .inl (3, [.inr q, .inl (.int (Int32.ofNat z))])), (q, .inr (1, N, zJ fo)), (r, .inl (5, [.inr a, .inl (.int (Int32.ofNat (zcnt fa L)))])), (a, .inr (1, L, zJ fa))])
    (k1 : xcd .eq (lg_cmp (fa j) y) 0 = true → Q (.inl none) (zNm k0, c0, s0, h))
    (k2 : ∀ (ql4 : Nat × Nat), ∀ (N4 : Nat), ∀ (fo4 : Nat → Int64), ∀ (kk4 : Nat), ∀ (cc4 : Nat), ∀ (ss4 : Nat), ∀ h1, zWd h1 [(v, .inl (6, [.inl (.int nu), .inl (.int bs), .inl (.int fi), .inl (.int sz), .inl (.int gr), .inr o, .inr r, .inr fr, .inr hd, .inl (.int dr), .inl (.int me), .inr rw, .inr ag, .inr fs, .inr jo])), (o, .inl (3, [.inr ql4, .inl (.int (Int32.ofNat (z + 1)))])), (ql4, .inr (1, N4, zJ fo4)), (r, .inl (5, [.inr a, .inl (.int (Int32.ofNat (zcnt (zfi fa k y) L)))])), (a, .inr (1, L, zJ (zfi fa k y)))] → zFw [v, o, q, r, a] h h1 → zFree kk4 h1 → zOn [v, o, q, r, a] h ql4 → xcd .eq (lg_cmp (fa j) y) 0 = false → xcd .eq (lg_cmp (fa j) 0) 0 = true → N ≤ N4 ∧ N4 ≤ 320000 ∧ z + 1 ≤ N4 → (∀ j, j < z → fo4 j = fo j) → fo4 z = y → (k0 ≤ kk4 ∧ kk4 + N ≤ k0 + N4 ∧ cc4 + N ≤ c0 + N4 ∧ ss4 + zB N ≤ s0 + zB N4) → Q (.inl none) (zNm kk4, cc4, ss4, h1))
    (k3 : ∀ (ql6 : Nat × Nat), ∀ (N6 : Nat), ∀ (fo6 : Nat → Int64), ∀ (kk6 : Nat), ∀ (cc6 : Nat), ∀ (ss6 : Nat), ∀ (ql8 : Nat × Nat), ∀ (N8 : Nat), ∀ (fo8 : Nat → Int64), ∀ (kk8 : Nat), ∀ (cc8 : Nat), ∀ (ss8 : Nat), ∀ h1, zWd h1 [(v, .inl (6, [.inl (.int nu), .inl (.int bs), .inl (.int fi), .inl (.int sz), .inl (.int gr), .inr o, .inr r, .inr fr, .inr hd, .inl (.int dr), .inl (.int me), .inr rw, .inr ag, .inr fs, .inr jo])), (o, .inl (3, [.inr ql8, .inl (.int (Int32.ofNat ((z + 1) + 1)))])), (ql8, .inr (1, N8, zJ fo8)), (r, .inl (5, [.inr a, .inl (.int (Int32.ofNat (zcnt (zfi (zfi fa j 0) k y) L)))])), (a, .inr (1, L, zJ (zfi (zfi fa j 0) k y)))] → zFw [v, o, q, r, a] h h1 → zFree kk8 h1 → zOn [v, o, q, r, a] h ql8 → xcd .eq (lg_cmp (fa j) y) 0 = false → xcd .eq (lg_cmp (fa j) 0) 0 = false → N ≤ N6 ∧ N6 ≤ 320000 ∧ z + 1 ≤ N6 → (∀ j, j < z → fo6 j = fo j) → fo6 z = ((fa j) ||| (Int64.ofNat 1152921504606846976)) → (k0 ≤ kk6 ∧ kk6 + N ≤ k0 + N6 ∧ cc6 + N ≤ c0 + N6 ∧ ss6 + zB N ≤ s0 + zB N6) → N6 ≤ N8 ∧ N8 ≤ 320000 ∧ (z + 1) + 1 ≤ N8 → (∀ j, j < (z + 1) → fo8 j = fo6 j) → fo8 (z + 1) = y → (kk6 ≤ kk8 ∧ kk8 + N6 ≤ kk6 + N8 ∧ cc8 + N6 ≤ cc6 + N8 ∧ ss8 + zB N6 ≤ ss6 + zB N8) → Q (.inl none) (zNm kk8, cc8, ss8, h1)) :
    zW xPP (d + 3) 80 0 [(0, .inr v), (1, .inl (.int (Int32.ofNat j))), (2, .inl (.int (Int32.ofNat k))), (3, .inl (.long y))] [] (zNm k0, c0, s0, h) Q := by
  refine zW.sn 1 (pc2 := 1) (l2 := [(0, .inr v), (1, .inl (.int (Int32.ofNat j))), (2, .inl (.int (Int32.ofNat k))), (3, .inl (.long y))]) (st2 := [.inr v]) rfl ?_
  refine zW.getf ⟨rfl, rfl⟩ (hw.get 0 rfl) rfl rfl ?_
  refine zW.sn 1 (pc2 := 5) (l2 := [(0, .inr v), (1, .inl (.int (Int32.ofNat j))), (2, .inl (.int (Int32.ofNat k))), (3, .inl (.long y))]) (st2 := [.inl (.int (Int32.ofNat j)), .inr r]) rfl ?_
  refine zW.call (mid2 := 23) (as := [.inr r, .inl (.int (Int32.ofNat j))]) (rest := []) ⟨rfl, rfl⟩ rfl (zinvV rfl (hw.get 3 rfl) rfl rfl) ⟨Nat.le_of_ble_eq_true rfl, Nat.le_of_ble_eq_true rfl⟩ ?_
  refine s_at (by omega) hj (hw.sub [3, 4] rfl (by decide)) ?_
  show zW xPP _ 80 8 [(0, .inr v), (1, .inl (.int (Int32.ofNat j))), (2, .inl (.int (Int32.ofNat k))), (3, .inl (.long y))] [.inl (.long (fa j))] (zNm k0, c0, s0, h) _
  refine zW.sn 1 (pc2 := 9) (l2 := [(0, .inr v), (1, .inl (.int (Int32.ofNat j))), (2, .inl (.int (Int32.ofNat k))), (3, .inl (.long y))]) (st2 := [.inl (.long y), .inl (.long (fa j))]) rfl ?_
  refine zW.sn 1 (pc2 := 10) (l2 := [(0, .inr v), (1, .inl (.int (Int32.ofNat j))), (2, .inl (.int (Int32.ofNat k))), (3, .inl (.long y))]) (st2 := [.inl (.int (lg_cmp (fa j) y))]) rfl ?_
  refine zW.ifc (tgt := 24) ⟨rfl, rfl⟩ rfl (fun e1 => ?_) (fun e1 => ?_)
  · refine zW.ret rfl rfl ?_
    exact k1 e1
  · refine zW.sn 1 (pc2 := 14) (l2 := [(0, .inr v), (1, .inl (.int (Int32.ofNat j))), (2, .inl (.int (Int32.ofNat k))), (3, .inl (.long y))]) (st2 := [.inr v]) rfl ?_
    refine zW.sn 1 (pc2 := 15) (l2 := [(0, .inr v), (1, .inl (.int (Int32.ofNat j))), (2, .inl (.int (Int32.ofNat k))), (3, .inl (.long y))]) (st2 := [.inl (.int (Int32.ofNat j)), .inr v]) rfl ?_
    refine zW.call (mid2 := 79) (as := [.inr v, .inl (.int (Int32.ofNat j))]) (rest := []) ⟨rfl, rfl⟩ rfl (zinvV rfl (hw.get 0 rfl) rfl rfl) ⟨Nat.le_of_ble_eq_true rfl, Nat.le_of_ble_eq_true rfl⟩ ?_
    show zW xPP _ 79 0 [(0, .inr v), (1, .inl (.int (Int32.ofNat j)))] [] (zNm k0, c0, s0, h) _
    refine zW.sn 1 (pc2 := 1) (l2 := [(0, .inr v), (1, .inl (.int (Int32.ofNat j)))]) (st2 := [.inr v]) rfl ?_
    refine zW.getf ⟨rfl, rfl⟩ (hw.get 0 rfl) rfl rfl ?_
    refine zW.sn 1 (pc2 := 5) (l2 := [(0, .inr v), (1, .inl (.int (Int32.ofNat j)))]) (st2 := [.inl (.int (Int32.ofNat j)), .inr r]) rfl ?_
    refine zW.call (mid2 := 23) (as := [.inr r, .inl (.int (Int32.ofNat j))]) (rest := []) ⟨rfl, rfl⟩ rfl (zinvV rfl (hw.get 3 rfl) rfl rfl) ⟨Nat.le_of_ble_eq_true rfl, Nat.le_of_ble_eq_true rfl⟩ ?_
    refine s_at (by omega) hj (hw.sub [3, 4] rfl (by decide)) ?_
    show zW xPP _ 79 8 [(0, .inr v), (1, .inl (.int (Int32.ofNat j)))] [.inl (.long (fa j))] (zNm k0, c0, s0, h) _
    refine zW.sn 1 (pc2 := 9) (l2 := [(2, .inl (.long (fa j))), (0, .inr v), (1, .inl (.int (Int32.ofNat j)))]) (st2 := []) rfl ?_
    refine zW.sn 1 (pc2 := 10) (l2 := [(2, .inl (.long (fa j))), (0, .inr v), (1, .inl (.int (Int32.ofNat j)))]) (st2 := [.inl (.long (fa j))]) rfl ?_
    refine zW.sn 1 (pc2 := 11) (l2 := [(2, .inl (.long (fa j))), (0, .inr v), (1, .inl (.int (Int32.ofNat j)))]) (st2 := [.inl (.long 0), .inl (.long (fa j))]) rfl ?_
    refine zW.sn 1 (pc2 := 12) (l2 := [(2, .inl (.long (fa j))), (0, .inr v), (1, .inl (.int (Int32.ofNat j)))]) (st2 := [.inl (.int (lg_cmp (fa j) 0))]) rfl ?_
    refine zW.ifc (tgt := 35) ⟨rfl, rfl⟩ rfl (fun e2 => ?_) (fun e2 => ?_)
    · refine zW.ret rfl rfl ?_
      show zW xPP _ 80 18 [(0, .inr v), (1, .inl (.int (Int32.ofNat j))), (2, .inl (.int (Int32.ofNat k))), (3, .inl (.long y))] [] (zNm k0, c0, s0, h) _
      refine zW.sn 1 (pc2 := 19) (l2 := [(0, .inr v), (1, .inl (.int (Int32.ofNat j))), (2, .inl (.int (Int32.ofNat k))), (3, .inl (.long y))]) (st2 := [.inr v]) rfl ?_
      refine zW.sn 1 (pc2 := 20) (l2 := [(0, .inr v), (1, .inl (.int (Int32.ofNat j))), (2, .inl (.int (Int32.ofNat k))), (3, .inl (.long y))]) (st2 := [.inl (.int (Int32.ofNat k)), .inr v]) rfl ?_
      refine zW.sn 1 (pc2 := 21) (l2 := [(0, .inr v), (1, .inl (.int (Int32.ofNat j))), (2, .inl (.int (Int32.ofNat k))), (3, .inl (.long y))]) (st2 := [.inl (.long y), .inl (.int (Int32.ofNat k)), .inr v]) rfl ?_
      refine zW.call (mid2 := 78) (as := [.inr v, .inl (.int (Int32.ofNat k)), .inl (.long y)]) (rest := []) ⟨rfl, rfl⟩ rfl (zinvV rfl (hw.get 0 rfl) rfl rfl) ⟨Nat.le_of_ble_eq_true rfl, Nat.le_of_ble_eq_true rfl⟩ ?_
      show zW xPP _ 78 0 [(0, .inr v), (1, .inl (.int (Int32.ofNat k))), (2, .inl (.long y))] [] (zNm k0, c0, s0, h) _
      refine zW.sn 1 (pc2 := 1) (l2 := [(0, .inr v), (1, .inl (.int (Int32.ofNat k))), (2, .inl (.long y))]) (st2 := [.inr v]) rfl ?_
      refine zW.getf ⟨rfl, rfl⟩ (hw.get 0 rfl) rfl rfl ?_
      refine zW.sn 1 (pc2 := 5) (l2 := [(0, .inr v), (1, .inl (.int (Int32.ofNat k))), (2, .inl (.long y))]) (st2 := [.inl (.int (Int32.ofNat k)), .inr r]) rfl ?_
      refine zW.sn 1 (pc2 := 6) (l2 := [(0, .inr v), (1, .inl (.int (Int32.ofNat k))), (2, .inl (.long y))]) (st2 := [.inl (.long y), .inl (.int (Int32.ofNat k)), .inr r]) rfl ?_
      refine zW.call (mid2 := 24) (as := [.inr r, .inl (.int (Int32.ofNat k)), .inl (.long y)]) (rest := []) ⟨rfl, rfl⟩ rfl (zinvV rfl (hw.get 3 rfl) rfl rfl) ⟨Nat.le_of_ble_eq_true rfl, Nat.le_of_ble_eq_true rfl⟩ ?_
      refine s_put hL hk hy (hw.sub [3, 4] rfl (by decide)) (fun h3 hv3 hg3 hn3 => ?_)
      have hr3 := hg3.freeS hfr hw [3, 4] rfl
      have hg3 := hg3.w hv3.pres
      have hw3 := hw.join2 [3, 4] rfl hv3 hn3 hg3
      have hf3 := zFw.tr (zFw.rf (N := [v, o, q, r, a])) hg3 (List.forall_mem_cons.mpr ⟨(zOn.of 3 rfl), List.forall_mem_cons.mpr ⟨(zOn.of 4 rfl), (fun _ z => by cases z)⟩⟩)
      show zW xPP _ 78 9 [(0, .inr v), (1, .inl (.int (Int32.ofNat k))), (2, .inl (.long y))] [] (zNm k0, c0, s0, h3) _
      refine zW.sn 1 (pc2 := 10) (l2 := [(0, .inr v), (1, .inl (.int (Int32.ofNat k))), (2, .inl (.long y))]) (st2 := [.inr v]) rfl ?_
      refine zW.getf ⟨rfl, rfl⟩ (hw3.get 0 rfl) rfl rfl ?_
      refine zW.sn 1 (pc2 := 14) (l2 := [(0, .inr v), (1, .inl (.int (Int32.ofNat k))), (2, .inl (.long y))]) (st2 := [.inl (.long y), .inr o]) rfl ?_
      refine zW.call (mid2 := 11) (as := [.inr o, .inl (.long y)]) (rest := []) ⟨rfl, rfl⟩ rfl (zinvV rfl (hw3.get 1 rfl) rfl rfl) ⟨Nat.le_of_ble_eq_true rfl, Nat.le_of_ble_eq_true rfl⟩ ?_
      refine s_oadd (by omega) (by omega) (by omega) (by omega) hr3 (by omega) (hw3.sub [1, 2] rfl (by decide)) (fun ql4 N4 fo4 kk4 cc4 ss4 h4 hv4 hg4 hr4 hn4 eN4 eo4 ex4 eb4 => ?_)
      have hw4 := hw3.join2 [1, 2] rfl hv4 hn4 hg4
      have hf4 := zFw.tr hf3 hg4 (List.forall_mem_cons.mpr ⟨(zOn.of 1 rfl), List.forall_mem_cons.mpr ⟨(zOn.of 2 rfl), (fun _ z => by cases z)⟩⟩)
      have ho4_q := zOn.sw hn4 hf3 1 rfl rfl (zOn.of 2 rfl)
      show zW xPP _ 78 17 [(0, .inr v), (1, .inl (.int (Int32.ofNat k))), (2, .inl (.long y))] [] (zNm kk4, cc4, ss4, h4) _
      refine zW.ret rfl rfl ?_
      show zW xPP _ 80 24 [(0, .inr v), (1, .inl (.int (Int32.ofNat j))), (2, .inl (.int (Int32.ofNat k))), (3, .inl (.long y))] [] (zNm kk4, cc4, ss4, h4) _
      refine zW.ret rfl rfl ?_
      exact k2 ql4 N4 fo4 kk4 cc4 ss4 _ hw4 hf4 hr4 ho4_q e1 e2 eN4 eo4 ex4 eb4
    · refine zW.sn 1 (pc2 := 16) (l2 := [(2, .inl (.long (fa j))), (0, .inr v), (1, .inl (.int (Int32.ofNat j)))]) (st2 := [.inr v]) rfl ?_
      refine zW.getf ⟨rfl, rfl⟩ (hw.get 0 rfl) rfl rfl ?_
      refine zW.sn 1 (pc2 := 20) (l2 := [(2, .inl (.long (fa j))), (0, .inr v), (1, .inl (.int (Int32.ofNat j)))]) (st2 := [.inl (.int (Int32.ofNat j)), .inr r]) rfl ?_
      refine zW.call (mid2 := 25) (as := [.inr r, .inl (.int (Int32.ofNat j))]) (rest := []) ⟨rfl, rfl⟩ rfl (zinvV rfl (hw.get 3 rfl) rfl rfl) ⟨Nat.le_of_ble_eq_true rfl, Nat.le_of_ble_eq_true rfl⟩ ?_
      refine s_clr hL hj (hw.sub [3, 4] rfl (by decide)) (fun h5 hv5 hg5 hn5 => ?_)
      have hr5 := hg5.freeS hfr hw [3, 4] rfl
      have hg5 := hg5.w hv5.pres
      have hw5 := hw.join2 [3, 4] rfl hv5 hn5 hg5
      have hf5 := zFw.tr (zFw.rf (N := [v, o, q, r, a])) hg5 (List.forall_mem_cons.mpr ⟨(zOn.of 3 rfl), List.forall_mem_cons.mpr ⟨(zOn.of 4 rfl), (fun _ z => by cases z)⟩⟩)
      show zW xPP _ 79 23 [(2, .inl (.long (fa j))), (0, .inr v), (1, .inl (.int (Int32.ofNat j)))] [] (zNm k0, c0, s0, h5) _
      refine zW.sn 1 (pc2 := 24) (l2 := [(2, .inl (.long (fa j))), (0, .inr v), (1, .inl (.int (Int32.ofNat j)))]) (st2 := [.inr v]) rfl ?_
      refine zW.getf ⟨rfl, rfl⟩ (hw5.get 0 rfl) rfl rfl ?_
      refine zW.sn 1 (pc2 := 28) (l2 := [(2, .inl (.long (fa j))), (0, .inr v), (1, .inl (.int (Int32.ofNat j)))]) (st2 := [.inl (.long (fa j)), .inr o]) rfl ?_
      refine zW.s2 ⟨rfl, rfl⟩ (fun _ => rfl) rfl rfl ?_
      refine zW.sn 1 (pc2 := 32) (l2 := [(2, .inl (.long (fa j))), (0, .inr v), (1, .inl (.int (Int32.ofNat j)))]) (st2 := [.inl (.long ((fa j) ||| (Int64.ofNat 1152921504606846976))), .inr o]) rfl ?_
      refine zW.call (mid2 := 11) (as := [.inr o, .inl (.long ((fa j) ||| (Int64.ofNat 1152921504606846976)))]) (rest := []) ⟨rfl, rfl⟩ rfl (zinvV rfl (hw5.get 1 rfl) rfl rfl) ⟨Nat.le_of_ble_eq_true rfl, Nat.le_of_ble_eq_true rfl⟩ ?_
      refine s_oadd (by omega) (by omega) (by omega) (by omega) hr5 (by omega) (hw5.sub [1, 2] rfl (by decide)) (fun ql6 N6 fo6 kk6 cc6 ss6 h6 hv6 hg6 hr6 hn6 eN6 eo6 ex6 eb6 => ?_)
      have hw6 := hw5.join2 [1, 2] rfl hv6 hn6 hg6
      have hf6 := zFw.tr hf5 hg6 (List.forall_mem_cons.mpr ⟨(zOn.of 1 rfl), List.forall_mem_cons.mpr ⟨(zOn.of 2 rfl), (fun _ z => by cases z)⟩⟩)
      have ho6_q := zOn.sw hn6 hf5 1 rfl rfl (zOn.of 2 rfl)
      show zW xPP _ 79 35 [(2, .inl (.long (fa j))), (0, .inr v), (1, .inl (.int (Int32.ofNat j)))] [] (zNm kk6, cc6, ss6, h6) _
      refine zW.ret rfl rfl ?_
      show zW xPP _ 80 18 [(0, .inr v), (1, .inl (.int (Int32.ofNat j))), (2, .inl (.int (Int32.ofNat k))), (3, .inl (.long y))] [] (zNm kk6, cc6, ss6, h6) _
      refine zW.sn 1 (pc2 := 19) (l2 := [(0, .inr v), (1, .inl (.int (Int32.ofNat j))), (2, .inl (.int (Int32.ofNat k))), (3, .inl (.long y))]) (st2 := [.inr v]) rfl ?_
      refine zW.sn 1 (pc2 := 20) (l2 := [(0, .inr v), (1, .inl (.int (Int32.ofNat j))), (2, .inl (.int (Int32.ofNat k))), (3, .inl (.long y))]) (st2 := [.inl (.int (Int32.ofNat k)), .inr v]) rfl ?_
      refine zW.sn 1 (pc2 := 21) (l2 := [(0, .inr v), (1, .inl (.int (Int32.ofNat j))), (2, .inl (.int (Int32.ofNat k))), (3, .inl (.long y))]) (st2 := [.inl (.long y), .inl (.int (Int32.ofNat k)), .inr v]) rfl ?_
      refine zW.call (mid2 := 78) (as := [.inr v, .inl (.int (Int32.ofNat k)), .inl (.long y)]) (rest := []) ⟨rfl, rfl⟩ rfl (zinvV rfl (hw6.get 0 rfl) rfl rfl) ⟨Nat.le_of_ble_eq_true rfl, Nat.le_of_ble_eq_true rfl⟩ ?_
      show zW xPP _ 78 0 [(0, .inr v), (1, .inl (.int (Int32.ofNat k))), (2, .inl (.long y))] [] (zNm kk6, cc6, ss6, h6) _
      refine zW.sn 1 (pc2 := 1) (l2 := [(0, .inr v), (1, .inl (.int (Int32.ofNat k))), (2, .inl (.long y))]) (st2 := [.inr v]) rfl ?_
      refine zW.getf ⟨rfl, rfl⟩ (hw6.get 0 rfl) rfl rfl ?_
      refine zW.sn 1 (pc2 := 5) (l2 := [(0, .inr v), (1, .inl (.int (Int32.ofNat k))), (2, .inl (.long y))]) (st2 := [.inl (.int (Int32.ofNat k)), .inr r]) rfl ?_
      refine zW.sn 1 (pc2 := 6) (l2 := [(0, .inr v), (1, .inl (.int (Int32.ofNat k))), (2, .inl (.long y))]) (st2 := [.inl (.long y), .inl (.int (Int32.ofNat k)), .inr r]) rfl ?_
      refine zW.call (mid2 := 24) (as := [.inr r, .inl (.int (Int32.ofNat k)), .inl (.long y)]) (rest := []) ⟨rfl, rfl⟩ rfl (zinvV rfl (hw6.get 3 rfl) rfl rfl) ⟨Nat.le_of_ble_eq_true rfl, Nat.le_of_ble_eq_true rfl⟩ ?_
      refine s_put hL hk hy (hw6.sub [3, 4] rfl (by decide)) (fun h7 hv7 hg7 hn7 => ?_)
      have hr7 := hg7.freeS hr6 hw6 [3, 4] rfl
      have hg7 := hg7.w hv7.pres
      have hw7 := hw6.join2 [3, 4] rfl hv7 hn7 hg7
      have hf7 := zFw.tr hf6 hg7 (List.forall_mem_cons.mpr ⟨(zOn.of 3 rfl), List.forall_mem_cons.mpr ⟨(zOn.of 4 rfl), (fun _ z => by cases z)⟩⟩)
      show zW xPP _ 78 9 [(0, .inr v), (1, .inl (.int (Int32.ofNat k))), (2, .inl (.long y))] [] (zNm kk6, cc6, ss6, h7) _
      refine zW.sn 1 (pc2 := 10) (l2 := [(0, .inr v), (1, .inl (.int (Int32.ofNat k))), (2, .inl (.long y))]) (st2 := [.inr v]) rfl ?_
      refine zW.getf ⟨rfl, rfl⟩ (hw7.get 0 rfl) rfl rfl ?_
      refine zW.sn 1 (pc2 := 14) (l2 := [(0, .inr v), (1, .inl (.int (Int32.ofNat k))), (2, .inl (.long y))]) (st2 := [.inl (.long y), .inr o]) rfl ?_
      refine zW.call (mid2 := 11) (as := [.inr o, .inl (.long y)]) (rest := []) ⟨rfl, rfl⟩ rfl (zinvV rfl (hw7.get 1 rfl) rfl rfl) ⟨Nat.le_of_ble_eq_true rfl, Nat.le_of_ble_eq_true rfl⟩ ?_
      refine s_oadd (by omega) (by omega) (by omega) (by omega) hr7 (by omega) (hw7.sub [1, 2] rfl (by decide)) (fun ql8 N8 fo8 kk8 cc8 ss8 h8 hv8 hg8 hr8 hn8 eN8 eo8 ex8 eb8 => ?_)
      have hw8 := hw7.join2 [1, 2] rfl hv8 hn8 hg8
      have hf8 := zFw.tr hf7 hg8 (List.forall_mem_cons.mpr ⟨(zOn.of 1 rfl), List.forall_mem_cons.mpr ⟨ho6_q, (fun _ z => by cases z)⟩⟩)
      have ho8_q := zOn.sw hn8 hf7 1 rfl rfl ho6_q
      show zW xPP _ 78 17 [(0, .inr v), (1, .inl (.int (Int32.ofNat k))), (2, .inl (.long y))] [] (zNm kk8, cc8, ss8, h8) _
      refine zW.ret rfl rfl ?_
      show zW xPP _ 80 24 [(0, .inr v), (1, .inl (.int (Int32.ofNat j))), (2, .inl (.int (Int32.ofNat k))), (3, .inl (.long y))] [] (zNm kk8, cc8, ss8, h8) _
      refine zW.ret rfl rfl ?_
      exact k3 ql6 N6 fo6 kk6 cc6 ss6 ql8 N8 fo8 kk8 cc8 ss8 _ hw8 hf8 hr8 ho8_q e1 e2 eN6 eo6 ex6 eb6 eN8 eo8 ex8 eb8

set_option maxHeartbeats 4000000 in
theorem w_tback {d : Nat} {k0 c0 s0 : Nat} {h : xH} {Q : xR → xA → Prop} {v o q r a fr hd : Nat × Nat} {nu bs fi sz gr dr : Int32} {N z L : Nat} {fo fa : Nat → Int64} {rw ag fs jo : Nat × Nat} {me : Int32} {k : Nat} (hL : L < 2147483647) (hN : N ≤ 320000) (hN0 : 0 < N) (hzN : z ≤ N) (hz : z + 2 < 320000) (hmy : k0 + 320000 < 390000 + N) (hk : k < L) (hfr : zFree k0 h) (hmx : k0 + 0 < zMax) (hw : zWd h [(v, .inl (6, [.inl (.int nu), .inl (.int bs), .inl (.int fi), .inl (.int sz), .inl (.int gr), .inr o, .inr r, .inr fr, .inr hd, .inl (.int dr), .inl (.int me), .inr rw, .inr ag, .inr fs, .inr jo])), (o, .inl (3, [.inr q, .inl (.int (Int32.ofNat z))])), (q, .inr (1, N, zJ fo)), (r, .inl (5, [.inr a, .inl (.int (Int32.ofNat (zcnt fa L)))])), (a, .inr (1, L, zJ fa))])
    (k1 : xcd .eq (lg_cmp (fa k) 0) 0 = true → Q (.inl none) (zNm k0, c0, s0, h))
    (k2 : ∀ (ql3 : Nat × Nat), ∀ (N3 : Nat), ∀ (fo3 : Nat → Int64), ∀ (kk3 : Nat), ∀ (cc3 : Nat), ∀ (ss3 : Nat), ∀ h1, zWd h1 [(v, .inl (6, [.inl (.int nu), .inl (.int bs), .inl (.int fi), .inl (.int sz), .inl (.int gr), .inr o, .inr r, .inr fr, .inr hd, .inl (.int dr), .inl (.int me), .inr rw, .inr ag, .inr fs, .inr jo])), (o, .inl (3, [.inr ql3, .inl (.int (Int32.ofNat (z + 1)))])), (ql3, .inr (1, N3, zJ fo3)), (r, .inl (5, [.inr a, .inl (.int (Int32.ofNat (zcnt (zfi fa k 0) L)))])), (a, .inr (1, L, zJ (zfi fa k 0)))] → zFw [v, o, q, r, a] h h1 → zFree kk3 h1 → zOn [v, o, q, r, a] h ql3 → xcd .eq (lg_cmp (fa k) 0) 0 = false → N ≤ N3 ∧ N3 ≤ 320000 ∧ z + 1 ≤ N3 → (∀ j, j < z → fo3 j = fo j) → fo3 z = ((fa k) ||| (Int64.ofNat 1152921504606846976)) → (k0 ≤ kk3 ∧ kk3 + N ≤ k0 + N3 ∧ cc3 + N ≤ c0 + N3 ∧ ss3 + zB N ≤ s0 + zB N3) → Q (.inl none) (zNm kk3, cc3, ss3, h1)) :
    zW xPP (d + 2) 79 0 [(0, .inr v), (1, .inl (.int (Int32.ofNat k)))] [] (zNm k0, c0, s0, h) Q := by
  refine zW.sn 1 (pc2 := 1) (l2 := [(0, .inr v), (1, .inl (.int (Int32.ofNat k)))]) (st2 := [.inr v]) rfl ?_
  refine zW.getf ⟨rfl, rfl⟩ (hw.get 0 rfl) rfl rfl ?_
  refine zW.sn 1 (pc2 := 5) (l2 := [(0, .inr v), (1, .inl (.int (Int32.ofNat k)))]) (st2 := [.inl (.int (Int32.ofNat k)), .inr r]) rfl ?_
  refine zW.call (mid2 := 23) (as := [.inr r, .inl (.int (Int32.ofNat k))]) (rest := []) ⟨rfl, rfl⟩ rfl (zinvV rfl (hw.get 3 rfl) rfl rfl) ⟨Nat.le_of_ble_eq_true rfl, Nat.le_of_ble_eq_true rfl⟩ ?_
  refine s_at (by omega) hk (hw.sub [3, 4] rfl (by decide)) ?_
  show zW xPP _ 79 8 [(0, .inr v), (1, .inl (.int (Int32.ofNat k)))] [.inl (.long (fa k))] (zNm k0, c0, s0, h) _
  refine zW.sn 1 (pc2 := 9) (l2 := [(2, .inl (.long (fa k))), (0, .inr v), (1, .inl (.int (Int32.ofNat k)))]) (st2 := []) rfl ?_
  refine zW.sn 1 (pc2 := 10) (l2 := [(2, .inl (.long (fa k))), (0, .inr v), (1, .inl (.int (Int32.ofNat k)))]) (st2 := [.inl (.long (fa k))]) rfl ?_
  refine zW.sn 1 (pc2 := 11) (l2 := [(2, .inl (.long (fa k))), (0, .inr v), (1, .inl (.int (Int32.ofNat k)))]) (st2 := [.inl (.long 0), .inl (.long (fa k))]) rfl ?_
  refine zW.sn 1 (pc2 := 12) (l2 := [(2, .inl (.long (fa k))), (0, .inr v), (1, .inl (.int (Int32.ofNat k)))]) (st2 := [.inl (.int (lg_cmp (fa k) 0))]) rfl ?_
  refine zW.ifc (tgt := 35) ⟨rfl, rfl⟩ rfl (fun e1 => ?_) (fun e1 => ?_)
  · refine zW.ret rfl rfl ?_
    exact k1 e1
  · refine zW.sn 1 (pc2 := 16) (l2 := [(2, .inl (.long (fa k))), (0, .inr v), (1, .inl (.int (Int32.ofNat k)))]) (st2 := [.inr v]) rfl ?_
    refine zW.getf ⟨rfl, rfl⟩ (hw.get 0 rfl) rfl rfl ?_
    refine zW.sn 1 (pc2 := 20) (l2 := [(2, .inl (.long (fa k))), (0, .inr v), (1, .inl (.int (Int32.ofNat k)))]) (st2 := [.inl (.int (Int32.ofNat k)), .inr r]) rfl ?_
    refine zW.call (mid2 := 25) (as := [.inr r, .inl (.int (Int32.ofNat k))]) (rest := []) ⟨rfl, rfl⟩ rfl (zinvV rfl (hw.get 3 rfl) rfl rfl) ⟨Nat.le_of_ble_eq_true rfl, Nat.le_of_ble_eq_true rfl⟩ ?_
    refine s_clr hL hk (hw.sub [3, 4] rfl (by decide)) (fun h2 hv2 hg2 hn2 => ?_)
    have hr2 := hg2.freeS hfr hw [3, 4] rfl
    have hg2 := hg2.w hv2.pres
    have hw2 := hw.join2 [3, 4] rfl hv2 hn2 hg2
    have hf2 := zFw.tr (zFw.rf (N := [v, o, q, r, a])) hg2 (List.forall_mem_cons.mpr ⟨(zOn.of 3 rfl), List.forall_mem_cons.mpr ⟨(zOn.of 4 rfl), (fun _ z => by cases z)⟩⟩)
    show zW xPP _ 79 23 [(2, .inl (.long (fa k))), (0, .inr v), (1, .inl (.int (Int32.ofNat k)))] [] (zNm k0, c0, s0, h2) _
    refine zW.sn 1 (pc2 := 24) (l2 := [(2, .inl (.long (fa k))), (0, .inr v), (1, .inl (.int (Int32.ofNat k)))]) (st2 := [.inr v]) rfl ?_
    refine zW.getf ⟨rfl, rfl⟩ (hw2.get 0 rfl) rfl rfl ?_
    refine zW.sn 1 (pc2 := 28) (l2 := [(2, .inl (.long (fa k))), (0, .inr v), (1, .inl (.int (Int32.ofNat k)))]) (st2 := [.inl (.long (fa k)), .inr o]) rfl ?_
    refine zW.s2 ⟨rfl, rfl⟩ (fun _ => rfl) rfl rfl ?_
    refine zW.sn 1 (pc2 := 32) (l2 := [(2, .inl (.long (fa k))), (0, .inr v), (1, .inl (.int (Int32.ofNat k)))]) (st2 := [.inl (.long ((fa k) ||| (Int64.ofNat 1152921504606846976))), .inr o]) rfl ?_
    refine zW.call (mid2 := 11) (as := [.inr o, .inl (.long ((fa k) ||| (Int64.ofNat 1152921504606846976)))]) (rest := []) ⟨rfl, rfl⟩ rfl (zinvV rfl (hw2.get 1 rfl) rfl rfl) ⟨Nat.le_of_ble_eq_true rfl, Nat.le_of_ble_eq_true rfl⟩ ?_
    refine s_oadd (by omega) (by omega) (by omega) (by omega) hr2 (by omega) (hw2.sub [1, 2] rfl (by decide)) (fun ql3 N3 fo3 kk3 cc3 ss3 h3 hv3 hg3 hr3 hn3 eN3 eo3 ex3 eb3 => ?_)
    have hw3 := hw2.join2 [1, 2] rfl hv3 hn3 hg3
    have hf3 := zFw.tr hf2 hg3 (List.forall_mem_cons.mpr ⟨(zOn.of 1 rfl), List.forall_mem_cons.mpr ⟨(zOn.of 2 rfl), (fun _ z => by cases z)⟩⟩)
    have ho3_q := zOn.sw hn3 hf2 1 rfl rfl (zOn.of 2 rfl)
    show zW xPP _ 79 35 [(2, .inl (.long (fa k))), (0, .inr v), (1, .inl (.int (Int32.ofNat k)))] [] (zNm kk3, cc3, ss3, h3) _
    refine zW.ret rfl rfl ?_
    exact k2 ql3 N3 fo3 kk3 cc3 ss3 _ hw3 hf3 hr3 ho3_q e1 eN3 eo3 ex3 eb3

set_option maxHeartbeats 4000000 in
theorem w_tellV {d : Nat} {k0 c0 s0 : Nat} {h : xH} {Q : xR → xA → Prop} {v o q r a fr hd : Nat × Nat} {nu bs fi sz gr dr : Int32} {N z L : Nat} {fo fa : Nat → Int64} {lf vs ag : Nat × Nat} {k : Nat} {y : Int64} (hL : L < 2147483647) (hN : N ≤ 320000) (hN0 : 0 < N) (hzN : z ≤ N) (hz : z + 2 < 320000) (hmy : k0 + 320000 < 390000 + N) (hk : k < L) (hy : y ≠ 0) (hfr : zFree k0 h) (hmx : k0 + 0 < zMax) (hw : zWd h [(v, .inl (8, [.inl (.int nu), .inl (.int bs), .inl (.int fi), .inl (.int sz), .inl (.int gr), .inr o, .inr r, .inr fr, .inr hd, .inl (.int dr), .inr lf, .inr vs, .inr ag])), (o, .inl (3, [.inr q, .inl (.int (Int32.ofNat z))])), (q, .inr (1, N, zJ fo)), (r, .inl (5, [.inr a, .inl (.int (Int32.ofNat (zcnt fa L)))])), (a, .inr (1, L, zJ fa))])
    (k1 : ∀ (ql2 : Nat × Nat), ∀ (N2 : Nat), ∀ (fo2 : Nat → Int64), ∀ (kk2 : Nat), ∀ (cc2 : Nat), ∀ (ss2 : Nat), ∀ h1, zWd h1 [(v, .inl (8, [.inl (.int nu), .inl (.int bs), .inl (.int fi), .inl (.int sz), .inl (.int gr), .inr o, .inr r, .inr fr, .inr hd, .inl (.int dr), .inr lf, .inr vs, .inr ag])), (o, .inl (3, [.inr ql2, .inl (.int (Int32.ofNat (z + 1)))])), (ql2, .inr (1, N2, zJ fo2)), (r, .inl (5, [.inr a, .inl (.int (Int32.ofNat (zcnt (zfi fa k y) L)))])), (a, .inr (1, L, zJ (zfi fa k y)))] → zFw [v, o, q, r, a] h h1 → zFree kk2 h1 → zOn [v, o, q, r, a] h ql2 → N ≤ N2 ∧ N2 ≤ 320000 ∧ z + 1 ≤ N2 → (∀ j, j < z → fo2 j = fo j) → fo2 z = y → (k0 ≤ kk2 ∧ kk2 + N ≤ k0 + N2 ∧ cc2 + N ≤ c0 + N2 ∧ ss2 + zB N ≤ s0 + zB N2) → Q (.inl none) (zNm kk2, cc2, ss2, h1)) :
    zW xPP (d + 2) 78 0 [(0, .inr v), (1, .inl (.int (Int32.ofNat k))), (2, .inl (.long y))] [] (zNm k0, c0, s0, h) Q := by
  refine zW.sn 1 (pc2 := 1) (l2 := [(0, .inr v), (1, .inl (.int (Int32.ofNat k))), (2, .inl (.long y))]) (st2 := [.inr v]) rfl ?_
  refine zW.getf ⟨rfl, rfl⟩ (hw.get 0 rfl) rfl rfl ?_
  refine zW.sn 1 (pc2 := 5) (l2 := [(0, .inr v), (1, .inl (.int (Int32.ofNat k))), (2, .inl (.long y))]) (st2 := [.inl (.int (Int32.ofNat k)), .inr r]) rfl ?_
  refine zW.sn 1 (pc2 := 6) (l2 := [(0, .inr v), (1, .inl (.int (Int32.ofNat k))), (2, .inl (.long y))]) (st2 := [.inl (.long y), .inl (.int (Int32.ofNat k)), .inr r]) rfl ?_
  refine zW.call (mid2 := 24) (as := [.inr r, .inl (.int (Int32.ofNat k)), .inl (.long y)]) (rest := []) ⟨rfl, rfl⟩ rfl (zinvV rfl (hw.get 3 rfl) rfl rfl) ⟨Nat.le_of_ble_eq_true rfl, Nat.le_of_ble_eq_true rfl⟩ ?_
  refine s_put hL hk hy (hw.sub [3, 4] rfl (by decide)) (fun h1 hv1 hg1 hn1 => ?_)
  have hr1 := hg1.freeS hfr hw [3, 4] rfl
  have hg1 := hg1.w hv1.pres
  have hw1 := hw.join2 [3, 4] rfl hv1 hn1 hg1
  have hf1 := zFw.tr (zFw.rf (N := [v, o, q, r, a])) hg1 (List.forall_mem_cons.mpr ⟨(zOn.of 3 rfl), List.forall_mem_cons.mpr ⟨(zOn.of 4 rfl), (fun _ z => by cases z)⟩⟩)
  show zW xPP _ 78 9 [(0, .inr v), (1, .inl (.int (Int32.ofNat k))), (2, .inl (.long y))] [] (zNm k0, c0, s0, h1) _
  refine zW.sn 1 (pc2 := 10) (l2 := [(0, .inr v), (1, .inl (.int (Int32.ofNat k))), (2, .inl (.long y))]) (st2 := [.inr v]) rfl ?_
  refine zW.getf ⟨rfl, rfl⟩ (hw1.get 0 rfl) rfl rfl ?_
  refine zW.sn 1 (pc2 := 14) (l2 := [(0, .inr v), (1, .inl (.int (Int32.ofNat k))), (2, .inl (.long y))]) (st2 := [.inl (.long y), .inr o]) rfl ?_
  refine zW.call (mid2 := 11) (as := [.inr o, .inl (.long y)]) (rest := []) ⟨rfl, rfl⟩ rfl (zinvV rfl (hw1.get 1 rfl) rfl rfl) ⟨Nat.le_of_ble_eq_true rfl, Nat.le_of_ble_eq_true rfl⟩ ?_
  refine s_oadd (by omega) (by omega) (by omega) (by omega) hr1 (by omega) (hw1.sub [1, 2] rfl (by decide)) (fun ql2 N2 fo2 kk2 cc2 ss2 h2 hv2 hg2 hr2 hn2 eN2 eo2 ex2 eb2 => ?_)
  have hw2 := hw1.join2 [1, 2] rfl hv2 hn2 hg2
  have hf2 := zFw.tr hf1 hg2 (List.forall_mem_cons.mpr ⟨(zOn.of 1 rfl), List.forall_mem_cons.mpr ⟨(zOn.of 2 rfl), (fun _ z => by cases z)⟩⟩)
  have ho2_q := zOn.sw hn2 hf1 1 rfl rfl (zOn.of 2 rfl)
  show zW xPP _ 78 17 [(0, .inr v), (1, .inl (.int (Int32.ofNat k))), (2, .inl (.long y))] [] (zNm kk2, cc2, ss2, h2) _
  refine zW.ret rfl rfl ?_
  exact k1 ql2 N2 fo2 kk2 cc2 ss2 _ hw2 hf2 hr2 ho2_q eN2 eo2 ex2 eb2

set_option maxHeartbeats 4000000 in
theorem w_tanewV {d : Nat} {k0 c0 s0 : Nat} {h : xH} {Q : xR → xA → Prop} {v o q r a fr hd : Nat × Nat} {nu bs fi sz gr dr : Int32} {N z L : Nat} {fo fa : Nat → Int64} {lf vs ag : Nat × Nat} {j k : Nat} {y : Int64} (hL : L < 2147483647) (hN : N ≤ 320000) (hN0 : 0 < N) (hzN : z ≤ N) (hz : z + 2 < 320000) (hmy : k0 + 320000 < 390000 + N) (hj : j < L) (hk : k < L) (hy : y ≠ 0) (hfr : zFree k0 h) (hmx : k0 + 0 < zMax) (hw : zWd h [(v, .inl (8, [.inl (.int nu), .inl (.int bs), .inl (.int fi), .inl (.int sz), .inl (.int gr), .inr o, .inr r, .inr fr, .inr hd, .inl (.int dr), .inr lf, .inr vs, .inr ag])), (o, .inl (3, [.inr q, .inl (.int (Int32.ofNat z))])), (q, .inr (1, N, zJ fo)), (r, .inl (5, [.inr a, .inl (.int (Int32.ofNat (zcnt fa L)))])), (a, .inr (1, L, zJ fa))])
    (k1 : xcd .eq (lg_cmp (fa j) y) 0 = true → Q (.inl none) (zNm k0, c0, s0, h))
    (k2 : ∀ (ql4 : Nat × Nat), ∀ (N4 : Nat), ∀ (fo4 : Nat → Int64), ∀ (kk4 : Nat), ∀ (cc4 : Nat), ∀ (ss4 : Nat), ∀ h1, zWd h1 [(v, .inl (8, [.inl (.int nu), .inl (.int bs), .inl (.int fi), .inl (.int sz), .inl (.int gr), .inr o, .inr r, .inr fr, .inr hd, .inl (.int dr), .inr lf, .inr vs, .inr ag])), (o, .inl (3, [.inr ql4, .inl (.int (Int32.ofNat (z + 1)))])), (ql4, .inr (1, N4, zJ fo4)), (r, .inl (5, [.inr a, .inl (.int (Int32.ofNat (zcnt (zfi fa k y) L)))])), (a, .inr (1, L, zJ (zfi fa k y)))] → zFw [v, o, q, r, a] h h1 → zFree kk4 h1 → zOn [v, o, q, r, a] h ql4 → xcd .eq (lg_cmp (fa j) y) 0 = false → xcd .eq (lg_cmp (fa j) 0) 0 = true → N ≤ N4 ∧ N4 ≤ 320000 ∧ z + 1 ≤ N4 → (∀ j, j < z → fo4 j = fo j) → fo4 z = y → (k0 ≤ kk4 ∧ kk4 + N ≤ k0 + N4 ∧ cc4 + N ≤ c0 + N4 ∧ ss4 + zB N ≤ s0 + zB N4) → Q (.inl none) (zNm kk4, cc4, ss4, h1))
    (k3 : ∀ (ql6 : Nat × Nat), ∀ (N6 : Nat), ∀ (fo6 : Nat → Int64), ∀ (kk6 : Nat), ∀ (cc6 : Nat), ∀ (ss6 : Nat), ∀ (ql8 : Nat × Nat), ∀ (N8 : Nat), ∀ (fo8 : Nat → Int64), ∀ (kk8 : Nat), ∀ (cc8 : Nat), ∀ (ss8 : Nat), ∀ h1, zWd h1 [(v, .inl (8, [.inl (.int nu), .inl (.int bs), .inl (.int fi), .inl (.int sz), .inl (.int gr), .inr o, .inr r, .inr fr, .inr hd, .inl (.int dr), .inr lf, .inr vs, .inr ag])), (o, .inl (3, [.inr ql8, .inl (.int (Int32.ofNat ((z + 1) + 1)))])), (ql8, .inr (1, N8, zJ fo8)), (r, .inl (5, [.inr a, .inl (.int (Int32.ofNat (zcnt (zfi (zfi fa j 0) k y) L)))])), (a, .inr (1, L, zJ (zfi (zfi fa j 0) k y)))] → zFw [v, o, q, r, a] h h1 → zFree kk8 h1 → zOn [v, o, q, r, a] h ql8 → xcd .eq (lg_cmp (fa j) y) 0 = false → xcd .eq (lg_cmp (fa j) 0) 0 = false → N ≤ N6 ∧ N6 ≤ 320000 ∧ z + 1 ≤ N6 → (∀ j, j < z → fo6 j = fo j) → fo6 z = ((fa j) ||| (Int64.ofNat 1152921504606846976)) → (k0 ≤ kk6 ∧ kk6 + N ≤ k0 + N6 ∧ cc6 + N ≤ c0 + N6 ∧ ss6 + zB N ≤ s0 + zB N6) → N6 ≤ N8 ∧ N8 ≤ 320000 ∧ (z + 1) + 1 ≤ N8 → (∀ j, j < (z + 1) → fo8 j = fo6 j) → fo8 (z + 1) = y → (kk6 ≤ kk8 ∧ kk8 + N6 ≤ kk6 + N8 ∧ cc8 + N6 ≤ cc6 + N8 ∧ ss8 + zB N6 ≤ ss6 + zB N8) → Q (.inl none) (zNm kk8, cc8, ss8, h1)) :
    zW xPP (d + 3) 80 0 [(0, .inr v), (1, .inl (.int (Int32.ofNat j))), (2, .inl (.int (Int32.ofNat k))), (3, .inl (.long y))] [] (zNm k0, c0, s0, h) Q := by
  refine zW.sn 1 (pc2 := 1) (l2 := [(0, .inr v), (1, .inl (.int (Int32.ofNat j))), (2, .inl (.int (Int32.ofNat k))), (3, .inl (.long y))]) (st2 := [.inr v]) rfl ?_
  refine zW.getf ⟨rfl, rfl⟩ (hw.get 0 rfl) rfl rfl ?_
  refine zW.sn 1 (pc2 := 5) (l2 := [(0, .inr v), (1, .inl (.int (Int32.ofNat j))), (2, .inl (.int (Int32.ofNat k))), (3, .inl (.long y))]) (st2 := [.inl (.int (Int32.ofNat j)), .inr r]) rfl ?_
  refine zW.call (mid2 := 23) (as := [.inr r, .inl (.int (Int32.ofNat j))]) (rest := []) ⟨rfl, rfl⟩ rfl (zinvV rfl (hw.get 3 rfl) rfl rfl) ⟨Nat.le_of_ble_eq_true rfl, Nat.le_of_ble_eq_true rfl⟩ ?_
  refine s_at (by omega) hj (hw.sub [3, 4] rfl (by decide)) ?_
  show zW xPP _ 80 8 [(0, .inr v), (1, .inl (.int (Int32.ofNat j))), (2, .inl (.int (Int32.ofNat k))), (3, .inl (.long y))] [.inl (.long (fa j))] (zNm k0, c0, s0, h) _
  refine zW.sn 1 (pc2 := 9) (l2 := [(0, .inr v), (1, .inl (.int (Int32.ofNat j))), (2, .inl (.int (Int32.ofNat k))), (3, .inl (.long y))]) (st2 := [.inl (.long y), .inl (.long (fa j))]) rfl ?_
  refine zW.sn 1 (pc2 := 10) (l2 := [(0, .inr v), (1, .inl (.int (Int32.ofNat j))), (2, .inl (.int (Int32.ofNat k))), (3, .inl (.long y))]) (st2 := [.inl (.int (lg_cmp (fa j) y))]) rfl ?_
  refine zW.ifc (tgt := 24) ⟨rfl, rfl⟩ rfl (fun e1 => ?_) (fun e1 => ?_)
  · refine zW.ret rfl rfl ?_
    exact k1 e1
  · refine zW.sn 1 (pc2 := 14) (l2 := [(0, .inr v), (1, .inl (.int (Int32.ofNat j))), (2, .inl (.int (Int32.ofNat k))), (3, .inl (.long y))]) (st2 := [.inr v]) rfl ?_
    refine zW.sn 1 (pc2 := 15) (l2 := [(0, .inr v), (1, .inl (.int (Int32.ofNat j))), (2, .inl (.int (Int32.ofNat k))), (3, .inl (.long y))]) (st2 := [.inl (.int (Int32.ofNat j)), .inr v]) rfl ?_
    refine zW.call (mid2 := 79) (as := [.inr v, .inl (.int (Int32.ofNat j))]) (rest := []) ⟨rfl, rfl⟩ rfl (zinvV rfl (hw.get 0 rfl) rfl rfl) ⟨Nat.le_of_ble_eq_true rfl, Nat.le_of_ble_eq_true rfl⟩ ?_
    show zW xPP _ 79 0 [(0, .inr v), (1, .inl (.int (Int32.ofNat j)))] [] (zNm k0, c0, s0, h) _
    refine zW.sn 1 (pc2 := 1) (l2 := [(0, .inr v), (1, .inl (.int (Int32.ofNat j)))]) (st2 := [.inr v]) rfl ?_
    refine zW.getf ⟨rfl, rfl⟩ (hw.get 0 rfl) rfl rfl ?_
    refine zW.sn 1 (pc2 := 5) (l2 := [(0, .inr v), (1, .inl (.int (Int32.ofNat j)))]) (st2 := [.inl (.int (Int32.ofNat j)), .inr r]) rfl ?_
    refine zW.call (mid2 := 23) (as := [.inr r, .inl (.int (Int32.ofNat j))]) (rest := []) ⟨rfl, rfl⟩ rfl (zinvV rfl (hw.get 3 rfl) rfl rfl) ⟨Nat.le_of_ble_eq_true rfl, Nat.le_of_ble_eq_true rfl⟩ ?_
    refine s_at (by omega) hj (hw.sub [3, 4] rfl (by decide)) ?_
    show zW xPP _ 79 8 [(0, .inr v), (1, .inl (.int (Int32.ofNat j)))] [.inl (.long (fa j))] (zNm k0, c0, s0, h) _
    refine zW.sn 1 (pc2 := 9) (l2 := [(2, .inl (.long (fa j))), (0, .inr v), (1, .inl (.int (Int32.ofNat j)))]) (st2 := []) rfl ?_
    refine zW.sn 1 (pc2 := 10) (l2 := [(2, .inl (.long (fa j))), (0, .inr v), (1, .inl (.int (Int32.ofNat j)))]) (st2 := [.inl (.long (fa j))]) rfl ?_
    refine zW.sn 1 (pc2 := 11) (l2 := [(2, .inl (.long (fa j))), (0, .inr v), (1, .inl (.int (Int32.ofNat j)))]) (st2 := [.inl (.long 0), .inl (.long (fa j))]) rfl ?_
    refine zW.sn 1 (pc2 := 12) (l2 := [(2, .inl (.long (fa j))), (0, .inr v), (1, .inl (.int (Int32.ofNat j)))]) (st2 := [.inl (.int (lg_cmp (fa j) 0))]) rfl ?_
    refine zW.ifc (tgt := 35) ⟨rfl, rfl⟩ rfl (fun e2 => ?_) (fun e2 => ?_)
    · refine zW.ret rfl rfl ?_
      show zW xPP _ 80 18 [(0, .inr v), (1, .inl (.int (Int32.ofNat j))), (2, .inl (.int (Int32.ofNat k))), (3, .inl (.long y))] [] (zNm k0, c0, s0, h) _
      refine zW.sn 1 (pc2 := 19) (l2 := [(0, .inr v), (1, .inl (.int (Int32.ofNat j))), (2, .inl (.int (Int32.ofNat k))), (3, .inl (.long y))]) (st2 := [.inr v]) rfl ?_
      refine zW.sn 1 (pc2 := 20) (l2 := [(0, .inr v), (1, .inl (.int (Int32.ofNat j))), (2, .inl (.int (Int32.ofNat k))), (3, .inl (.long y))]) (st2 := [.inl (.int (Int32.ofNat k)), .inr v]) rfl ?_
      refine zW.sn 1 (pc2 := 21) (l2 := [(0, .inr v), (1, .inl (.int (Int32.ofNat j))), (2, .inl (.int (Int32.ofNat k))), (3, .inl (.long y))]) (st2 := [.inl (.long y), .inl (.int (Int32.ofNat k)), .inr v]) rfl ?_
      refine zW.call (mid2 := 78) (as := [.inr v, .inl (.int (Int32.ofNat k)), .inl (.long y)]) (rest := []) ⟨rfl, rfl⟩ rfl (zinvV rfl (hw.get 0 rfl) rfl rfl) ⟨Nat.le_of_ble_eq_true rfl, Nat.le_of_ble_eq_true rfl⟩ ?_
      show zW xPP _ 78 0 [(0, .inr v), (1, .inl (.int (Int32.ofNat k))), (2, .inl (.long y))] [] (zNm k0, c0, s0, h) _
      refine zW.sn 1 (pc2 := 1) (l2 := [(0, .inr v), (1, .inl (.int (Int32.ofNat k))), (2, .inl (.long y))]) (st2 := [.inr v]) rfl ?_
      refine zW.getf ⟨rfl, rfl⟩ (hw.get 0 rfl) rfl rfl ?_
      refine zW.sn 1 (pc2 := 5) (l2 := [(0, .inr v), (1, .inl (.int (Int32.ofNat k))), (2, .inl (.long y))]) (st2 := [.inl (.int (Int32.ofNat k)), .inr r]) rfl ?_
      refine zW.sn 1 (pc2 := 6) (l2 := [(0, .inr v), (1, .inl (.int (Int32.ofNat k))), (2, .inl (.long y))]) (st2 := [.inl (.long y), .inl (.int (Int32.ofNat k)), .inr r]) rfl ?_
      refine zW.call (mid2 := 24) (as := [.inr r, .inl (.int (Int32.ofNat k)), .inl (.long y)]) (rest := []) ⟨rfl, rfl⟩ rfl (zinvV rfl (hw.get 3 rfl) rfl rfl) ⟨Nat.le_of_ble_eq_true rfl, Nat.le_of_ble_eq_true rfl⟩ ?_
      refine s_put hL hk hy (hw.sub [3, 4] rfl (by decide)) (fun h3 hv3 hg3 hn3 => ?_)
      have hr3 := hg3.freeS hfr hw [3, 4] rfl
      have hg3 := hg3.w hv3.pres
      have hw3 := hw.join2 [3, 4] rfl hv3 hn3 hg3
      have hf3 := zFw.tr (zFw.rf (N := [v, o, q, r, a])) hg3 (List.forall_mem_cons.mpr ⟨(zOn.of 3 rfl), List.forall_mem_cons.mpr ⟨(zOn.of 4 rfl), (fun _ z => by cases z)⟩⟩)
      show zW xPP _ 78 9 [(0, .inr v), (1, .inl (.int (Int32.ofNat k))), (2, .inl (.long y))] [] (zNm k0, c0, s0, h3) _
      refine zW.sn 1 (pc2 := 10) (l2 := [(0, .inr v), (1, .inl (.int (Int32.ofNat k))), (2, .inl (.long y))]) (st2 := [.inr v]) rfl ?_
      refine zW.getf ⟨rfl, rfl⟩ (hw3.get 0 rfl) rfl rfl ?_
      refine zW.sn 1 (pc2 := 14) (l2 := [(0, .inr v), (1, .inl (.int (Int32.ofNat k))), (2, .inl (.long y))]) (st2 := [.inl (.long y), .inr o]) rfl ?_
      refine zW.call (mid2 := 11) (as := [.inr o, .inl (.long y)]) (rest := []) ⟨rfl, rfl⟩ rfl (zinvV rfl (hw3.get 1 rfl) rfl rfl) ⟨Nat.le_of_ble_eq_true rfl, Nat.le_of_ble_eq_true rfl⟩ ?_
      refine s_oadd (by omega) (by omega) (by omega) (by omega) hr3 (by omega) (hw3.sub [1, 2] rfl (by decide)) (fun ql4 N4 fo4 kk4 cc4 ss4 h4 hv4 hg4 hr4 hn4 eN4 eo4 ex4 eb4 => ?_)
      have hw4 := hw3.join2 [1, 2] rfl hv4 hn4 hg4
      have hf4 := zFw.tr hf3 hg4 (List.forall_mem_cons.mpr ⟨(zOn.of 1 rfl), List.forall_mem_cons.mpr ⟨(zOn.of 2 rfl), (fun _ z => by cases z)⟩⟩)
      have ho4_q := zOn.sw hn4 hf3 1 rfl rfl (zOn.of 2 rfl)
      show zW xPP _ 78 17 [(0, .inr v), (1, .inl (.int (Int32.ofNat k))), (2, .inl (.long y))] [] (zNm kk4, cc4, ss4, h4) _
      refine zW.ret rfl rfl ?_
      show zW xPP _ 80 24 [(0, .inr v), (1, .inl (.int (Int32.ofNat j))), (2, .inl (.int (Int32.ofNat k))), (3, .inl (.long y))] [] (zNm kk4, cc4, ss4, h4) _
      refine zW.ret rfl rfl ?_
      exact k2 ql4 N4 fo4 kk4 cc4 ss4 _ hw4 hf4 hr4 ho4_q e1 e2 eN4 eo4 ex4 eb4
    · refine zW.sn 1 (pc2 := 16) (l2 := [(2, .inl (.long (fa j))), (0, .inr v), (1, .inl (.int (Int32.ofNat j)))]) (st2 := [.inr v]) rfl ?_
      refine zW.getf ⟨rfl, rfl⟩ (hw.get 0 rfl) rfl rfl ?_
      refine zW.sn 1 (pc2 := 20) (l2 := [(2, .inl (.long (fa j))), (0, .inr v), (1, .inl (.int (Int32.ofNat j)))]) (st2 := [.inl (.int (Int32.ofNat j)), .inr r]) rfl ?_
      refine zW.call (mid2 := 25) (as := [.inr r, .inl (.int (Int32.ofNat j))]) (rest := []) ⟨rfl, rfl⟩ rfl (zinvV rfl (hw.get 3 rfl) rfl rfl) ⟨Nat.le_of_ble_eq_true rfl, Nat.le_of_ble_eq_true rfl⟩ ?_
      refine s_clr hL hj (hw.sub [3, 4] rfl (by decide)) (fun h5 hv5 hg5 hn5 => ?_)
      have hr5 := hg5.freeS hfr hw [3, 4] rfl
      have hg5 := hg5.w hv5.pres
      have hw5 := hw.join2 [3, 4] rfl hv5 hn5 hg5
      have hf5 := zFw.tr (zFw.rf (N := [v, o, q, r, a])) hg5 (List.forall_mem_cons.mpr ⟨(zOn.of 3 rfl), List.forall_mem_cons.mpr ⟨(zOn.of 4 rfl), (fun _ z => by cases z)⟩⟩)
      show zW xPP _ 79 23 [(2, .inl (.long (fa j))), (0, .inr v), (1, .inl (.int (Int32.ofNat j)))] [] (zNm k0, c0, s0, h5) _
      refine zW.sn 1 (pc2 := 24) (l2 := [(2, .inl (.long (fa j))), (0, .inr v), (1, .inl (.int (Int32.ofNat j)))]) (st2 := [.inr v]) rfl ?_
      refine zW.getf ⟨rfl, rfl⟩ (hw5.get 0 rfl) rfl rfl ?_
      refine zW.sn 1 (pc2 := 28) (l2 := [(2, .inl (.long (fa j))), (0, .inr v), (1, .inl (.int (Int32.ofNat j)))]) (st2 := [.inl (.long (fa j)), .inr o]) rfl ?_
      refine zW.s2 ⟨rfl, rfl⟩ (fun _ => rfl) rfl rfl ?_
      refine zW.sn 1 (pc2 := 32) (l2 := [(2, .inl (.long (fa j))), (0, .inr v), (1, .inl (.int (Int32.ofNat j)))]) (st2 := [.inl (.long ((fa j) ||| (Int64.ofNat 1152921504606846976))), .inr o]) rfl ?_
      refine zW.call (mid2 := 11) (as := [.inr o, .inl (.long ((fa j) ||| (Int64.ofNat 1152921504606846976)))]) (rest := []) ⟨rfl, rfl⟩ rfl (zinvV rfl (hw5.get 1 rfl) rfl rfl) ⟨Nat.le_of_ble_eq_true rfl, Nat.le_of_ble_eq_true rfl⟩ ?_
      refine s_oadd (by omega) (by omega) (by omega) (by omega) hr5 (by omega) (hw5.sub [1, 2] rfl (by decide)) (fun ql6 N6 fo6 kk6 cc6 ss6 h6 hv6 hg6 hr6 hn6 eN6 eo6 ex6 eb6 => ?_)
      have hw6 := hw5.join2 [1, 2] rfl hv6 hn6 hg6
      have hf6 := zFw.tr hf5 hg6 (List.forall_mem_cons.mpr ⟨(zOn.of 1 rfl), List.forall_mem_cons.mpr ⟨(zOn.of 2 rfl), (fun _ z => by cases z)⟩⟩)
      have ho6_q := zOn.sw hn6 hf5 1 rfl rfl (zOn.of 2 rfl)
      show zW xPP _ 79 35 [(2, .inl (.long (fa j))), (0, .inr v), (1, .inl (.int (Int32.ofNat j)))] [] (zNm kk6, cc6, ss6, h6) _
      refine zW.ret rfl rfl ?_
      show zW xPP _ 80 18 [(0, .inr v), (1, .inl (.int (Int32.ofNat j))), (2, .inl (.int (Int32.ofNat k))), (3, .inl (.long y))] [] (zNm kk6, cc6, ss6, h6) _
      refine zW.sn 1 (pc2 := 19) (l2 := [(0, .inr v), (1, .inl (.int (Int32.ofNat j))), (2, .inl (.int (Int32.ofNat k))), (3, .inl (.long y))]) (st2 := [.inr v]) rfl ?_
      refine zW.sn 1 (pc2 := 20) (l2 := [(0, .inr v), (1, .inl (.int (Int32.ofNat j))), (2, .inl (.int (Int32.ofNat k))), (3, .inl (.long y))]) (st2 := [.inl (.int (Int32.ofNat k)), .inr v]) rfl ?_
      refine zW.sn 1 (pc2 := 21) (l2 := [(0, .inr v), (1, .inl (.int (Int32.ofNat j))), (2, .inl (.int (Int32.ofNat k))), (3, .inl (.long y))]) (st2 := [.inl (.long y), .inl (.int (Int32.ofNat k)), .inr v]) rfl ?_
      refine zW.call (mid2 := 78) (as := [.inr v, .inl (.int (Int32.ofNat k)), .inl (.long y)]) (rest := []) ⟨rfl, rfl⟩ rfl (zinvV rfl (hw6.get 0 rfl) rfl rfl) ⟨Nat.le_of_ble_eq_true rfl, Nat.le_of_ble_eq_true rfl⟩ ?_
      show zW xPP _ 78 0 [(0, .inr v), (1, .inl (.int (Int32.ofNat k))), (2, .inl (.long y))] [] (zNm kk6, cc6, ss6, h6) _
      refine zW.sn 1 (pc2 := 1) (l2 := [(0, .inr v), (1, .inl (.int (Int32.ofNat k))), (2, .inl (.long y))]) (st2 := [.inr v]) rfl ?_
      refine zW.getf ⟨rfl, rfl⟩ (hw6.get 0 rfl) rfl rfl ?_
      refine zW.sn 1 (pc2 := 5) (l2 := [(0, .inr v), (1, .inl (.int (Int32.ofNat k))), (2, .inl (.long y))]) (st2 := [.inl (.int (Int32.ofNat k)), .inr r]) rfl ?_
      refine zW.sn 1 (pc2 := 6) (l2 := [(0, .inr v), (1, .inl (.int (Int32.ofNat k))), (2, .inl (.long y))]) (st2 := [.inl (.long y), .inl (.int (Int32.ofNat k)), .inr r]) rfl ?_
      refine zW.call (mid2 := 24) (as := [.inr r, .inl (.int (Int32.ofNat k)), .inl (.long y)]) (rest := []) ⟨rfl, rfl⟩ rfl (zinvV rfl (hw6.get 3 rfl) rfl rfl) ⟨Nat.le_of_ble_eq_true rfl, Nat.le_of_ble_eq_true rfl⟩ ?_
      refine s_put hL hk hy (hw6.sub [3, 4] rfl (by decide)) (fun h7 hv7 hg7 hn7 => ?_)
      have hr7 := hg7.freeS hr6 hw6 [3, 4] rfl
      have hg7 := hg7.w hv7.pres
      have hw7 := hw6.join2 [3, 4] rfl hv7 hn7 hg7
      have hf7 := zFw.tr hf6 hg7 (List.forall_mem_cons.mpr ⟨(zOn.of 3 rfl), List.forall_mem_cons.mpr ⟨(zOn.of 4 rfl), (fun _ z => by cases z)⟩⟩)
      show zW xPP _ 78 9 [(0, .inr v), (1, .inl (.int (Int32.ofNat k))), (2, .inl (.long y))] [] (zNm kk6, cc6, ss6, h7) _
      refine zW.sn 1 (pc2 := 10) (l2 := [(0, .inr v), (1, .inl (.int (Int32.ofNat k))), (2, .inl (.long y))]) (st2 := [.inr v]) rfl ?_
      refine zW.getf ⟨rfl, rfl⟩ (hw7.get 0 rfl) rfl rfl ?_
      refine zW.sn 1 (pc2 := 14) (l2 := [(0, .inr v), (1, .inl (.int (Int32.ofNat k))), (2, .inl (.long y))]) (st2 := [.inl (.long y), .inr o]) rfl ?_
      refine zW.call (mid2 := 11) (as := [.inr o, .inl (.long y)]) (rest := []) ⟨rfl, rfl⟩ rfl (zinvV rfl (hw7.get 1 rfl) rfl rfl) ⟨Nat.le_of_ble_eq_true rfl, Nat.le_of_ble_eq_true rfl⟩ ?_
      refine s_oadd (by omega) (by omega) (by omega) (by omega) hr7 (by omega) (hw7.sub [1, 2] rfl (by decide)) (fun ql8 N8 fo8 kk8 cc8 ss8 h8 hv8 hg8 hr8 hn8 eN8 eo8 ex8 eb8 => ?_)
      have hw8 := hw7.join2 [1, 2] rfl hv8 hn8 hg8
      have hf8 := zFw.tr hf7 hg8 (List.forall_mem_cons.mpr ⟨(zOn.of 1 rfl), List.forall_mem_cons.mpr ⟨ho6_q, (fun _ z => by cases z)⟩⟩)
      have ho8_q := zOn.sw hn8 hf7 1 rfl rfl ho6_q
      show zW xPP _ 78 17 [(0, .inr v), (1, .inl (.int (Int32.ofNat k))), (2, .inl (.long y))] [] (zNm kk8, cc8, ss8, h8) _
      refine zW.ret rfl rfl ?_
      show zW xPP _ 80 24 [(0, .inr v), (1, .inl (.int (Int32.ofNat j))), (2, .inl (.int (Int32.ofNat k))), (3, .inl (.long y))] [] (zNm kk8, cc8, ss8, h8) _
      refine zW.ret rfl rfl ?_
      exact k3 ql6 N6 fo6 kk6 cc6 ss6 ql8 N8 fo8 kk8 cc8 ss8 _ hw8 hf8 hr8 ho8_q e1 e2 eN6 eo6 ex6 eb6 eN8 eo8 ex8 eb8

set_option maxHeartbeats 4000000 in
theorem w_tellJ {d : Nat} {k0 c0 s0 : Nat} {h : xH} {Q : xR → xA → Prop} {v o q r a fr hd : Nat × Nat} {nu bs fi sz gr dr : Int32} {N z L : Nat} {fo fa : Nat → Int64} {kp : Nat × Nat} {k : Nat} {y : Int64} (hL : L < 2147483647) (hN : N ≤ 320000) (hN0 : 0 < N) (hzN : z ≤ N) (hz : z + 2 < 320000) (hmy : k0 + 320000 < 390000 + N) (hk : k < L) (hy : y ≠ 0) (hfr : zFree k0 h) (hmx : k0 + 0 < zMax) (hw : zWd h [(v, .inl (2, [.inl (.int nu), .inl (.int bs), .inl (.int fi), .inl (.int sz), .inl (.int gr), .inr o, .inr r, .inr fr, .inr hd, .inl (.int dr), .inr kp])), (o, .inl (3, [.inr q, .inl (.int (Int32.ofNat z))])), (q, .inr (1, N, zJ fo)), (r, .inl (5, [.inr a, .inl (.int (Int32.ofNat (zcnt fa L)))])), (a, .inr (1, L, zJ fa))])
    (k1 : ∀ (ql2 : Nat × Nat), ∀ (N2 : Nat), ∀ (fo2 : Nat → Int64), ∀ (kk2 : Nat), ∀ (cc2 : Nat), ∀ (ss2 : Nat), ∀ h1, zWd h1 [(v, .inl (2, [.inl (.int nu), .inl (.int bs), .inl (.int fi), .inl (.int sz), .inl (.int gr), .inr o, .inr r, .inr fr, .inr hd, .inl (.int dr), .inr kp])), (o, .inl (3, [.inr ql2, .inl (.int (Int32.ofNat (z + 1)))])), (ql2, .inr (1, N2, zJ fo2)), (r, .inl (5, [.inr a, .inl (.int (Int32.ofNat (zcnt (zfi fa k y) L)))])), (a, .inr (1, L, zJ (zfi fa k y)))] → zFw [v, o, q, r, a] h h1 → zFree kk2 h1 → zOn [v, o, q, r, a] h ql2 → N ≤ N2 ∧ N2 ≤ 320000 ∧ z + 1 ≤ N2 → (∀ j, j < z → fo2 j = fo j) → fo2 z = y → (k0 ≤ kk2 ∧ kk2 + N ≤ k0 + N2 ∧ cc2 + N ≤ c0 + N2 ∧ ss2 + zB N ≤ s0 + zB N2) → Q (.inl none) (zNm kk2, cc2, ss2, h1)) :
    zW xPP (d + 2) 78 0 [(0, .inr v), (1, .inl (.int (Int32.ofNat k))), (2, .inl (.long y))] [] (zNm k0, c0, s0, h) Q := by
  refine zW.sn 1 (pc2 := 1) (l2 := [(0, .inr v), (1, .inl (.int (Int32.ofNat k))), (2, .inl (.long y))]) (st2 := [.inr v]) rfl ?_
  refine zW.getf ⟨rfl, rfl⟩ (hw.get 0 rfl) rfl rfl ?_
  refine zW.sn 1 (pc2 := 5) (l2 := [(0, .inr v), (1, .inl (.int (Int32.ofNat k))), (2, .inl (.long y))]) (st2 := [.inl (.int (Int32.ofNat k)), .inr r]) rfl ?_
  refine zW.sn 1 (pc2 := 6) (l2 := [(0, .inr v), (1, .inl (.int (Int32.ofNat k))), (2, .inl (.long y))]) (st2 := [.inl (.long y), .inl (.int (Int32.ofNat k)), .inr r]) rfl ?_
  refine zW.call (mid2 := 24) (as := [.inr r, .inl (.int (Int32.ofNat k)), .inl (.long y)]) (rest := []) ⟨rfl, rfl⟩ rfl (zinvV rfl (hw.get 3 rfl) rfl rfl) ⟨Nat.le_of_ble_eq_true rfl, Nat.le_of_ble_eq_true rfl⟩ ?_
  refine s_put hL hk hy (hw.sub [3, 4] rfl (by decide)) (fun h1 hv1 hg1 hn1 => ?_)
  have hr1 := hg1.freeS hfr hw [3, 4] rfl
  have hg1 := hg1.w hv1.pres
  have hw1 := hw.join2 [3, 4] rfl hv1 hn1 hg1
  have hf1 := zFw.tr (zFw.rf (N := [v, o, q, r, a])) hg1 (List.forall_mem_cons.mpr ⟨(zOn.of 3 rfl), List.forall_mem_cons.mpr ⟨(zOn.of 4 rfl), (fun _ z => by cases z)⟩⟩)
  show zW xPP _ 78 9 [(0, .inr v), (1, .inl (.int (Int32.ofNat k))), (2, .inl (.long y))] [] (zNm k0, c0, s0, h1) _
  refine zW.sn 1 (pc2 := 10) (l2 := [(0, .inr v), (1, .inl (.int (Int32.ofNat k))), (2, .inl (.long y))]) (st2 := [.inr v]) rfl ?_
  refine zW.getf ⟨rfl, rfl⟩ (hw1.get 0 rfl) rfl rfl ?_
  refine zW.sn 1 (pc2 := 14) (l2 := [(0, .inr v), (1, .inl (.int (Int32.ofNat k))), (2, .inl (.long y))]) (st2 := [.inl (.long y), .inr o]) rfl ?_
  refine zW.call (mid2 := 11) (as := [.inr o, .inl (.long y)]) (rest := []) ⟨rfl, rfl⟩ rfl (zinvV rfl (hw1.get 1 rfl) rfl rfl) ⟨Nat.le_of_ble_eq_true rfl, Nat.le_of_ble_eq_true rfl⟩ ?_
  refine s_oadd (by omega) (by omega) (by omega) (by omega) hr1 (by omega) (hw1.sub [1, 2] rfl (by decide)) (fun ql2 N2 fo2 kk2 cc2 ss2 h2 hv2 hg2 hr2 hn2 eN2 eo2 ex2 eb2 => ?_)
  have hw2 := hw1.join2 [1, 2] rfl hv2 hn2 hg2
  have hf2 := zFw.tr hf1 hg2 (List.forall_mem_cons.mpr ⟨(zOn.of 1 rfl), List.forall_mem_cons.mpr ⟨(zOn.of 2 rfl), (fun _ z => by cases z)⟩⟩)
  have ho2_q := zOn.sw hn2 hf1 1 rfl rfl (zOn.of 2 rfl)
  show zW xPP _ 78 17 [(0, .inr v), (1, .inl (.int (Int32.ofNat k))), (2, .inl (.long y))] [] (zNm kk2, cc2, ss2, h2) _
  refine zW.ret rfl rfl ?_
  exact k1 ql2 N2 fo2 kk2 cc2 ss2 _ hw2 hf2 hr2 ho2_q eN2 eo2 ex2 eb2

end ZP4
