set_option maxRecDepth 100000
section ZP3
set_option maxHeartbeats 4000000 in
theorem w_oadd {d : Nat} {k0 c0 s0 : Nat} {h : xH} {Q : xR → xA → Prop} {o q : Nat × Nat} {N z : Nat} {fo : Nat → Int64} {x : Int64} (hN : N < 2147483648) (hz : z < N) (hw : zWd h [(o, .inl (3, [.inr q, .inl (.int (Int32.ofNat z))])), (q, .inr (1, N, zJ fo))])
    (k1 : ∀ h1, zWd h1 [(o, .inl (3, [.inr q, .inl (.int ((Int32.ofNat z) + 1))])), (q, .inr (1, N, zJ (zfi fo (Int32.toNatClampNeg (Int32.ofNat z)) x)))] → zFr [o, q] h h1 → Q (.inl none) (zNm k0, c0, s0, h1)) :
    zW xPP d 11 0 [(0, .inr o), (1, .inl (.long x))] [] (zNm k0, c0, s0, h) Q := by
  refine zW.sn 1 (pc2 := 1) (l2 := [(0, .inr o), (1, .inl (.long x))]) (st2 := [.inr o]) rfl ?_
  refine zW.getf ⟨rfl, rfl⟩ (hw.get 0 rfl) rfl rfl ?_
  refine zW.sn 1 (pc2 := 5) (l2 := [(0, .inr o), (1, .inl (.long x))]) (st2 := [.inr o, .inl (.int (Int32.ofNat z))]) rfl ?_
  refine zW.getf ⟨rfl, rfl⟩ (hw.get 0 rfl) rfl rfl ?_
  refine zW.alen ⟨rfl, rfl⟩ (hw.get 1 rfl) ?_
  refine zW.ific (tgt := 44) ⟨rfl, rfl⟩ rfl (fun _ => ?_) (fun zz => absurd zz (by rw [show xcd .lt (Int32.ofNat z) (Int32.ofNat N) = true from zx_lt hN hz]; decide))
  refine zW.sn 1 (pc2 := 45) (l2 := [(0, .inr o), (1, .inl (.long x))]) (st2 := [.inr o]) rfl ?_
  refine zW.getf ⟨rfl, rfl⟩ (hw.get 0 rfl) rfl rfl ?_
  refine zW.ifc (tgt := 83) ⟨rfl, rfl⟩ rfl (fun zz => absurd zz (by rw [show xcd .lt (Int32.ofNat z) 0 = false from zx_lt0 (by omega)]; decide)) (fun _ => ?_)
  refine zW.sn 1 (pc2 := 52) (l2 := [(0, .inr o), (1, .inl (.long x))]) (st2 := [.inr o]) rfl ?_
  refine zW.getf ⟨rfl, rfl⟩ (hw.get 0 rfl) rfl rfl ?_
  refine zW.sn 1 (pc2 := 56) (l2 := [(0, .inr o), (1, .inl (.long x))]) (st2 := [.inr o, .inl (.int (Int32.ofNat z))]) rfl ?_
  refine zW.getf ⟨rfl, rfl⟩ (hw.get 0 rfl) rfl rfl ?_
  refine zW.alen ⟨rfl, rfl⟩ (hw.get 1 rfl) ?_
  refine zW.ific (tgt := 83) ⟨rfl, rfl⟩ rfl (fun zz => absurd zz (by rw [show xcd .ge (Int32.ofNat z) (Int32.ofNat N) = false from zx_ge hN hz]; decide)) (fun _ => ?_)
  refine zW.sn 1 (pc2 := 64) (l2 := [(0, .inr o), (1, .inl (.long x))]) (st2 := [.inr o]) rfl ?_
  refine zW.getf ⟨rfl, rfl⟩ (hw.get 0 rfl) rfl rfl ?_
  refine zW.sn 1 (pc2 := 68) (l2 := [(0, .inr o), (1, .inl (.long x))]) (st2 := [.inr o, .inr q]) rfl ?_
  refine zW.getf ⟨rfl, rfl⟩ (hw.get 0 rfl) rfl rfl ?_
  refine zW.sn 1 (pc2 := 72) (l2 := [(0, .inr o), (1, .inl (.long x))]) (st2 := [.inl (.long x), .inl (.int (Int32.ofNat z)), .inr q]) rfl ?_
  refine zW.last ⟨rfl, rfl⟩ (hw.get 1 rfl) (hw.nz 1 rfl) (zbd hN hz) ?_
  have hw1 := hw.set 1 rfl (.inr (1, N, zJ (zfi fo (Int32.toNatClampNeg (Int32.ofNat z)) x)))
  have hf1 : zFr [o, q] h _ := zFr.put (zFr.rf) (q := q) (o := .inr (1, N, zJ (zfi fo (Int32.toNatClampNeg (Int32.ofNat z)) x))) (List.mem_of_getElem? (i := 1) rfl)
  show zW xPP _ 11 73 [(0, .inr o), (1, .inl (.long x))] [] (zNm k0, c0, s0, (xup h q (.inr (1, N, zJ (zfi fo (Int32.toNatClampNeg (Int32.ofNat z)) x))))) _
  refine zW.sn 1 (pc2 := 74) (l2 := [(0, .inr o), (1, .inl (.long x))]) (st2 := [.inr o]) rfl ?_
  refine zW.sn 1 (pc2 := 75) (l2 := [(0, .inr o), (1, .inl (.long x))]) (st2 := [.inr o, .inr o]) rfl ?_
  refine zW.getf ⟨rfl, rfl⟩ (hw1.get 0 rfl) rfl rfl ?_
  refine zW.sn 1 (pc2 := 79) (l2 := [(0, .inr o), (1, .inl (.long x))]) (st2 := [.inl (.int 1), .inl (.int (Int32.ofNat z)), .inr o]) rfl ?_
  refine zW.sn 1 (pc2 := 80) (l2 := [(0, .inr o), (1, .inl (.long x))]) (st2 := [.inl (.int ((Int32.ofNat z) + 1)), .inr o]) rfl ?_
  refine zW.putf ⟨rfl, rfl⟩ (hw1.get 0 rfl) rfl (hw1.nz 0 rfl) rfl ?_
  have hw2 := hw1.set 0 rfl (.inl (3, [.inr q, .inl (.int ((Int32.ofNat z) + 1))]))
  have hf2 : zFr [o, q] h _ := zFr.put (hf1) (q := o) (o := .inl (3, [.inr q, .inl (.int ((Int32.ofNat z) + 1))])) (List.mem_of_getElem? (i := 0) rfl)
  show zW xPP _ 11 83 [(0, .inr o), (1, .inl (.long x))] [] (zNm k0, c0, s0, (xup (xup h q (.inr (1, N, zJ (zfi fo (Int32.toNatClampNeg (Int32.ofNat z)) x)))) o (.inl (3, [.inr q, .inl (.int ((Int32.ofNat z) + 1))])))) _
  refine zW.ret rfl rfl ?_
  exact k1 _ hw2 hf2

set_option maxHeartbeats 4000000 in
theorem w_oaddG {d : Nat} {k0 c0 s0 : Nat} {h : xH} {Q : xR → xA → Prop} {o q : Nat × Nat} {N z : Nat} {fo : Nat → Int64} {x : Int64} (hN : N < 320000) (hN0 : 0 < N) (hz : z = N) (hfr : zFree k0 h) (hmx : k0 + 1 < zMax) (hw : zWd h [(o, .inl (3, [.inr q, .inl (.int (Int32.ofNat z))])), (q, .inr (1, N, zJ fo))])
    (k1 : ∀ h1, zWd h1 [(o, .inl (3, [.inr (1, k0), .inl (.int ((Int32.ofNat z) + 1))])), (q, .inr (1, N, zJ fo)), ((1, k0), .inr (1, (Nat.min (2 * N) 320000), zJ (zfi (fun j => if j < N then fo j else 0) (Int32.toNatClampNeg (Int32.ofNat z)) x)))] → zFw [o, q] h h1 → zFree (k0 + 1) h1 → Q (.inl none) (zNm (k0 + 1), (c0 + 1), (s0 + (Nat.min (2 * N) 320000)), h1)) :
    zW xPP (d + 1) 11 0 [(0, .inr o), (1, .inl (.long x))] [] (zNm k0, c0, s0, h) Q := by
  refine zW.sn 1 (pc2 := 1) (l2 := [(0, .inr o), (1, .inl (.long x))]) (st2 := [.inr o]) rfl ?_
  refine zW.getf ⟨rfl, rfl⟩ (hw.get 0 rfl) rfl rfl ?_
  refine zW.sn 1 (pc2 := 5) (l2 := [(0, .inr o), (1, .inl (.long x))]) (st2 := [.inr o, .inl (.int (Int32.ofNat z))]) rfl ?_
  refine zW.getf ⟨rfl, rfl⟩ (hw.get 0 rfl) rfl rfl ?_
  refine zW.alen ⟨rfl, rfl⟩ (hw.get 1 rfl) ?_
  refine zW.ific (tgt := 44) ⟨rfl, rfl⟩ rfl (fun zz => absurd zz (by rw [show xcd .lt (Int32.ofNat z) (Int32.ofNat N) = false from zmin4 hN hz]; decide)) (fun _ => ?_)
  refine zW.sn 1 (pc2 := 13) (l2 := [(0, .inr o), (1, .inl (.long x))]) (st2 := [.inr o]) rfl ?_
  refine zW.getf ⟨rfl, rfl⟩ (hw.get 0 rfl) rfl rfl ?_
  refine zW.s2 ⟨rfl, rfl⟩ (fun _ => rfl) rfl rfl ?_
  refine zW.ific (tgt := 44) ⟨rfl, rfl⟩ rfl (fun zz => absurd zz (by rw [show xcd .ge (Int32.ofNat z) (Int32.ofNat 320000) = false from zx_ge (by omega) (by omega)]; decide)) (fun _ => ?_)
  refine zW.sn 1 (pc2 := 22) (l2 := [(0, .inr o), (1, .inl (.long x))]) (st2 := [.inr o]) rfl ?_
  refine zW.sn 1 (pc2 := 23) (l2 := [(0, .inr o), (1, .inl (.long x))]) (st2 := [.inr o, .inr o]) rfl ?_
  refine zW.getf ⟨rfl, rfl⟩ (hw.get 0 rfl) rfl rfl ?_
  refine zW.sn 1 (pc2 := 27) (l2 := [(0, .inr o), (1, .inl (.long x))]) (st2 := [.inr o, .inr q, .inr o]) rfl ?_
  refine zW.getf ⟨rfl, rfl⟩ (hw.get 0 rfl) rfl rfl ?_
  refine zW.alen ⟨rfl, rfl⟩ (hw.get 1 rfl) ?_
  refine zW.sn 1 (pc2 := 32) (l2 := [(0, .inr o), (1, .inl (.long x))]) (st2 := [.inl (.int 2), .inl (.int (Int32.ofNat N)), .inr q, .inr o]) rfl ?_
  refine zW.sn 1 (pc2 := 33) (l2 := [(0, .inr o), (1, .inl (.long x))]) (st2 := [.inl (.int ((Int32.ofNat N) * 2)), .inr q, .inr o]) rfl ?_
  refine zW.s2 ⟨rfl, rfl⟩ (fun _ => rfl) rfl rfl ?_
  refine zW.mini ⟨rfl, rfl⟩ (Nat.le_of_ble_eq_true rfl) ?_
  rw [show (if (Int32.ofNat 320000) < ((Int32.ofNat N) * 2) then (Int32.ofNat 320000) else ((Int32.ofNat N) * 2)) = (Int32.ofNat (Nat.min (2 * N) 320000)) from zmin2 hN]
  refine zW.call (mid2 := 163) (as := [.inr q, .inl (.int (Int32.ofNat (Nat.min (2 * N) 320000)))]) (rest := [.inr o]) ⟨rfl, rfl⟩ rfl rfl ⟨Nat.le_of_ble_eq_true rfl, Nat.le_of_ble_eq_true rfl⟩ ?_
  show zW xPP _ 163 0 [(0, .inr q), (1, .inl (.int (Int32.ofNat (Nat.min (2 * N) 320000))))] [] (zNm k0, c0, s0, h) _
  refine zW.sn 1 (pc2 := 1) (l2 := [(0, .inr q), (1, .inl (.int (Int32.ofNat (Nat.min (2 * N) 320000))))]) (st2 := [.inl (.int (Int32.ofNat (Nat.min (2 * N) 320000)))]) rfl ?_
  refine zW.sn 1 (pc2 := 2) (l2 := [(0, .inr q), (1, .inl (.int (Int32.ofNat (Nat.min (2 * N) 320000))))]) (st2 := [.inr q, .inl (.int (Int32.ofNat (Nat.min (2 * N) 320000)))]) rfl ?_
  refine zW.alen ⟨rfl, rfl⟩ (hw.get 1 rfl) ?_
  refine zW.ific (tgt := 14) ⟨rfl, rfl⟩ rfl (fun _ => ?_) (fun zz => absurd zz (by rw [show xcd .ne (Int32.ofNat (Nat.min (2 * N) 320000)) (Int32.ofNat N) = true from zmin5 hN hN0]; decide))
  refine zW.sn 1 (pc2 := 15) (l2 := [(0, .inr q), (1, .inl (.int (Int32.ofNat (Nat.min (2 * N) 320000))))]) (st2 := [.inl (.int (Int32.ofNat (Nat.min (2 * N) 320000)))]) rfl ?_
  refine zW.newa ⟨rfl, rfl⟩ (by omega) hfr (zk_0 (zmin7 hN)) (by rw [zk_nat (zmin7 hN)]; exact zmin8) ?_
  rw [zk_nat (zmin7 hN)]
  have hw1 := hw.add hfr (.inr (1, (Nat.min (2 * N) 320000), zJ (fun _ => 0)))
  have hf1 := zFw.put (zFw.rf (N := [o, q])) (q := (1, k0)) (Or.inr (hfr _ (by first | exact Nat.le_refl _ | omega))) (.inr (1, (Nat.min (2 * N) 320000), zJ (fun _ => 0)))
  have hr1 := zFree.add hfr (.inr (1, (Nat.min (2 * N) 320000), zJ (fun _ => 0)))
  show zW xPP _ 163 17 [(0, .inr q), (1, .inl (.int (Int32.ofNat (Nat.min (2 * N) 320000))))] [.inr (1, k0)] (zNm (k0 + 1), (c0 + 1), (s0 + (Nat.min (2 * N) 320000)), (xup h (1, k0) (.inr (1, (Nat.min (2 * N) 320000), zJ (fun _ => 0))))) _
  refine zW.sn 1 (pc2 := 18) (l2 := [(2, .inr (1, k0)), (0, .inr q), (1, .inl (.int (Int32.ofNat (Nat.min (2 * N) 320000))))]) (st2 := []) rfl ?_
  refine zW.sn 1 (pc2 := 19) (l2 := [(2, .inr (1, k0)), (0, .inr q), (1, .inl (.int (Int32.ofNat (Nat.min (2 * N) 320000))))]) (st2 := [.inr q]) rfl ?_
  refine zW.sn 1 (pc2 := 20) (l2 := [(2, .inr (1, k0)), (0, .inr q), (1, .inl (.int (Int32.ofNat (Nat.min (2 * N) 320000))))]) (st2 := [.inl (.int 0), .inr q]) rfl ?_
  refine zW.sn 1 (pc2 := 21) (l2 := [(2, .inr (1, k0)), (0, .inr q), (1, .inl (.int (Int32.ofNat (Nat.min (2 * N) 320000))))]) (st2 := [.inr (1, k0), .inl (.int 0), .inr q]) rfl ?_
  refine zW.sn 1 (pc2 := 22) (l2 := [(2, .inr (1, k0)), (0, .inr q), (1, .inl (.int (Int32.ofNat (Nat.min (2 * N) 320000))))]) (st2 := [.inl (.int 0), .inr (1, k0), .inl (.int 0), .inr q]) rfl ?_
  refine zW.sn 1 (pc2 := 23) (l2 := [(2, .inr (1, k0)), (0, .inr q), (1, .inl (.int (Int32.ofNat (Nat.min (2 * N) 320000))))]) (st2 := [.inr q, .inl (.int 0), .inr (1, k0), .inl (.int 0), .inr q]) rfl ?_
  refine zW.alen ⟨rfl, rfl⟩ (hw1.get 1 rfl) ?_
  refine zW.sn 1 (pc2 := 25) (l2 := [(2, .inr (1, k0)), (0, .inr q), (1, .inl (.int (Int32.ofNat (Nat.min (2 * N) 320000))))]) (st2 := [.inl (.int (Int32.ofNat (Nat.min (2 * N) 320000))), .inl (.int (Int32.ofNat N)), .inl (.int 0), .inr (1, k0), .inl (.int 0), .inr q]) rfl ?_
  refine zW.mini ⟨rfl, rfl⟩ (Nat.le_of_ble_eq_true rfl) ?_
  rw [show (if (Int32.ofNat (Nat.min (2 * N) 320000)) < (Int32.ofNat N) then (Int32.ofNat (Nat.min (2 * N) 320000)) else (Int32.ofNat N)) = (Int32.ofNat N) from zmin3 hN]
  refine zW.acp ⟨rfl, rfl⟩ (hw1.get 1 rfl) (hw1.get 2 rfl) (by decide) (hw1.nz 2 rfl) ⟨by decide, by decide, zk_0 (by omega)⟩ (zcp_b hN hN0) (zcp_l hN) (Nat.le_of_ble_eq_true rfl) ?_
  rw [zcp_e hN]
  have hr2 := zFree.put hr1 (hw1.get 2 rfl) (.inr (1, (Nat.min (2 * N) 320000), zJ (fun j => if j < N then fo j else 0)))
  have hw2 := hw1.set 2 rfl (.inr (1, (Nat.min (2 * N) 320000), zJ (fun j => if j < N then fo j else 0)))
  have hf2 := zFw.put (hf1) (Or.inr (hfr k0 (by omega))) (.inr (1, (Nat.min (2 * N) 320000), zJ (fun j => if j < N then fo j else 0)))
  show zW xPP _ 163 31 [(2, .inr (1, k0)), (0, .inr q), (1, .inl (.int (Int32.ofNat (Nat.min (2 * N) 320000))))] [] (zNm (k0 + 1), (c0 + 1), (s0 + (Nat.min (2 * N) 320000)), (xup (xup h (1, k0) (.inr (1, (Nat.min (2 * N) 320000), zJ (fun _ => 0)))) (1, k0) (.inr (1, (Nat.min (2 * N) 320000), zJ (fun j => if j < N then fo j else 0))))) _
  refine zW.sn 1 (pc2 := 32) (l2 := [(2, .inr (1, k0)), (0, .inr q), (1, .inl (.int (Int32.ofNat (Nat.min (2 * N) 320000))))]) (st2 := [.inr (1, k0)]) rfl ?_
  refine zW.ret rfl rfl ?_
  show zW xPP _ 11 41 [(0, .inr o), (1, .inl (.long x))] [.inr (1, k0), .inr o] (zNm (k0 + 1), (c0 + 1), (s0 + (Nat.min (2 * N) 320000)), (xup (xup h (1, k0) (.inr (1, (Nat.min (2 * N) 320000), zJ (fun _ => 0)))) (1, k0) (.inr (1, (Nat.min (2 * N) 320000), zJ (fun j => if j < N then fo j else 0))))) _
  refine zW.putf ⟨rfl, rfl⟩ (hw2.get 0 rfl) rfl (hw2.nz 0 rfl) rfl ?_
  have hr3 := zFree.put hr2 (hw2.get 0 rfl) (.inl (3, [.inr (1, k0), .inl (.int (Int32.ofNat z))]))
  have hw3 := hw2.set 0 rfl (.inl (3, [.inr (1, k0), .inl (.int (Int32.ofNat z))]))
  have hf3 := zFw.put (hf2) (zOn.of 0 rfl) (.inl (3, [.inr (1, k0), .inl (.int (Int32.ofNat z))]))
  show zW xPP _ 11 44 [(0, .inr o), (1, .inl (.long x))] [] (zNm (k0 + 1), (c0 + 1), (s0 + (Nat.min (2 * N) 320000)), (xup (xup (xup h (1, k0) (.inr (1, (Nat.min (2 * N) 320000), zJ (fun _ => 0)))) (1, k0) (.inr (1, (Nat.min (2 * N) 320000), zJ (fun j => if j < N then fo j else 0)))) o (.inl (3, [.inr (1, k0), .inl (.int (Int32.ofNat z))])))) _
  refine zW.sn 1 (pc2 := 45) (l2 := [(0, .inr o), (1, .inl (.long x))]) (st2 := [.inr o]) rfl ?_
  refine zW.getf ⟨rfl, rfl⟩ (hw3.get 0 rfl) rfl rfl ?_
  refine zW.ifc (tgt := 83) ⟨rfl, rfl⟩ rfl (fun zz => absurd zz (by rw [show xcd .lt (Int32.ofNat z) 0 = false from zx_lt0 (by omega)]; decide)) (fun _ => ?_)
  refine zW.sn 1 (pc2 := 52) (l2 := [(0, .inr o), (1, .inl (.long x))]) (st2 := [.inr o]) rfl ?_
  refine zW.getf ⟨rfl, rfl⟩ (hw3.get 0 rfl) rfl rfl ?_
  refine zW.sn 1 (pc2 := 56) (l2 := [(0, .inr o), (1, .inl (.long x))]) (st2 := [.inr o, .inl (.int (Int32.ofNat z))]) rfl ?_
  refine zW.getf ⟨rfl, rfl⟩ (hw3.get 0 rfl) rfl rfl ?_
  refine zW.alen ⟨rfl, rfl⟩ (hw3.get 2 rfl) ?_
  refine zW.ific (tgt := 83) ⟨rfl, rfl⟩ rfl (fun zz => absurd zz (by rw [show xcd .ge (Int32.ofNat z) (Int32.ofNat (Nat.min (2 * N) 320000)) = false from zmin6 hN hN0 hz]; decide)) (fun _ => ?_)
  refine zW.sn 1 (pc2 := 64) (l2 := [(0, .inr o), (1, .inl (.long x))]) (st2 := [.inr o]) rfl ?_
  refine zW.getf ⟨rfl, rfl⟩ (hw3.get 0 rfl) rfl rfl ?_
  refine zW.sn 1 (pc2 := 68) (l2 := [(0, .inr o), (1, .inl (.long x))]) (st2 := [.inr o, .inr (1, k0)]) rfl ?_
  refine zW.getf ⟨rfl, rfl⟩ (hw3.get 0 rfl) rfl rfl ?_
  refine zW.sn 1 (pc2 := 72) (l2 := [(0, .inr o), (1, .inl (.long x))]) (st2 := [.inl (.long x), .inl (.int (Int32.ofNat z)), .inr (1, k0)]) rfl ?_
  refine zW.last ⟨rfl, rfl⟩ (hw3.get 2 rfl) (hw3.nz 2 rfl) (zmin9 hN hN0 hz) ?_
  have hr4 := zFree.put hr3 (hw3.get 2 rfl) (.inr (1, (Nat.min (2 * N) 320000), zJ (zfi (fun j => if j < N then fo j else 0) (Int32.toNatClampNeg (Int32.ofNat z)) x)))
  have hw4 := hw3.set 2 rfl (.inr (1, (Nat.min (2 * N) 320000), zJ (zfi (fun j => if j < N then fo j else 0) (Int32.toNatClampNeg (Int32.ofNat z)) x)))
  have hf4 := zFw.put (hf3) (Or.inr (hfr k0 (by omega))) (.inr (1, (Nat.min (2 * N) 320000), zJ (zfi (fun j => if j < N then fo j else 0) (Int32.toNatClampNeg (Int32.ofNat z)) x)))
  show zW xPP _ 11 73 [(0, .inr o), (1, .inl (.long x))] [] (zNm (k0 + 1), (c0 + 1), (s0 + (Nat.min (2 * N) 320000)), (xup (xup (xup (xup h (1, k0) (.inr (1, (Nat.min (2 * N) 320000), zJ (fun _ => 0)))) (1, k0) (.inr (1, (Nat.min (2 * N) 320000), zJ (fun j => if j < N then fo j else 0)))) o (.inl (3, [.inr (1, k0), .inl (.int (Int32.ofNat z))]))) (1, k0) (.inr (1, (Nat.min (2 * N) 320000), zJ (zfi (fun j => if j < N then fo j else 0) (Int32.toNatClampNeg (Int32.ofNat z)) x))))) _
  refine zW.sn 1 (pc2 := 74) (l2 := [(0, .inr o), (1, .inl (.long x))]) (st2 := [.inr o]) rfl ?_
  refine zW.sn 1 (pc2 := 75) (l2 := [(0, .inr o), (1, .inl (.long x))]) (st2 := [.inr o, .inr o]) rfl ?_
  refine zW.getf ⟨rfl, rfl⟩ (hw4.get 0 rfl) rfl rfl ?_
  refine zW.sn 1 (pc2 := 79) (l2 := [(0, .inr o), (1, .inl (.long x))]) (st2 := [.inl (.int 1), .inl (.int (Int32.ofNat z)), .inr o]) rfl ?_
  refine zW.sn 1 (pc2 := 80) (l2 := [(0, .inr o), (1, .inl (.long x))]) (st2 := [.inl (.int ((Int32.ofNat z) + 1)), .inr o]) rfl ?_
  refine zW.putf ⟨rfl, rfl⟩ (hw4.get 0 rfl) rfl (hw4.nz 0 rfl) rfl ?_
  have hr5 := zFree.put hr4 (hw4.get 0 rfl) (.inl (3, [.inr (1, k0), .inl (.int ((Int32.ofNat z) + 1))]))
  have hw5 := hw4.set 0 rfl (.inl (3, [.inr (1, k0), .inl (.int ((Int32.ofNat z) + 1))]))
  have hf5 := zFw.put (hf4) (zOn.of 0 rfl) (.inl (3, [.inr (1, k0), .inl (.int ((Int32.ofNat z) + 1))]))
  show zW xPP _ 11 83 [(0, .inr o), (1, .inl (.long x))] [] (zNm (k0 + 1), (c0 + 1), (s0 + (Nat.min (2 * N) 320000)), (xup (xup (xup (xup (xup h (1, k0) (.inr (1, (Nat.min (2 * N) 320000), zJ (fun _ => 0)))) (1, k0) (.inr (1, (Nat.min (2 * N) 320000), zJ (fun j => if j < N then fo j else 0)))) o (.inl (3, [.inr (1, k0), .inl (.int (Int32.ofNat z))]))) (1, k0) (.inr (1, (Nat.min (2 * N) 320000), zJ (zfi (fun j => if j < N then fo j else 0) (Int32.toNatClampNeg (Int32.ofNat z)) x)))) o (.inl (3, [.inr (1, k0), .inl (.int ((Int32.ofNat z) + 1))])))) _
  refine zW.ret rfl rfl ?_
  exact k1 _ hw5 hf5 hr5

end ZP3
