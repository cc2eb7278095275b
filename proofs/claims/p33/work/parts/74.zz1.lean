set_option maxRecDepth 100000
section ZR74
set_option maxHeartbeats 4000000 in
theorem r_vb0 {d c s : Nat} {h : xH} {Q : xR → Nat → Nat → xH → Prop} {v sz gr : Nat} {fi : Int} {dr : Int32} {ro cap : Nat} {ks : List (Nat × Nat)} {k : Nat} {t : Int} (hvr : zVr v fi sz gr) (hv : v < 5) (hsz : 1 ≤ sz ∧ sz ≤ 200) (hgr : gr ≤ 200) (hro : 36 ≤ ro ∧ ro < 42) (hk : k < 8) (ht : -1000 ≤ t ∧ t ≤ 1000) (hkl : ks.length ≤ 240) (H_20_v : h (20, v) = some (.inl (8, [zi (v : Int), zi (zbi true), zi fi, zi (sz : Int), zi (gr : Int), .inr (2, 0), .inr (21, v), .inr (23, v), .inr (25, v), .inl (.int dr), .inr (36, v), .inr (38, v), .inr (40, v)])))
    (k1 : zX d 62 6 [(0, .inr (20, v)), (1, .inr (ro, v)), (2, zi (k : Int)), (3, zi t), (4, .inl .null), (5, zi 0)] [] c s h Q) :
    zX d 62 0 [(0, .inr (20, v)), (1, .inr (ro, v)), (2, zi (k : Int)), (3, zi t)] [] c s h Q := by
  refine zX.sn 1 (pc2 := 1) (l2 := [(0, .inr (20, v)), (1, .inr (ro, v)), (2, zi (k : Int)), (3, zi t)]) (st2 := [.inl .null]) rfl ?_
  refine zX.sn 1 (pc2 := 3) (l2 := [(4, .inl .null), (0, .inr (20, v)), (1, .inr (ro, v)), (2, zi (k : Int)), (3, zi t)]) (st2 := []) rfl ?_
  refine zX.sn 1 (pc2 := 4) (l2 := [(4, .inl .null), (0, .inr (20, v)), (1, .inr (ro, v)), (2, zi (k : Int)), (3, zi t)]) (st2 := [zi 0]) rfl ?_
  refine zX.sn 1 (pc2 := 6) (l2 := [(5, zi 0), (4, .inl .null), (0, .inr (20, v)), (1, .inr (ro, v)), (2, zi (k : Int)), (3, zi t)]) (st2 := []) rfl ?_
  refine zX.re [(0, .inr (20, v)), (1, .inr (ro, v)), (2, zi (k : Int)), (3, zi t), (4, .inl .null), (5, zi 0)] [2, 3, 4, 5, 1, 0] [5, 4, 0, 1, 2, 3] rfl rfl (by decide) ?_
  exact k1

set_option maxHeartbeats 4000000 in
theorem r_vbe0 {d c s : Nat} {h : xH} {Q : xR → Nat → Nat → xH → Prop} {v sz gr : Nat} {fi : Int} {dr : Int32} {ro cap : Nat} {ks : List (Nat × Nat)} {k j : Nat} {t : Int} (hvr : zVr v fi sz gr) (hv : v < 5) (hsz : 1 ≤ sz ∧ sz ≤ 200) (hgr : gr ≤ 200) (hro : 36 ≤ ro ∧ ro < 42) (hk : k < 8) (ht : -1000 ≤ t ∧ t ≤ 1000) (hkl : ks.length ≤ 240) (hj : j = ks.length) (H_20_v : h (20, v) = some (.inl (8, [zi (v : Int), zi (zbi true), zi fi, zi (sz : Int), zi (gr : Int), .inr (2, 0), .inr (21, v), .inr (23, v), .inr (25, v), .inl (.int dr), .inr (36, v), .inr (38, v), .inr (40, v)]))) (P_lst : zAL h ro v cap ks)
    (k1 : Q (.inl (some (.inl .null))) c s h) :
    zX (d + 1) 62 6 [(0, .inr (20, v)), (1, .inr (ro, v)), (2, zi (k : Int)), (3, zi t), (4, .inl .null), (5, zi (j : Int))] [] c s h Q := by
  refine zX.sn 1 (pc2 := 8) (l2 := [(0, .inr (20, v)), (1, .inr (ro, v)), (2, zi (k : Int)), (3, zi t), (4, .inl .null), (5, zi (j : Int))]) (st2 := [zi (j : Int)]) rfl ?_
  refine zX.sn 1 (pc2 := 9) (l2 := [(0, .inr (20, v)), (1, .inr (ro, v)), (2, zi (k : Int)), (3, zi t), (4, .inl .null), (5, zi (j : Int))]) (st2 := [.inr (ro, v), zi (j : Int)]) rfl ?_
  refine zX.call (mid2 := 150) (as := [.inr (ro, v)]) (rest := [zi (j : Int)]) ⟨rfl, rfl⟩ (fun _ => rfl) (zX.invA rfl P_lst rfl rfl) ⟨Nat.le_of_ble_eq_true rfl, Nat.le_of_ble_eq_true rfl⟩ ?_
  refine s_size P_lst ?_
  show zX _ 62 12 [(0, .inr (20, v)), (1, .inr (ro, v)), (2, zi (k : Int)), (3, zi t), (4, .inl .null), (5, zi (j : Int))] [zi (ks.length : Int), zi (j : Int)] c s _ _
  refine zX.icmp (tgt := 70) ⟨rfl, rfl⟩ rfl (by omega) (by omega) (fun (e1 : (ks.length : Int) ≤ (j : Int)) => ?_) (fun (zz : (j : Int) < (ks.length : Int)) => absurd zz (by omega))
  refine zX.sn 1 (pc2 := 72) (l2 := [(0, .inr (20, v)), (1, .inr (ro, v)), (2, zi (k : Int)), (3, zi t), (4, .inl .null), (5, zi (j : Int))]) (st2 := [.inl .null]) rfl ?_
  refine zX.ret rfl rfl ?_
  exact k1

set_option maxHeartbeats 4000000 in
theorem r_vbe1 {d c s : Nat} {h : xH} {Q : xR → Nat → Nat → xH → Prop} {v sz gr : Nat} {fi : Int} {dr : Int32} {ro cap : Nat} {ks : List (Nat × Nat)} {e : zE} {k j : Nat} {t : Int} (hvr : zVr v fi sz gr) (hv : v < 5) (hsz : 1 ≤ sz ∧ sz ≤ 200) (hgr : gr ≤ 200) (hro : 36 ≤ ro ∧ ro < 42) (hk : k < 8) (ht : -1000 ≤ t ∧ t ≤ 1000) (hkl : ks.length ≤ 240) (hj : j = ks.length) (H_20_v : h (20, v) = some (.inl (8, [zi (v : Int), zi (zbi true), zi fi, zi (sz : Int), zi (gr : Int), .inr (2, 0), .inr (21, v), .inr (23, v), .inr (25, v), .inl (.int dr), .inr (36, v), .inr (38, v), .inr (40, v)]))) (P_lst : zAL h ro v cap ks)
    (k1 : Q (.inl (some (.inr (8, zeN e)))) c s h) :
    zX (d + 1) 62 6 [(0, .inr (20, v)), (1, .inr (ro, v)), (2, zi (k : Int)), (3, zi t), (4, .inr (8, zeN e)), (5, zi (j : Int))] [] c s h Q := by
  refine zX.sn 1 (pc2 := 8) (l2 := [(0, .inr (20, v)), (1, .inr (ro, v)), (2, zi (k : Int)), (3, zi t), (4, .inr (8, zeN e)), (5, zi (j : Int))]) (st2 := [zi (j : Int)]) rfl ?_
  refine zX.sn 1 (pc2 := 9) (l2 := [(0, .inr (20, v)), (1, .inr (ro, v)), (2, zi (k : Int)), (3, zi t), (4, .inr (8, zeN e)), (5, zi (j : Int))]) (st2 := [.inr (ro, v), zi (j : Int)]) rfl ?_
  refine zX.call (mid2 := 150) (as := [.inr (ro, v)]) (rest := [zi (j : Int)]) ⟨rfl, rfl⟩ (fun _ => rfl) (zX.invA rfl P_lst rfl rfl) ⟨Nat.le_of_ble_eq_true rfl, Nat.le_of_ble_eq_true rfl⟩ ?_
  refine s_size P_lst ?_
  show zX _ 62 12 [(0, .inr (20, v)), (1, .inr (ro, v)), (2, zi (k : Int)), (3, zi t), (4, .inr (8, zeN e)), (5, zi (j : Int))] [zi (ks.length : Int), zi (j : Int)] c s _ _
  refine zX.icmp (tgt := 70) ⟨rfl, rfl⟩ rfl (by omega) (by omega) (fun (e1 : (ks.length : Int) ≤ (j : Int)) => ?_) (fun (zz : (j : Int) < (ks.length : Int)) => absurd zz (by omega))
  refine zX.sn 1 (pc2 := 72) (l2 := [(0, .inr (20, v)), (1, .inr (ro, v)), (2, zi (k : Int)), (3, zi t), (4, .inr (8, zeN e)), (5, zi (j : Int))]) (st2 := [.inr (8, zeN e)]) rfl ?_
  refine zX.ret rfl rfl ?_
  exact k1

set_option maxHeartbeats 4000000 in
theorem r_vbn {d c s : Nat} {h : xH} {Q : xR → Nat → Nat → xH → Prop} {v sz gr : Nat} {fi : Int} {dr : Int32} {ro cap : Nat} {ks : List (Nat × Nat)} {o : zE} {k j : Nat} {t : Int} (hvr : zVr v fi sz gr) (hv : v < 5) (hsz : 1 ≤ sz ∧ sz ≤ 200) (hgr : gr ≤ 200) (hro : 36 ≤ ro ∧ ro < 42) (hk : k < 8) (ht : -1000 ≤ t ∧ t ≤ 1000) (hkl : ks.length ≤ 240) (hEo : zEr o) (hkyo : zeK o < 8) (htmo : zeT o < 1000) (hvao : -99 ≤ zeV o ∧ zeV o ≤ 99) (haho : -1 ≤ zeA o ∧ zeA o < 1000) (hodo : zeO o < 240) (hiro : 0 ≤ zbi (zeR o) ∧ zbi (zeR o) ≤ 1) (hilo : 0 ≤ zbi (zeL o) ∧ zbi (zeL o) ≤ 1) (hj : j < ks.length) (hx : ks[j]? = some (8, zeN o)) (H_20_v : h (20, v) = some (.inl (8, [zi (v : Int), zi (zbi true), zi fi, zi (sz : Int), zi (gr : Int), .inr (2, 0), .inr (21, v), .inr (23, v), .inr (25, v), .inl (.int dr), .inr (36, v), .inr (38, v), .inr (40, v)]))) (H_8_zeN_o : h (8, zeN o) = some (.inl (1, [zi (zeP o : Int), zi (zbi (zeR o)), zi (zbi (zeL o)), zi (zeK o : Int), zi (zeT o : Int), zi (zeV o), zi (zeO o : Int), zi (zeA o), zi (zeB o)]))) (P_lst : zAL h ro v cap ks)
    (k1 : (¬ (zeK o : Int) = (k : Int)) → zX (d + 3) 62 6 [(0, .inr (20, v)), (1, .inr (ro, v)), (2, zi (k : Int)), (3, zi t), (4, .inl .null), (5, zi ((j : Int) + 1))] [] c s h Q)
    (k2 : ((zeK o : Int) = (k : Int)) → (t < (zeT o : Int)) → zX (d + 3) 62 6 [(0, .inr (20, v)), (1, .inr (ro, v)), (2, zi (k : Int)), (3, zi t), (4, .inl .null), (5, zi ((j : Int) + 1))] [] c s h Q)
    (k3 : ((zeK o : Int) = (k : Int)) → ((zeT o : Int) ≤ t) → zX (d + 3) 62 6 [(0, .inr (20, v)), (1, .inr (ro, v)), (2, zi (k : Int)), (3, zi t), (4, .inr (8, zeN o)), (5, zi ((j : Int) + 1))] [] c s h Q) :
    zX (d + 3) 62 6 [(0, .inr (20, v)), (1, .inr (ro, v)), (2, zi (k : Int)), (3, zi t), (4, .inl .null), (5, zi (j : Int))] [] c s h Q := by
  refine zX.sn 1 (pc2 := 8) (l2 := [(0, .inr (20, v)), (1, .inr (ro, v)), (2, zi (k : Int)), (3, zi t), (4, .inl .null), (5, zi (j : Int))]) (st2 := [zi (j : Int)]) rfl ?_
  refine zX.sn 1 (pc2 := 9) (l2 := [(0, .inr (20, v)), (1, .inr (ro, v)), (2, zi (k : Int)), (3, zi t), (4, .inl .null), (5, zi (j : Int))]) (st2 := [.inr (ro, v), zi (j : Int)]) rfl ?_
  refine zX.call (mid2 := 150) (as := [.inr (ro, v)]) (rest := [zi (j : Int)]) ⟨rfl, rfl⟩ (fun _ => rfl) (zX.invA rfl P_lst rfl rfl) ⟨Nat.le_of_ble_eq_true rfl, Nat.le_of_ble_eq_true rfl⟩ ?_
  refine s_size P_lst ?_
  show zX _ 62 12 [(0, .inr (20, v)), (1, .inr (ro, v)), (2, zi (k : Int)), (3, zi t), (4, .inl .null), (5, zi (j : Int))] [zi (ks.length : Int), zi (j : Int)] c s _ _
  refine zX.icmp (tgt := 70) ⟨rfl, rfl⟩ rfl (by omega) (by omega) (fun (zz : (ks.length : Int) ≤ (j : Int)) => absurd zz (by omega)) (fun (e1 : (j : Int) < (ks.length : Int)) => ?_)
  refine zX.sn 1 (pc2 := 16) (l2 := [(0, .inr (20, v)), (1, .inr (ro, v)), (2, zi (k : Int)), (3, zi t), (4, .inl .null), (5, zi (j : Int))]) (st2 := [.inr (ro, v)]) rfl ?_
  refine zX.sn 1 (pc2 := 18) (l2 := [(0, .inr (20, v)), (1, .inr (ro, v)), (2, zi (k : Int)), (3, zi t), (4, .inl .null), (5, zi (j : Int))]) (st2 := [zi (j : Int), .inr (ro, v)]) rfl ?_
  refine zX.call (mid2 := 153) (as := [.inr (ro, v), zi (j : Int)]) (rest := []) ⟨rfl, rfl⟩ (fun _ => rfl) (zX.invA rfl P_lst rfl rfl) ⟨Nat.le_of_ble_eq_true rfl, Nat.le_of_ble_eq_true rfl⟩ ?_
  refine s_get (j := j) (x := (8, zeN o)) rfl (by omega) P_lst hx ?_
  show zX _ 62 21 [(0, .inr (20, v)), (1, .inr (ro, v)), (2, zi (k : Int)), (3, zi t), (4, .inl .null), (5, zi (j : Int))] [.inr (8, zeN o)] c s _ _
  refine zX.cast ⟨rfl, rfl⟩ H_8_zeN_o rfl ?_
  refine zX.sn 1 (pc2 := 26) (l2 := [(6, .inr (8, zeN o)), (0, .inr (20, v)), (1, .inr (ro, v)), (2, zi (k : Int)), (3, zi t), (4, .inl .null), (5, zi (j : Int))]) (st2 := []) rfl ?_
  refine zX.sn 1 (pc2 := 28) (l2 := [(6, .inr (8, zeN o)), (0, .inr (20, v)), (1, .inr (ro, v)), (2, zi (k : Int)), (3, zi t), (4, .inl .null), (5, zi (j : Int))]) (st2 := [.inr (8, zeN o)]) rfl ?_
  refine zX.getf ⟨rfl, rfl⟩ H_8_zeN_o rfl rfl ?_
  refine zX.sn 1 (pc2 := 32) (l2 := [(6, .inr (8, zeN o)), (0, .inr (20, v)), (1, .inr (ro, v)), (2, zi (k : Int)), (3, zi t), (4, .inl .null), (5, zi (j : Int))]) (st2 := [zi (k : Int), zi (zeK o : Int)]) rfl ?_
  refine zX.icmp (tgt := 64) ⟨rfl, rfl⟩ rfl (by omega) (by omega) (fun (e2 : ¬ (zeK o : Int) = (k : Int)) => ?_) (fun (e2 : (zeK o : Int) = (k : Int)) => ?_)
  · refine zX.s1 (pc2 := 67) (l2 := [(5, zi ((j : Int) + 1)), (6, .inr (8, zeN o)), (0, .inr (20, v)), (1, .inr (ro, v)), (2, zi (k : Int)), (3, zi t), (4, .inl .null)]) (st2 := []) ⟨rfl, rfl⟩ (by rw [show (zi ((j : Int) + 1) : xV) = .inl (.int (Int32.ofInt (j : Int) + 1)) from congrArg (fun z => (.inl (.int z) : xV)) (Int32.ofInt_add _ _)]; rfl) ?_
    refine zX.sn 1 (pc2 := 6) (l2 := [(5, zi ((j : Int) + 1)), (6, .inr (8, zeN o)), (0, .inr (20, v)), (1, .inr (ro, v)), (2, zi (k : Int)), (3, zi t), (4, .inl .null)]) (st2 := []) rfl ?_
    refine zX.re [(0, .inr (20, v)), (1, .inr (ro, v)), (2, zi (k : Int)), (3, zi t), (4, .inl .null), (5, zi ((j : Int) + 1))] [2, 3, 4, 5, 6, 0] [5, 6, 0, 1, 2, 3, 4] rfl rfl (by decide) ?_
    exact k1 e2
  · refine zX.sn 1 (pc2 := 37) (l2 := [(6, .inr (8, zeN o)), (0, .inr (20, v)), (1, .inr (ro, v)), (2, zi (k : Int)), (3, zi t), (4, .inl .null), (5, zi (j : Int))]) (st2 := [.inr (8, zeN o)]) rfl ?_
    refine zX.getf ⟨rfl, rfl⟩ H_8_zeN_o rfl rfl ?_
    refine zX.sn 1 (pc2 := 41) (l2 := [(6, .inr (8, zeN o)), (0, .inr (20, v)), (1, .inr (ro, v)), (2, zi (k : Int)), (3, zi t), (4, .inl .null), (5, zi (j : Int))]) (st2 := [zi t, zi (zeT o : Int)]) rfl ?_
    refine zX.icmp (tgt := 64) ⟨rfl, rfl⟩ rfl (by omega) (by omega) (fun (e3 : t < (zeT o : Int)) => ?_) (fun (e3 : (zeT o : Int) ≤ t) => ?_)
    · refine zX.s1 (pc2 := 67) (l2 := [(5, zi ((j : Int) + 1)), (6, .inr (8, zeN o)), (0, .inr (20, v)), (1, .inr (ro, v)), (2, zi (k : Int)), (3, zi t), (4, .inl .null)]) (st2 := []) ⟨rfl, rfl⟩ (by rw [show (zi ((j : Int) + 1) : xV) = .inl (.int (Int32.ofInt (j : Int) + 1)) from congrArg (fun z => (.inl (.int z) : xV)) (Int32.ofInt_add _ _)]; rfl) ?_
      refine zX.sn 1 (pc2 := 6) (l2 := [(5, zi ((j : Int) + 1)), (6, .inr (8, zeN o)), (0, .inr (20, v)), (1, .inr (ro, v)), (2, zi (k : Int)), (3, zi t), (4, .inl .null)]) (st2 := []) rfl ?_
      refine zX.re [(0, .inr (20, v)), (1, .inr (ro, v)), (2, zi (k : Int)), (3, zi t), (4, .inl .null), (5, zi ((j : Int) + 1))] [2, 3, 4, 5, 6, 0] [5, 6, 0, 1, 2, 3, 4] rfl rfl (by decide) ?_
      exact k2 e2 e3
    · refine zX.sn 1 (pc2 := 46) (l2 := [(6, .inr (8, zeN o)), (0, .inr (20, v)), (1, .inr (ro, v)), (2, zi (k : Int)), (3, zi t), (4, .inl .null), (5, zi (j : Int))]) (st2 := [.inl .null]) rfl ?_
      refine zX.sn 1 (pc2 := 60) (l2 := [(6, .inr (8, zeN o)), (0, .inr (20, v)), (1, .inr (ro, v)), (2, zi (k : Int)), (3, zi t), (4, .inl .null), (5, zi (j : Int))]) (st2 := []) rfl ?_
      refine zX.sn 1 (pc2 := 62) (l2 := [(6, .inr (8, zeN o)), (0, .inr (20, v)), (1, .inr (ro, v)), (2, zi (k : Int)), (3, zi t), (4, .inl .null), (5, zi (j : Int))]) (st2 := [.inr (8, zeN o)]) rfl ?_
      refine zX.sn 1 (pc2 := 64) (l2 := [(4, .inr (8, zeN o)), (6, .inr (8, zeN o)), (0, .inr (20, v)), (1, .inr (ro, v)), (2, zi (k : Int)), (3, zi t), (5, zi (j : Int))]) (st2 := []) rfl ?_
      refine zX.s1 (pc2 := 67) (l2 := [(5, zi ((j : Int) + 1)), (4, .inr (8, zeN o)), (6, .inr (8, zeN o)), (0, .inr (20, v)), (1, .inr (ro, v)), (2, zi (k : Int)), (3, zi t)]) (st2 := []) ⟨rfl, rfl⟩ (by rw [show (zi ((j : Int) + 1) : xV) = .inl (.int (Int32.ofInt (j : Int) + 1)) from congrArg (fun z => (.inl (.int z) : xV)) (Int32.ofInt_add _ _)]; rfl) ?_
      refine zX.sn 1 (pc2 := 6) (l2 := [(5, zi ((j : Int) + 1)), (4, .inr (8, zeN o)), (6, .inr (8, zeN o)), (0, .inr (20, v)), (1, .inr (ro, v)), (2, zi (k : Int)), (3, zi t)]) (st2 := []) rfl ?_
      refine zX.re [(0, .inr (20, v)), (1, .inr (ro, v)), (2, zi (k : Int)), (3, zi t), (4, .inr (8, zeN o)), (5, zi ((j : Int) + 1))] [3, 4, 5, 6, 1, 0] [5, 4, 6, 0, 1, 2, 3] rfl rfl (by decide) ?_
      exact k3 e2 e3

set_option maxHeartbeats 4000000 in
theorem r_vbs {d c s : Nat} {h : xH} {Q : xR → Nat → Nat → xH → Prop} {v sz gr : Nat} {fi : Int} {dr : Int32} {ro cap : Nat} {ks : List (Nat × Nat)} {e o : zE} {k j : Nat} {t : Int} (hvr : zVr v fi sz gr) (hv : v < 5) (hsz : 1 ≤ sz ∧ sz ≤ 200) (hgr : gr ≤ 200) (hro : 36 ≤ ro ∧ ro < 42) (hk : k < 8) (ht : -1000 ≤ t ∧ t ≤ 1000) (hkl : ks.length ≤ 240) (hEe : zEr e) (hkye : zeK e < 8) (htme : zeT e < 1000) (hvae : -99 ≤ zeV e ∧ zeV e ≤ 99) (hahe : -1 ≤ zeA e ∧ zeA e < 1000) (hode : zeO e < 240) (hire : 0 ≤ zbi (zeR e) ∧ zbi (zeR e) ≤ 1) (hile : 0 ≤ zbi (zeL e) ∧ zbi (zeL e) ≤ 1) (hEo : zEr o) (hkyo : zeK o < 8) (htmo : zeT o < 1000) (hvao : -99 ≤ zeV o ∧ zeV o ≤ 99) (haho : -1 ≤ zeA o ∧ zeA o < 1000) (hodo : zeO o < 240) (hiro : 0 ≤ zbi (zeR o) ∧ zbi (zeR o) ≤ 1) (hilo : 0 ≤ zbi (zeL o) ∧ zbi (zeL o) ≤ 1) (hj : j < ks.length) (hx : ks[j]? = some (8, zeN o)) (H_20_v : h (20, v) = some (.inl (8, [zi (v : Int), zi (zbi true), zi fi, zi (sz : Int), zi (gr : Int), .inr (2, 0), .inr (21, v), .inr (23, v), .inr (25, v), .inl (.int dr), .inr (36, v), .inr (38, v), .inr (40, v)]))) (H_8_zeN_e : h (8, zeN e) = some (.inl (1, [zi (zeP e : Int), zi (zbi (zeR e)), zi (zbi (zeL e)), zi (zeK e : Int), zi (zeT e : Int), zi (zeV e), zi (zeO e : Int), zi (zeA e), zi (zeB e)]))) (H_8_zeN_o : h (8, zeN o) = some (.inl (1, [zi (zeP o : Int), zi (zbi (zeR o)), zi (zbi (zeL o)), zi (zeK o : Int), zi (zeT o : Int), zi (zeV o), zi (zeO o : Int), zi (zeA o), zi (zeB o)]))) (P_lst : zAL h ro v cap ks)
    (k1 : (¬ (zeK o : Int) = (k : Int)) → zX (d + 3) 62 6 [(0, .inr (20, v)), (1, .inr (ro, v)), (2, zi (k : Int)), (3, zi t), (4, .inr (8, zeN e)), (5, zi ((j : Int) + 1))] [] c s h Q)
    (k2 : ((zeK o : Int) = (k : Int)) → (t < (zeT o : Int)) → zX (d + 3) 62 6 [(0, .inr (20, v)), (1, .inr (ro, v)), (2, zi (k : Int)), (3, zi t), (4, .inr (8, zeN e)), (5, zi ((j : Int) + 1))] [] c s h Q)
    (k3 : ((zeK o : Int) = (k : Int)) → ((zeT o : Int) ≤ t) → ((zeT o : Int) < (zeT e : Int)) → zX (d + 3) 62 6 [(0, .inr (20, v)), (1, .inr (ro, v)), (2, zi (k : Int)), (3, zi t), (4, .inr (8, zeN e)), (5, zi ((j : Int) + 1))] [] c s h Q)
    (k4 : ((zeK o : Int) = (k : Int)) → ((zeT o : Int) ≤ t) → ((zeT e : Int) ≤ (zeT o : Int)) → (¬ (zeT e : Int) = (zeT o : Int)) → zX (d + 3) 62 6 [(0, .inr (20, v)), (1, .inr (ro, v)), (2, zi (k : Int)), (3, zi t), (4, .inr (8, zeN o)), (5, zi ((j : Int) + 1))] [] c s h Q)
    (k5 : ((zeK o : Int) = (k : Int)) → ((zeT o : Int) ≤ t) → ((zeT e : Int) ≤ (zeT o : Int)) → ((zeT e : Int) = (zeT o : Int)) → (zeV e ≤ zeV o) → zX (d + 3) 62 6 [(0, .inr (20, v)), (1, .inr (ro, v)), (2, zi (k : Int)), (3, zi t), (4, .inr (8, zeN o)), (5, zi ((j : Int) + 1))] [] c s h Q)
    (k6 : ((zeK o : Int) = (k : Int)) → ((zeT o : Int) ≤ t) → ((zeT e : Int) ≤ (zeT o : Int)) → ((zeT e : Int) = (zeT o : Int)) → (zeV o < zeV e) → zX (d + 3) 62 6 [(0, .inr (20, v)), (1, .inr (ro, v)), (2, zi (k : Int)), (3, zi t), (4, .inr (8, zeN e)), (5, zi ((j : Int) + 1))] [] c s h Q) :
    zX (d + 3) 62 6 [(0, .inr (20, v)), (1, .inr (ro, v)), (2, zi (k : Int)), (3, zi t), (4, .inr (8, zeN e)), (5, zi (j : Int))] [] c s h Q := by
  refine zX.sn 1 (pc2 := 8) (l2 := [(0, .inr (20, v)), (1, .inr (ro, v)), (2, zi (k : Int)), (3, zi t), (4, .inr (8, zeN e)), (5, zi (j : Int))]) (st2 := [zi (j : Int)]) rfl ?_
  refine zX.sn 1 (pc2 := 9) (l2 := [(0, .inr (20, v)), (1, .inr (ro, v)), (2, zi (k : Int)), (3, zi t), (4, .inr (8, zeN e)), (5, zi (j : Int))]) (st2 := [.inr (ro, v), zi (j : Int)]) rfl ?_
  refine zX.call (mid2 := 150) (as := [.inr (ro, v)]) (rest := [zi (j : Int)]) ⟨rfl, rfl⟩ (fun _ => rfl) (zX.invA rfl P_lst rfl rfl) ⟨Nat.le_of_ble_eq_true rfl, Nat.le_of_ble_eq_true rfl⟩ ?_
  refine s_size P_lst ?_
  show zX _ 62 12 [(0, .inr (20, v)), (1, .inr (ro, v)), (2, zi (k : Int)), (3, zi t), (4, .inr (8, zeN e)), (5, zi (j : Int))] [zi (ks.length : Int), zi (j : Int)] c s _ _
  refine zX.icmp (tgt := 70) ⟨rfl, rfl⟩ rfl (by omega) (by omega) (fun (zz : (ks.length : Int) ≤ (j : Int)) => absurd zz (by omega)) (fun (e1 : (j : Int) < (ks.length : Int)) => ?_)
  refine zX.sn 1 (pc2 := 16) (l2 := [(0, .inr (20, v)), (1, .inr (ro, v)), (2, zi (k : Int)), (3, zi t), (4, .inr (8, zeN e)), (5, zi (j : Int))]) (st2 := [.inr (ro, v)]) rfl ?_
  refine zX.sn 1 (pc2 := 18) (l2 := [(0, .inr (20, v)), (1, .inr (ro, v)), (2, zi (k : Int)), (3, zi t), (4, .inr (8, zeN e)), (5, zi (j : Int))]) (st2 := [zi (j : Int), .inr (ro, v)]) rfl ?_
  refine zX.call (mid2 := 153) (as := [.inr (ro, v), zi (j : Int)]) (rest := []) ⟨rfl, rfl⟩ (fun _ => rfl) (zX.invA rfl P_lst rfl rfl) ⟨Nat.le_of_ble_eq_true rfl, Nat.le_of_ble_eq_true rfl⟩ ?_
  refine s_get (j := j) (x := (8, zeN o)) rfl (by omega) P_lst hx ?_
  show zX _ 62 21 [(0, .inr (20, v)), (1, .inr (ro, v)), (2, zi (k : Int)), (3, zi t), (4, .inr (8, zeN e)), (5, zi (j : Int))] [.inr (8, zeN o)] c s _ _
  refine zX.cast ⟨rfl, rfl⟩ H_8_zeN_o rfl ?_
  refine zX.sn 1 (pc2 := 26) (l2 := [(6, .inr (8, zeN o)), (0, .inr (20, v)), (1, .inr (ro, v)), (2, zi (k : Int)), (3, zi t), (4, .inr (8, zeN e)), (5, zi (j : Int))]) (st2 := []) rfl ?_
  refine zX.sn 1 (pc2 := 28) (l2 := [(6, .inr (8, zeN o)), (0, .inr (20, v)), (1, .inr (ro, v)), (2, zi (k : Int)), (3, zi t), (4, .inr (8, zeN e)), (5, zi (j : Int))]) (st2 := [.inr (8, zeN o)]) rfl ?_
  refine zX.getf ⟨rfl, rfl⟩ H_8_zeN_o rfl rfl ?_
  refine zX.sn 1 (pc2 := 32) (l2 := [(6, .inr (8, zeN o)), (0, .inr (20, v)), (1, .inr (ro, v)), (2, zi (k : Int)), (3, zi t), (4, .inr (8, zeN e)), (5, zi (j : Int))]) (st2 := [zi (k : Int), zi (zeK o : Int)]) rfl ?_
  refine zX.icmp (tgt := 64) ⟨rfl, rfl⟩ rfl (by omega) (by omega) (fun (e2 : ¬ (zeK o : Int) = (k : Int)) => ?_) (fun (e2 : (zeK o : Int) = (k : Int)) => ?_)
  · refine zX.s1 (pc2 := 67) (l2 := [(5, zi ((j : Int) + 1)), (6, .inr (8, zeN o)), (0, .inr (20, v)), (1, .inr (ro, v)), (2, zi (k : Int)), (3, zi t), (4, .inr (8, zeN e))]) (st2 := []) ⟨rfl, rfl⟩ (by rw [show (zi ((j : Int) + 1) : xV) = .inl (.int (Int32.ofInt (j : Int) + 1)) from congrArg (fun z => (.inl (.int z) : xV)) (Int32.ofInt_add _ _)]; rfl) ?_
    refine zX.sn 1 (pc2 := 6) (l2 := [(5, zi ((j : Int) + 1)), (6, .inr (8, zeN o)), (0, .inr (20, v)), (1, .inr (ro, v)), (2, zi (k : Int)), (3, zi t), (4, .inr (8, zeN e))]) (st2 := []) rfl ?_
    refine zX.re [(0, .inr (20, v)), (1, .inr (ro, v)), (2, zi (k : Int)), (3, zi t), (4, .inr (8, zeN e)), (5, zi ((j : Int) + 1))] [2, 3, 4, 5, 6, 0] [5, 6, 0, 1, 2, 3, 4] rfl rfl (by decide) ?_
    exact k1 e2
  · refine zX.sn 1 (pc2 := 37) (l2 := [(6, .inr (8, zeN o)), (0, .inr (20, v)), (1, .inr (ro, v)), (2, zi (k : Int)), (3, zi t), (4, .inr (8, zeN e)), (5, zi (j : Int))]) (st2 := [.inr (8, zeN o)]) rfl ?_
    refine zX.getf ⟨rfl, rfl⟩ H_8_zeN_o rfl rfl ?_
    refine zX.sn 1 (pc2 := 41) (l2 := [(6, .inr (8, zeN o)), (0, .inr (20, v)), (1, .inr (ro, v)), (2, zi (k : Int)), (3, zi t), (4, .inr (8, zeN e)), (5, zi (j : Int))]) (st2 := [zi t, zi (zeT o : Int)]) rfl ?_
    refine zX.icmp (tgt := 64) ⟨rfl, rfl⟩ rfl (by omega) (by omega) (fun (e3 : t < (zeT o : Int)) => ?_) (fun (e3 : (zeT o : Int) ≤ t) => ?_)
    · refine zX.s1 (pc2 := 67) (l2 := [(5, zi ((j : Int) + 1)), (6, .inr (8, zeN o)), (0, .inr (20, v)), (1, .inr (ro, v)), (2, zi (k : Int)), (3, zi t), (4, .inr (8, zeN e))]) (st2 := []) ⟨rfl, rfl⟩ (by rw [show (zi ((j : Int) + 1) : xV) = .inl (.int (Int32.ofInt (j : Int) + 1)) from congrArg (fun z => (.inl (.int z) : xV)) (Int32.ofInt_add _ _)]; rfl) ?_
      refine zX.sn 1 (pc2 := 6) (l2 := [(5, zi ((j : Int) + 1)), (6, .inr (8, zeN o)), (0, .inr (20, v)), (1, .inr (ro, v)), (2, zi (k : Int)), (3, zi t), (4, .inr (8, zeN e))]) (st2 := []) rfl ?_
      refine zX.re [(0, .inr (20, v)), (1, .inr (ro, v)), (2, zi (k : Int)), (3, zi t), (4, .inr (8, zeN e)), (5, zi ((j : Int) + 1))] [2, 3, 4, 5, 6, 0] [5, 6, 0, 1, 2, 3, 4] rfl rfl (by decide) ?_
      exact k2 e2 e3
    · refine zX.sn 1 (pc2 := 46) (l2 := [(6, .inr (8, zeN o)), (0, .inr (20, v)), (1, .inr (ro, v)), (2, zi (k : Int)), (3, zi t), (4, .inr (8, zeN e)), (5, zi (j : Int))]) (st2 := [.inr (8, zeN e)]) rfl ?_
      refine zX.sn 1 (pc2 := 49) (l2 := [(6, .inr (8, zeN o)), (0, .inr (20, v)), (1, .inr (ro, v)), (2, zi (k : Int)), (3, zi t), (4, .inr (8, zeN e)), (5, zi (j : Int))]) (st2 := []) rfl ?_
      refine zX.sn 1 (pc2 := 50) (l2 := [(6, .inr (8, zeN o)), (0, .inr (20, v)), (1, .inr (ro, v)), (2, zi (k : Int)), (3, zi t), (4, .inr (8, zeN e)), (5, zi (j : Int))]) (st2 := [.inr (20, v)]) rfl ?_
      refine zX.sn 1 (pc2 := 52) (l2 := [(6, .inr (8, zeN o)), (0, .inr (20, v)), (1, .inr (ro, v)), (2, zi (k : Int)), (3, zi t), (4, .inr (8, zeN e)), (5, zi (j : Int))]) (st2 := [.inr (8, zeN e), .inr (20, v)]) rfl ?_
      refine zX.sn 1 (pc2 := 54) (l2 := [(6, .inr (8, zeN o)), (0, .inr (20, v)), (1, .inr (ro, v)), (2, zi (k : Int)), (3, zi t), (4, .inr (8, zeN e)), (5, zi (j : Int))]) (st2 := [.inr (8, zeN o), .inr (8, zeN e), .inr (20, v)]) rfl ?_
      refine zX.call (mid2 := 63) (as := [.inr (20, v), .inr (8, zeN e), .inr (8, zeN o)]) (rest := []) ⟨rfl, rfl⟩ (fun _ => rfl) (zX.inv rfl H_20_v rfl rfl) ⟨Nat.le_of_ble_eq_true rfl, Nat.le_of_ble_eq_true rfl⟩ ?_
      show zX _ 63 0 [(0, .inr (20, v)), (1, .inr (8, zeN e)), (2, .inr (8, zeN o))] [] c s _ _
      refine zX.sn 1 (pc2 := 1) (l2 := [(0, .inr (20, v)), (1, .inr (8, zeN e)), (2, .inr (8, zeN o))]) (st2 := [.inr (8, zeN e)]) rfl ?_
      refine zX.getf ⟨rfl, rfl⟩ H_8_zeN_e rfl rfl ?_
      refine zX.sn 1 (pc2 := 5) (l2 := [(0, .inr (20, v)), (1, .inr (8, zeN e)), (2, .inr (8, zeN o))]) (st2 := [.inr (8, zeN o), zi (zeT e : Int)]) rfl ?_
      refine zX.getf ⟨rfl, rfl⟩ H_8_zeN_o rfl rfl ?_
      refine zX.icmp (tgt := 33) ⟨rfl, rfl⟩ rfl (by omega) (by omega) (fun (e4 : (zeT o : Int) < (zeT e : Int)) => ?_) (fun (e4 : (zeT e : Int) ≤ (zeT o : Int)) => ?_)
      · refine zX.sn 1 (pc2 := 34) (l2 := [(0, .inr (20, v)), (1, .inr (8, zeN e)), (2, .inr (8, zeN o))]) (st2 := [zi 1]) rfl ?_
        refine zX.sn 1 (pc2 := 38) (l2 := [(0, .inr (20, v)), (1, .inr (8, zeN e)), (2, .inr (8, zeN o))]) (st2 := [zi 1]) rfl ?_
        refine zX.ret rfl (zret_z rfl (by decide)) ?_
        show zX _ 62 57 [(6, .inr (8, zeN o)), (0, .inr (20, v)), (1, .inr (ro, v)), (2, zi (k : Int)), (3, zi t), (4, .inr (8, zeN e)), (5, zi (j : Int))] [zi 1] c s _ _
        refine zX.icmp0 (tgt := 64) ⟨rfl, rfl⟩ rfl (by omega) (fun (e5 : ¬ 1 = 0) => ?_) (fun (zz : 1 = 0) => absurd zz (by omega))
        refine zX.s1 (pc2 := 67) (l2 := [(5, zi ((j : Int) + 1)), (6, .inr (8, zeN o)), (0, .inr (20, v)), (1, .inr (ro, v)), (2, zi (k : Int)), (3, zi t), (4, .inr (8, zeN e))]) (st2 := []) ⟨rfl, rfl⟩ (by rw [show (zi ((j : Int) + 1) : xV) = .inl (.int (Int32.ofInt (j : Int) + 1)) from congrArg (fun z => (.inl (.int z) : xV)) (Int32.ofInt_add _ _)]; rfl) ?_
        refine zX.sn 1 (pc2 := 6) (l2 := [(5, zi ((j : Int) + 1)), (6, .inr (8, zeN o)), (0, .inr (20, v)), (1, .inr (ro, v)), (2, zi (k : Int)), (3, zi t), (4, .inr (8, zeN e))]) (st2 := []) rfl ?_
        refine zX.re [(0, .inr (20, v)), (1, .inr (ro, v)), (2, zi (k : Int)), (3, zi t), (4, .inr (8, zeN e)), (5, zi ((j : Int) + 1))] [2, 3, 4, 5, 6, 0] [5, 6, 0, 1, 2, 3, 4] rfl rfl (by decide) ?_
        exact k3 e2 e3 e4
      · refine zX.sn 1 (pc2 := 12) (l2 := [(0, .inr (20, v)), (1, .inr (8, zeN e)), (2, .inr (8, zeN o))]) (st2 := [.inr (8, zeN e)]) rfl ?_
        refine zX.getf ⟨rfl, rfl⟩ H_8_zeN_e rfl rfl ?_
        refine zX.sn 1 (pc2 := 16) (l2 := [(0, .inr (20, v)), (1, .inr (8, zeN e)), (2, .inr (8, zeN o))]) (st2 := [.inr (8, zeN o), zi (zeT e : Int)]) rfl ?_
        refine zX.getf ⟨rfl, rfl⟩ H_8_zeN_o rfl rfl ?_
        refine zX.icmp (tgt := 37) ⟨rfl, rfl⟩ rfl (by omega) (by omega) (fun (e6 : ¬ (zeT e : Int) = (zeT o : Int)) => ?_) (fun (e6 : (zeT e : Int) = (zeT o : Int)) => ?_)
        · refine zX.sn 1 (pc2 := 38) (l2 := [(0, .inr (20, v)), (1, .inr (8, zeN e)), (2, .inr (8, zeN o))]) (st2 := [zi 0]) rfl ?_
          refine zX.ret rfl (zret_z rfl (by decide)) ?_
          show zX _ 62 57 [(6, .inr (8, zeN o)), (0, .inr (20, v)), (1, .inr (ro, v)), (2, zi (k : Int)), (3, zi t), (4, .inr (8, zeN e)), (5, zi (j : Int))] [zi 0] c s _ _
          refine zX.icmp0 (tgt := 64) ⟨rfl, rfl⟩ rfl (by omega) (fun (zz : ¬ 0 = 0) => absurd zz (by omega)) (fun (e7 : 0 = 0) => ?_)
          refine zX.sn 1 (pc2 := 62) (l2 := [(6, .inr (8, zeN o)), (0, .inr (20, v)), (1, .inr (ro, v)), (2, zi (k : Int)), (3, zi t), (4, .inr (8, zeN e)), (5, zi (j : Int))]) (st2 := [.inr (8, zeN o)]) rfl ?_
          refine zX.sn 1 (pc2 := 64) (l2 := [(4, .inr (8, zeN o)), (6, .inr (8, zeN o)), (0, .inr (20, v)), (1, .inr (ro, v)), (2, zi (k : Int)), (3, zi t), (5, zi (j : Int))]) (st2 := []) rfl ?_
          refine zX.s1 (pc2 := 67) (l2 := [(5, zi ((j : Int) + 1)), (4, .inr (8, zeN o)), (6, .inr (8, zeN o)), (0, .inr (20, v)), (1, .inr (ro, v)), (2, zi (k : Int)), (3, zi t)]) (st2 := []) ⟨rfl, rfl⟩ (by rw [show (zi ((j : Int) + 1) : xV) = .inl (.int (Int32.ofInt (j : Int) + 1)) from congrArg (fun z => (.inl (.int z) : xV)) (Int32.ofInt_add _ _)]; rfl) ?_
          refine zX.sn 1 (pc2 := 6) (l2 := [(5, zi ((j : Int) + 1)), (4, .inr (8, zeN o)), (6, .inr (8, zeN o)), (0, .inr (20, v)), (1, .inr (ro, v)), (2, zi (k : Int)), (3, zi t)]) (st2 := []) rfl ?_
          refine zX.re [(0, .inr (20, v)), (1, .inr (ro, v)), (2, zi (k : Int)), (3, zi t), (4, .inr (8, zeN o)), (5, zi ((j : Int) + 1))] [3, 4, 5, 6, 1, 0] [5, 4, 6, 0, 1, 2, 3] rfl rfl (by decide) ?_
          exact k4 e2 e3 e4 e6
        · refine zX.sn 1 (pc2 := 23) (l2 := [(0, .inr (20, v)), (1, .inr (8, zeN e)), (2, .inr (8, zeN o))]) (st2 := [.inr (8, zeN e)]) rfl ?_
          refine zX.getf ⟨rfl, rfl⟩ H_8_zeN_e rfl rfl ?_
          refine zX.sn 1 (pc2 := 27) (l2 := [(0, .inr (20, v)), (1, .inr (8, zeN e)), (2, .inr (8, zeN o))]) (st2 := [.inr (8, zeN o), zi (zeV e)]) rfl ?_
          refine zX.getf ⟨rfl, rfl⟩ H_8_zeN_o rfl rfl ?_
          refine zX.icmp (tgt := 37) ⟨rfl, rfl⟩ rfl (by omega) (by omega) (fun (e8 : zeV e ≤ zeV o) => ?_) (fun (e8 : zeV o < zeV e) => ?_)
          · refine zX.sn 1 (pc2 := 38) (l2 := [(0, .inr (20, v)), (1, .inr (8, zeN e)), (2, .inr (8, zeN o))]) (st2 := [zi 0]) rfl ?_
            refine zX.ret rfl (zret_z rfl (by decide)) ?_
            show zX _ 62 57 [(6, .inr (8, zeN o)), (0, .inr (20, v)), (1, .inr (ro, v)), (2, zi (k : Int)), (3, zi t), (4, .inr (8, zeN e)), (5, zi (j : Int))] [zi 0] c s _ _
            refine zX.icmp0 (tgt := 64) ⟨rfl, rfl⟩ rfl (by omega) (fun (zz : ¬ 0 = 0) => absurd zz (by omega)) (fun (e9 : 0 = 0) => ?_)
            refine zX.sn 1 (pc2 := 62) (l2 := [(6, .inr (8, zeN o)), (0, .inr (20, v)), (1, .inr (ro, v)), (2, zi (k : Int)), (3, zi t), (4, .inr (8, zeN e)), (5, zi (j : Int))]) (st2 := [.inr (8, zeN o)]) rfl ?_
            refine zX.sn 1 (pc2 := 64) (l2 := [(4, .inr (8, zeN o)), (6, .inr (8, zeN o)), (0, .inr (20, v)), (1, .inr (ro, v)), (2, zi (k : Int)), (3, zi t), (5, zi (j : Int))]) (st2 := []) rfl ?_
            refine zX.s1 (pc2 := 67) (l2 := [(5, zi ((j : Int) + 1)), (4, .inr (8, zeN o)), (6, .inr (8, zeN o)), (0, .inr (20, v)), (1, .inr (ro, v)), (2, zi (k : Int)), (3, zi t)]) (st2 := []) ⟨rfl, rfl⟩ (by rw [show (zi ((j : Int) + 1) : xV) = .inl (.int (Int32.ofInt (j : Int) + 1)) from congrArg (fun z => (.inl (.int z) : xV)) (Int32.ofInt_add _ _)]; rfl) ?_
            refine zX.sn 1 (pc2 := 6) (l2 := [(5, zi ((j : Int) + 1)), (4, .inr (8, zeN o)), (6, .inr (8, zeN o)), (0, .inr (20, v)), (1, .inr (ro, v)), (2, zi (k : Int)), (3, zi t)]) (st2 := []) rfl ?_
            refine zX.re [(0, .inr (20, v)), (1, .inr (ro, v)), (2, zi (k : Int)), (3, zi t), (4, .inr (8, zeN o)), (5, zi ((j : Int) + 1))] [3, 4, 5, 6, 1, 0] [5, 4, 6, 0, 1, 2, 3] rfl rfl (by decide) ?_
            exact k5 e2 e3 e4 e6 e8
          · refine zX.sn 1 (pc2 := 34) (l2 := [(0, .inr (20, v)), (1, .inr (8, zeN e)), (2, .inr (8, zeN o))]) (st2 := [zi 1]) rfl ?_
            refine zX.sn 1 (pc2 := 38) (l2 := [(0, .inr (20, v)), (1, .inr (8, zeN e)), (2, .inr (8, zeN o))]) (st2 := [zi 1]) rfl ?_
            refine zX.ret rfl (zret_z rfl (by decide)) ?_
            show zX _ 62 57 [(6, .inr (8, zeN o)), (0, .inr (20, v)), (1, .inr (ro, v)), (2, zi (k : Int)), (3, zi t), (4, .inr (8, zeN e)), (5, zi (j : Int))] [zi 1] c s _ _
            refine zX.icmp0 (tgt := 64) ⟨rfl, rfl⟩ rfl (by omega) (fun (e10 : ¬ 1 = 0) => ?_) (fun (zz : 1 = 0) => absurd zz (by omega))
            refine zX.s1 (pc2 := 67) (l2 := [(5, zi ((j : Int) + 1)), (6, .inr (8, zeN o)), (0, .inr (20, v)), (1, .inr (ro, v)), (2, zi (k : Int)), (3, zi t), (4, .inr (8, zeN e))]) (st2 := []) ⟨rfl, rfl⟩ (by rw [show (zi ((j : Int) + 1) : xV) = .inl (.int (Int32.ofInt (j : Int) + 1)) from congrArg (fun z => (.inl (.int z) : xV)) (Int32.ofInt_add _ _)]; rfl) ?_
            refine zX.sn 1 (pc2 := 6) (l2 := [(5, zi ((j : Int) + 1)), (6, .inr (8, zeN o)), (0, .inr (20, v)), (1, .inr (ro, v)), (2, zi (k : Int)), (3, zi t), (4, .inr (8, zeN e))]) (st2 := []) rfl ?_
            refine zX.re [(0, .inr (20, v)), (1, .inr (ro, v)), (2, zi (k : Int)), (3, zi t), (4, .inr (8, zeN e)), (5, zi ((j : Int) + 1))] [2, 3, 4, 5, 6, 0] [5, 6, 0, 1, 2, 3, 4] rfl rfl (by decide) ?_
            exact k6 e2 e3 e4 e6 e8

end ZR74
