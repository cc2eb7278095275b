set_option maxRecDepth 100000
section ZR67
set_option maxHeartbeats 4000000 in
theorem r_sf0 {d c s : Nat} {h : xH} {Q : xR → Nat → Nat → xH → Prop} {v sz gr cap : Nat} {fi me m : Int} {dr : Int32} {xs : List (Nat × Nat)} {gn gs gg : Nat → Int32} (hvr : zVr v fi sz gr) (hv : v < 5) (hsz : 1 ≤ sz ∧ sz ≤ 200) (hgr : gr ≤ 200) (hme : me = 99 ∨ me = 115 ∨ me = 109) (hm : -1 ≤ m ∧ m < 1000) (hxl : xs.length ≤ 240) (H_20_v : h (20, v) = some (.inl (6, [zi (v : Int), zi (zbi false), zi fi, zi (sz : Int), zi (gr : Int), .inr (2, 0), .inr (21, v), .inr (23, v), .inr (25, v), .inl (.int dr), zi me, .inr (26, v), .inr (30, v), .inr (34, v), .inr (35, v)]))) (P_again : zTal h 30 v 8000 gn gs gg) (P_jr : zAL h 15 0 cap xs)
    (k1 : ∀ h' : xH, zTal h' 30 v 8000 (fun _ => 0) (fun _ => 0) (fun _ => 0) → (∀ za zb : Nat, ¬ ((30 ≤ za ∧ za < 30 + 4 ∧ zb = v)) → h' (za, zb) = h (za, zb)) → zX (d + 2) 47 9 [(0, .inr (20, v)), (1, .inr (15, 0)), (2, zi m), (3, zi 0)] [] c s h' Q) :
    zX (d + 2) 47 0 [(0, .inr (20, v)), (1, .inr (15, 0)), (2, zi m)] [] c s h Q := by
  refine zX.sn 1 (pc2 := 1) (l2 := [(0, .inr (20, v)), (1, .inr (15, 0)), (2, zi m)]) (st2 := [.inr (20, v)]) rfl ?_
  refine zX.getf ⟨rfl, rfl⟩ H_20_v rfl rfl ?_
  refine zX.call (mid2 := 57) (as := [.inr (30, v)]) (rest := []) ⟨rfl, rfl⟩ (fun _ => rfl) (zX.inv rfl (P_again.1) rfl rfl) ⟨Nat.le_of_ble_eq_true rfl, Nat.le_of_ble_eq_true rfl⟩ ?_
  refine s_tclrA (by omega) (by omega) P_again (fun h1 hv1 hF1 => ?_)
  show zX _ 47 7 [(0, .inr (20, v)), (1, .inr (15, 0)), (2, zi m)] [] c s _ _
  refine zX.sn 1 (pc2 := 8) (l2 := [(0, .inr (20, v)), (1, .inr (15, 0)), (2, zi m)]) (st2 := [zi 0]) rfl ?_
  refine zX.sn 1 (pc2 := 9) (l2 := [(3, zi 0), (0, .inr (20, v)), (1, .inr (15, 0)), (2, zi m)]) (st2 := []) rfl ?_
  refine zX.re [(0, .inr (20, v)), (1, .inr (15, 0)), (2, zi m), (3, zi 0)] [1, 2, 3, 0] [3, 0, 1, 2] rfl rfl (by decide) ?_
  exact k1 _ hv1 (fun za zb hn => ((hF1 za zb (by omega)).trans rfl))

set_option maxHeartbeats 4000000 in
theorem r_sf1e {d c s : Nat} {h : xH} {Q : xR → Nat → Nat → xH → Prop} {v sz gr cap : Nat} {fi me m : Int} {dr : Int32} {xs : List (Nat × Nat)} {j : Nat} (hvr : zVr v fi sz gr) (hv : v < 5) (hsz : 1 ≤ sz ∧ sz ≤ 200) (hgr : gr ≤ 200) (hme : me = 99 ∨ me = 115 ∨ me = 109) (hm : -1 ≤ m ∧ m < 1000) (hxl : xs.length ≤ 240) (hj : j = xs.length) (H_20_v : h (20, v) = some (.inl (6, [zi (v : Int), zi (zbi false), zi fi, zi (sz : Int), zi (gr : Int), .inr (2, 0), .inr (21, v), .inr (23, v), .inr (25, v), .inl (.int dr), zi me, .inr (26, v), .inr (30, v), .inr (34, v), .inr (35, v)]))) (P_jr : zAL h 15 0 cap xs)
    (k1 : zX (d + 1) 47 78 [(0, .inr (20, v)), (2, zi m), (3, zi 0)] [] c s h Q) :
    zX (d + 1) 47 9 [(0, .inr (20, v)), (1, .inr (15, 0)), (2, zi m), (3, zi (j : Int))] [] c s h Q := by
  refine zX.sn 1 (pc2 := 10) (l2 := [(0, .inr (20, v)), (1, .inr (15, 0)), (2, zi m), (3, zi (j : Int))]) (st2 := [zi (j : Int)]) rfl ?_
  refine zX.sn 1 (pc2 := 11) (l2 := [(0, .inr (20, v)), (1, .inr (15, 0)), (2, zi m), (3, zi (j : Int))]) (st2 := [.inr (15, 0), zi (j : Int)]) rfl ?_
  refine zX.call (mid2 := 150) (as := [.inr (15, 0)]) (rest := [zi (j : Int)]) ⟨rfl, rfl⟩ (fun _ => rfl) (zX.invA rfl P_jr rfl rfl) ⟨Nat.le_of_ble_eq_true rfl, Nat.le_of_ble_eq_true rfl⟩ ?_
  refine s_size P_jr ?_
  show zX _ 47 14 [(0, .inr (20, v)), (1, .inr (15, 0)), (2, zi m), (3, zi (j : Int))] [zi (xs.length : Int), zi (j : Int)] c s _ _
  refine zX.icmp (tgt := 76) ⟨rfl, rfl⟩ rfl (by omega) (by omega) (fun (e1 : (xs.length : Int) ≤ (j : Int)) => ?_) (fun (zz : (j : Int) < (xs.length : Int)) => absurd zz (by omega))
  refine zX.sn 1 (pc2 := 77) (l2 := [(0, .inr (20, v)), (1, .inr (15, 0)), (2, zi m), (3, zi (j : Int))]) (st2 := [zi 0]) rfl ?_
  refine zX.sn 1 (pc2 := 78) (l2 := [(3, zi 0), (0, .inr (20, v)), (1, .inr (15, 0)), (2, zi m)]) (st2 := []) rfl ?_
  refine zX.re [(0, .inr (20, v)), (2, zi m), (3, zi 0)] [1, 3, 0] [3, 0, 1, 2] rfl rfl (by decide) ?_
  exact k1

set_option maxHeartbeats 4000000 in
theorem r_sf1 {d c s : Nat} {h : xH} {Q : xR → Nat → Nat → xH → Prop} {v sz gr cap : Nat} {fi me m : Int} {dr : Int32} {xs : List (Nat × Nat)} {gn gs gg : Nat → Int32} {e : zE} {j : Nat} (hvr : zVr v fi sz gr) (hv : v < 5) (hsz : 1 ≤ sz ∧ sz ≤ 200) (hgr : gr ≤ 200) (hme : me = 99 ∨ me = 115 ∨ me = 109) (hm : -1 ≤ m ∧ m < 1000) (hxl : xs.length ≤ 240) (hEe : zEr e) (hkye : zeK e < 8) (htme : zeT e < 1000) (hvae : -99 ≤ zeV e ∧ zeV e ≤ 99) (hahe : -1 ≤ zeA e ∧ zeA e < 1000) (hode : zeO e < 240) (hire : 0 ≤ zbi (zeR e) ∧ zbi (zeR e) ≤ 1) (hile : 0 ≤ zbi (zeL e) ∧ zbi (zeL e) ≤ 1) (hj : j < xs.length) (hx : xs[j]? = some (8, zeN e)) (H_20_v : h (20, v) = some (.inl (6, [zi (v : Int), zi (zbi false), zi fi, zi (sz : Int), zi (gr : Int), .inr (2, 0), .inr (21, v), .inr (23, v), .inr (25, v), .inl (.int dr), zi me, .inr (26, v), .inr (30, v), .inr (34, v), .inr (35, v)]))) (H_8_zeN_e : h (8, zeN e) = some (.inl (1, [zi (zeP e : Int), zi (zbi (zeR e)), zi (zbi (zeL e)), zi (zeK e : Int), zi (zeT e : Int), zi (zeV e), zi (zeO e : Int), zi (zeA e), zi (zeB e)]))) (P_again : zTal h 30 v 8000 gn gs gg) (P_jr : zAL h 15 0 cap xs)
    (k1 : (zLet false fi e = false) → zX (d + 3) 47 9 [(0, .inr (20, v)), (1, .inr (15, 0)), (2, zi m), (3, zi ((j : Int) + 1))] [] c s h Q)
    (k2 : (zLet false fi e = true) → (¬ zLate sz gr e) → ∀ h' : xH, zTal h' 30 v 8000 (zfi gn ((zeT e * 8) + zeK e) (gn ((zeT e * 8) + zeK e) + 1)) (zfi gs ((zeT e * 8) + zeK e) (gs ((zeT e * 8) + zeK e) + Int32.ofInt (zeV e))) (zfi gg ((zeT e * 8) + zeK e) (zgr (gg ((zeT e * 8) + zeK e)) (Int32.ofInt (zeV e)) (gn ((zeT e * 8) + zeK e)))) → (∀ za zb : Nat, ¬ ((30 ≤ za ∧ za < 30 + 4 ∧ zb = v)) → h' (za, zb) = h (za, zb)) → zX (d + 3) 47 9 [(0, .inr (20, v)), (1, .inr (15, 0)), (2, zi m), (3, zi ((j : Int) + 1))] [] c s h' Q)
    (k3 : (zLet false fi e = true) → (zLate sz gr e) → zX (d + 3) 47 9 [(0, .inr (20, v)), (1, .inr (15, 0)), (2, zi m), (3, zi ((j : Int) + 1))] [] c s h Q) :
    zX (d + 3) 47 9 [(0, .inr (20, v)), (1, .inr (15, 0)), (2, zi m), (3, zi (j : Int))] [] c s h Q := by
  refine zX.sn 1 (pc2 := 10) (l2 := [(0, .inr (20, v)), (1, .inr (15, 0)), (2, zi m), (3, zi (j : Int))]) (st2 := [zi (j : Int)]) rfl ?_
  refine zX.sn 1 (pc2 := 11) (l2 := [(0, .inr (20, v)), (1, .inr (15, 0)), (2, zi m), (3, zi (j : Int))]) (st2 := [.inr (15, 0), zi (j : Int)]) rfl ?_
  refine zX.call (mid2 := 150) (as := [.inr (15, 0)]) (rest := [zi (j : Int)]) ⟨rfl, rfl⟩ (fun _ => rfl) (zX.invA rfl P_jr rfl rfl) ⟨Nat.le_of_ble_eq_true rfl, Nat.le_of_ble_eq_true rfl⟩ ?_
  refine s_size P_jr ?_
  show zX _ 47 14 [(0, .inr (20, v)), (1, .inr (15, 0)), (2, zi m), (3, zi (j : Int))] [zi (xs.length : Int), zi (j : Int)] c s _ _
  refine zX.icmp (tgt := 76) ⟨rfl, rfl⟩ rfl (by omega) (by omega) (fun (zz : (xs.length : Int) ≤ (j : Int)) => absurd zz (by omega)) (fun (e1 : (j : Int) < (xs.length : Int)) => ?_)
  refine zX.sn 1 (pc2 := 18) (l2 := [(0, .inr (20, v)), (1, .inr (15, 0)), (2, zi m), (3, zi (j : Int))]) (st2 := [.inr (15, 0)]) rfl ?_
  refine zX.sn 1 (pc2 := 19) (l2 := [(0, .inr (20, v)), (1, .inr (15, 0)), (2, zi m), (3, zi (j : Int))]) (st2 := [zi (j : Int), .inr (15, 0)]) rfl ?_
  refine zX.call (mid2 := 153) (as := [.inr (15, 0), zi (j : Int)]) (rest := []) ⟨rfl, rfl⟩ (fun _ => rfl) (zX.invA rfl P_jr rfl rfl) ⟨Nat.le_of_ble_eq_true rfl, Nat.le_of_ble_eq_true rfl⟩ ?_
  refine s_get (j := j) (x := (8, zeN e)) rfl (by omega) P_jr hx ?_
  show zX _ 47 22 [(0, .inr (20, v)), (1, .inr (15, 0)), (2, zi m), (3, zi (j : Int))] [.inr (8, zeN e)] c s _ _
  refine zX.cast ⟨rfl, rfl⟩ H_8_zeN_e rfl ?_
  refine zX.sn 1 (pc2 := 27) (l2 := [(4, .inr (8, zeN e)), (0, .inr (20, v)), (1, .inr (15, 0)), (2, zi m), (3, zi (j : Int))]) (st2 := []) rfl ?_
  refine zX.sn 1 (pc2 := 28) (l2 := [(4, .inr (8, zeN e)), (0, .inr (20, v)), (1, .inr (15, 0)), (2, zi m), (3, zi (j : Int))]) (st2 := [.inr (20, v)]) rfl ?_
  refine zX.sn 1 (pc2 := 30) (l2 := [(4, .inr (8, zeN e)), (0, .inr (20, v)), (1, .inr (15, 0)), (2, zi m), (3, zi (j : Int))]) (st2 := [.inr (8, zeN e), .inr (20, v)]) rfl ?_
  refine zX.call (mid2 := 75) (as := [.inr (20, v), .inr (8, zeN e)]) (rest := []) ⟨rfl, rfl⟩ (fun _ => rfl) (zX.inv rfl H_20_v rfl rfl) ⟨Nat.le_of_ble_eq_true rfl, Nat.le_of_ble_eq_true rfl⟩ ?_
  refine s_lets (ci := 6) (bs := false) hvr (by omega) hEe (show zVo _ 6 v false fi sz gr _ _ from H_20_v) (show zEn _ e from H_8_zeN_e)  (fun (e2 : zLet false fi e = false) => ?_) (fun (e2 : zLet false fi e = true) => ?_)
  · show zX _ 47 33 [(4, .inr (8, zeN e)), (0, .inr (20, v)), (1, .inr (15, 0)), (2, zi m), (3, zi (j : Int))] [zi 0] c s _ _
    refine zX.icmp0 (tgt := 70) ⟨rfl, rfl⟩ rfl (by omega) (fun (e3 : 0 = 0) => ?_) (fun (zz : ¬ 0 = 0) => absurd zz (by omega))
    refine zX.s1 (pc2 := 73) (l2 := [(3, zi ((j : Int) + 1)), (4, .inr (8, zeN e)), (0, .inr (20, v)), (1, .inr (15, 0)), (2, zi m)]) (st2 := []) ⟨rfl, rfl⟩ (by rw [show (zi ((j : Int) + 1) : xV) = .inl (.int (Int32.ofInt (j : Int) + 1)) from congrArg (fun z => (.inl (.int z) : xV)) (Int32.ofInt_add _ _)]; rfl) ?_
    refine zX.sn 1 (pc2 := 9) (l2 := [(3, zi ((j : Int) + 1)), (4, .inr (8, zeN e)), (0, .inr (20, v)), (1, .inr (15, 0)), (2, zi m)]) (st2 := []) rfl ?_
    refine zX.re [(0, .inr (20, v)), (1, .inr (15, 0)), (2, zi m), (3, zi ((j : Int) + 1))] [2, 3, 4, 0] [3, 4, 0, 1, 2] rfl rfl (by decide) ?_
    exact k1 e2
  · show zX _ 47 33 [(4, .inr (8, zeN e)), (0, .inr (20, v)), (1, .inr (15, 0)), (2, zi m), (3, zi (j : Int))] [zi 1] c s _ _
    refine zX.icmp0 (tgt := 70) ⟨rfl, rfl⟩ rfl (by omega) (fun (zz : 1 = 0) => absurd zz (by omega)) (fun (e4 : ¬ 1 = 0) => ?_)
    refine zX.sn 1 (pc2 := 37) (l2 := [(4, .inr (8, zeN e)), (0, .inr (20, v)), (1, .inr (15, 0)), (2, zi m), (3, zi (j : Int))]) (st2 := [.inr (20, v)]) rfl ?_
    refine zX.sn 1 (pc2 := 39) (l2 := [(4, .inr (8, zeN e)), (0, .inr (20, v)), (1, .inr (15, 0)), (2, zi m), (3, zi (j : Int))]) (st2 := [.inr (8, zeN e), .inr (20, v)]) rfl ?_
    refine zX.call (mid2 := 84) (as := [.inr (20, v), .inr (8, zeN e)]) (rest := []) ⟨rfl, rfl⟩ (fun _ => rfl) (zX.inv rfl H_20_v rfl rfl) ⟨Nat.le_of_ble_eq_true rfl, Nat.le_of_ble_eq_true rfl⟩ ?_
    refine s_late (ci := 6) (bs := false) hvr (by omega) hEe (show zVo _ 6 v false fi sz gr _ _ from H_20_v) (show zEn _ e from H_8_zeN_e)  (fun (e5 : ¬ zLate sz gr e) => ?_) (fun (e5 : zLate sz gr e) => ?_)
    · show zX _ 47 42 [(4, .inr (8, zeN e)), (0, .inr (20, v)), (1, .inr (15, 0)), (2, zi m), (3, zi (j : Int))] [zi 0] c s _ _
      refine zX.icmp0 (tgt := 70) ⟨rfl, rfl⟩ rfl (by omega) (fun (zz : ¬ 0 = 0) => absurd zz (by omega)) (fun (e6 : 0 = 0) => ?_)
      refine zX.sn 1 (pc2 := 46) (l2 := [(4, .inr (8, zeN e)), (0, .inr (20, v)), (1, .inr (15, 0)), (2, zi m), (3, zi (j : Int))]) (st2 := [.inr (20, v)]) rfl ?_
      refine zX.getf ⟨rfl, rfl⟩ H_20_v rfl rfl ?_
      refine zX.sn 1 (pc2 := 51) (l2 := [(4, .inr (8, zeN e)), (0, .inr (20, v)), (1, .inr (15, 0)), (2, zi m), (3, zi (j : Int))]) (st2 := [.inr (8, zeN e), .inr (30, v)]) rfl ?_
      refine zX.getf ⟨rfl, rfl⟩ H_8_zeN_e rfl rfl ?_
      refine zX.sn 1 (pc2 := 56) (l2 := [(4, .inr (8, zeN e)), (0, .inr (20, v)), (1, .inr (15, 0)), (2, zi m), (3, zi (j : Int))]) (st2 := [.inr (8, zeN e), zi (zeT e : Int), .inr (30, v)]) rfl ?_
      refine zX.getf ⟨rfl, rfl⟩ H_8_zeN_e rfl rfl ?_
      refine zX.call (mid2 := 36) (as := [zi (zeT e : Int), zi (zeK e : Int)]) (rest := [.inr (30, v)]) ⟨rfl, rfl⟩ (fun _ => rfl) rfl ⟨Nat.le_of_ble_eq_true rfl, Nat.le_of_ble_eq_true rfl⟩ ?_
      show zX _ 36 0 [(0, zi (zeT e : Int)), (1, zi (zeK e : Int))] [] c s _ _
      refine zX.sn 1 (pc2 := 1) (l2 := [(0, zi (zeT e : Int)), (1, zi (zeK e : Int))]) (st2 := [zi (zeT e : Int)]) rfl ?_
      refine zX.sn 1 (pc2 := 3) (l2 := [(0, zi (zeT e : Int)), (1, zi (zeK e : Int))]) (st2 := [zi 8, zi (zeT e : Int)]) rfl ?_
      refine zX.imul ⟨rfl, rfl⟩ ?_
      refine zX.sn 1 (pc2 := 5) (l2 := [(0, zi (zeT e : Int)), (1, zi (zeK e : Int))]) (st2 := [zi (zeK e : Int), zi ((zeT e : Int) * 8)]) rfl ?_
      refine zX.iadd ⟨rfl, rfl⟩ ?_
      refine zX.ret rfl rfl ?_
      show zX _ 47 62 [(4, .inr (8, zeN e)), (0, .inr (20, v)), (1, .inr (15, 0)), (2, zi m), (3, zi (j : Int))] [zi (((zeT e : Int) * 8) + (zeK e : Int)), .inr (30, v)] c s _ _
      refine zX.sn 1 (pc2 := 64) (l2 := [(4, .inr (8, zeN e)), (0, .inr (20, v)), (1, .inr (15, 0)), (2, zi m), (3, zi (j : Int))]) (st2 := [.inr (8, zeN e), zi (((zeT e : Int) * 8) + (zeK e : Int)), .inr (30, v)]) rfl ?_
      refine zX.getf ⟨rfl, rfl⟩ H_8_zeN_e rfl rfl ?_
      refine zX.call (mid2 := 54) (as := [.inr (30, v), zi (((zeT e : Int) * 8) + (zeK e : Int)), zi (zeV e)]) (rest := []) ⟨rfl, rfl⟩ (fun _ => rfl) (zX.inv rfl (P_again.1) rfl rfl) ⟨Nat.le_of_ble_eq_true rfl, Nat.le_of_ble_eq_true rfl⟩ ?_
      refine s_tadd (k := ((zeT e * 8) + zeK e)) (by omega) (by omega) (by omega) (by omega) P_again (fun h3 hv3 hF3 => ?_)
      show zX _ 47 70 [(4, .inr (8, zeN e)), (0, .inr (20, v)), (1, .inr (15, 0)), (2, zi m), (3, zi (j : Int))] [] c s _ _
      refine zX.s1 (pc2 := 73) (l2 := [(3, zi ((j : Int) + 1)), (4, .inr (8, zeN e)), (0, .inr (20, v)), (1, .inr (15, 0)), (2, zi m)]) (st2 := []) ⟨rfl, rfl⟩ (by rw [show (zi ((j : Int) + 1) : xV) = .inl (.int (Int32.ofInt (j : Int) + 1)) from congrArg (fun z => (.inl (.int z) : xV)) (Int32.ofInt_add _ _)]; rfl) ?_
      refine zX.sn 1 (pc2 := 9) (l2 := [(3, zi ((j : Int) + 1)), (4, .inr (8, zeN e)), (0, .inr (20, v)), (1, .inr (15, 0)), (2, zi m)]) (st2 := []) rfl ?_
      refine zX.re [(0, .inr (20, v)), (1, .inr (15, 0)), (2, zi m), (3, zi ((j : Int) + 1))] [2, 3, 4, 0] [3, 4, 0, 1, 2] rfl rfl (by decide) ?_
      exact k2 e2 e5 _ hv3 (fun za zb hn => ((hF3 za zb (by omega)).trans rfl))
    · show zX _ 47 42 [(4, .inr (8, zeN e)), (0, .inr (20, v)), (1, .inr (15, 0)), (2, zi m), (3, zi (j : Int))] [zi 1] c s _ _
      refine zX.icmp0 (tgt := 70) ⟨rfl, rfl⟩ rfl (by omega) (fun (e7 : ¬ 1 = 0) => ?_) (fun (zz : 1 = 0) => absurd zz (by omega))
      refine zX.s1 (pc2 := 73) (l2 := [(3, zi ((j : Int) + 1)), (4, .inr (8, zeN e)), (0, .inr (20, v)), (1, .inr (15, 0)), (2, zi m)]) (st2 := []) ⟨rfl, rfl⟩ (by rw [show (zi ((j : Int) + 1) : xV) = .inl (.int (Int32.ofInt (j : Int) + 1)) from congrArg (fun z => (.inl (.int z) : xV)) (Int32.ofInt_add _ _)]; rfl) ?_
      refine zX.sn 1 (pc2 := 9) (l2 := [(3, zi ((j : Int) + 1)), (4, .inr (8, zeN e)), (0, .inr (20, v)), (1, .inr (15, 0)), (2, zi m)]) (st2 := []) rfl ?_
      refine zX.re [(0, .inr (20, v)), (1, .inr (15, 0)), (2, zi m), (3, zi ((j : Int) + 1))] [2, 3, 4, 0] [3, 4, 0, 1, 2] rfl rfl (by decide) ?_
      exact k3 e2 e5

set_option maxHeartbeats 4000000 in
theorem r_sf2 {d c s : Nat} {h : xH} {Q : xR → Nat → Nat → xH → Prop} {v sz gr cap : Nat} {fi me m : Int} {dr : Int32} {xs : List (Nat × Nat)} {gn gs gg : Nat → Int32} {k : Nat} {fb : Nat → Int64} (hr : zSr v fi sz gr me) (hvr : zVr v fi sz gr) (hv : v < 5) (hsz : 1 ≤ sz ∧ sz ≤ 200) (hgr : gr ≤ 200) (hme : me = 99 ∨ me = 115 ∨ me = 109) (hm : -1 ≤ m ∧ m < 1000) (hk : k ≤ 8) (H_20_v : h (20, v) = some (.inl (6, [zi (v : Int), zi (zbi false), zi fi, zi (sz : Int), zi (gr : Int), .inr (2, 0), .inr (21, v), .inr (23, v), .inr (25, v), .inl (.int dr), zi me, .inr (26, v), .inr (30, v), .inr (34, v), .inr (35, v)]))) (P_again : zTal h 30 v 8000 gn gs gg) (P_found : zRes h 23 v 8000 fb)
    (k1 : (8 ≤ (k : Int)) → Q (.inl none) c s h)
    (k2 : ((k : Int) < 8) → ∀ gg1 : Nat → Int32, ∀ h' : xH, zTal h' 30 v 8000 ((zsOfG v sz me k m (gn, gs, fb)).1) ((zsOfG v sz me k m (gn, gs, fb)).2.1) (gg1) → zRes h' 23 v 8000 ((zsOfG v sz me k m (gn, gs, fb)).2.2) → (∀ za zb : Nat, ¬ ((30 ≤ za ∧ za < 30 + 4 ∧ zb = v) ∨ (23 ≤ za ∧ za < 23 + 2 ∧ zb = v)) → h' (za, zb) = h (za, zb)) → zX (d + 4) 47 78 [(0, .inr (20, v)), (2, zi m), (3, zi ((k : Int) + 1))] [] c s h' Q) :
    zX (d + 4) 47 78 [(0, .inr (20, v)), (2, zi m), (3, zi (k : Int))] [] c s h Q := by
  refine zX.sn 1 (pc2 := 79) (l2 := [(0, .inr (20, v)), (2, zi m), (3, zi (k : Int))]) (st2 := [zi (k : Int)]) rfl ?_
  refine zX.sn 1 (pc2 := 81) (l2 := [(0, .inr (20, v)), (2, zi m), (3, zi (k : Int))]) (st2 := [zi 8, zi (k : Int)]) rfl ?_
  refine zX.icmp (tgt := 96) ⟨rfl, rfl⟩ rfl (by omega) (by omega) (fun (e1 : 8 ≤ (k : Int)) => ?_) (fun (e1 : (k : Int) < 8) => ?_)
  · refine zX.ret rfl rfl ?_
    exact k1 e1
  · refine zX.sn 1 (pc2 := 85) (l2 := [(0, .inr (20, v)), (2, zi m), (3, zi (k : Int))]) (st2 := [.inr (20, v)]) rfl ?_
    refine zX.sn 1 (pc2 := 86) (l2 := [(0, .inr (20, v)), (2, zi m), (3, zi (k : Int))]) (st2 := [zi (k : Int), .inr (20, v)]) rfl ?_
    refine zX.sn 1 (pc2 := 87) (l2 := [(0, .inr (20, v)), (2, zi m), (3, zi (k : Int))]) (st2 := [zi m, zi (k : Int), .inr (20, v)]) rfl ?_
    refine zX.call (mid2 := 48) (as := [.inr (20, v), zi (k : Int), zi m]) (rest := []) ⟨rfl, rfl⟩ (fun _ => rfl) (zX.inv rfl H_20_v rfl rfl) ⟨Nat.le_of_ble_eq_true rfl, Nat.le_of_ble_eq_true rfl⟩ ?_
    refine s_sfo (G := (gn, gs, fb)) hr (by omega) (by omega) (show zVo _ 6 v false fi sz gr _ [zi me, .inr (26, v), .inr (30, v), .inr (34, v), .inr (35, v)] from H_20_v) P_again P_found  (fun h1 gg1 hv1 hw1 hF1 => ?_)
    show zX _ 47 90 [(0, .inr (20, v)), (2, zi m), (3, zi (k : Int))] [] c s _ _
    refine zX.s1 (pc2 := 93) (l2 := [(3, zi ((k : Int) + 1)), (0, .inr (20, v)), (2, zi m)]) (st2 := []) ⟨rfl, rfl⟩ (by rw [show (zi ((k : Int) + 1) : xV) = .inl (.int (Int32.ofInt (k : Int) + 1)) from congrArg (fun z => (.inl (.int z) : xV)) (Int32.ofInt_add _ _)]; rfl) ?_
    refine zX.sn 1 (pc2 := 78) (l2 := [(3, zi ((k : Int) + 1)), (0, .inr (20, v)), (2, zi m)]) (st2 := []) rfl ?_
    refine zX.re [(0, .inr (20, v)), (2, zi m), (3, zi ((k : Int) + 1))] [1, 2, 0] [3, 0, 2] rfl rfl (by decide) ?_
    exact k2 e1 gg1 _ hv1 hw1 (fun za zb hn => ((hF1 za zb (by omega)).trans rfl))

end ZR67
