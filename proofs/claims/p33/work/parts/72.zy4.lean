set_option maxRecDepth 100000
section ZR71
set_option maxHeartbeats 4000000 in
theorem r_jf0 {d c s : Nat} {h : xH} {Q : xR → Nat → Nat → xH → Prop} {v sz gr : Nat} {fi : Int} {dr : Int32} {cap : Nat} {J : List zE} {m : Int} (hvr : zVr v fi sz gr) (hv : v < 5) (hsz : 1 ≤ sz ∧ sz ≤ 200) (hgr : gr ≤ 200) (H_20_v : h (20, v) = some (.inl (2, [zi (v : Int), zi (zbi true), zi fi, zi (sz : Int), zi (gr : Int), .inr (2, 0), .inr (21, v), .inr (23, v), .inr (25, v), .inl (.int dr), .inr (36, v)])))
    (k1 : zX d 7 2 [(0, .inr (20, v)), (1, .inr (15, 0)), (3, zi 0)] [] c s h Q) :
    zX d 7 0 [(0, .inr (20, v)), (1, .inr (15, 0)), (2, zi m)] [] c s h Q := by
  refine zX.sn 1 (pc2 := 1) (l2 := [(0, .inr (20, v)), (1, .inr (15, 0)), (2, zi m)]) (st2 := [zi 0]) rfl ?_
  refine zX.sn 1 (pc2 := 2) (l2 := [(3, zi 0), (0, .inr (20, v)), (1, .inr (15, 0)), (2, zi m)]) (st2 := []) rfl ?_
  refine zX.re [(0, .inr (20, v)), (1, .inr (15, 0)), (3, zi 0)] [1, 2, 0] [3, 0, 1, 2] rfl rfl (by decide) ?_
  exact k1

set_option maxHeartbeats 4000000 in
theorem r_jf2 {d c s : Nat} {h : xH} {Q : xR → Nat → Nat → xH → Prop} {v sz gr : Nat} {fi : Int} {dr : Int32} {cap : Nat} {J : List zE} {j : Nat} (hvr : zVr v fi sz gr) (hv : v < 5) (hsz : 1 ≤ sz ∧ sz ≤ 200) (hgr : gr ≤ 200) (hj : j = (zNm J).length) (hxl : (zNm J).length ≤ 240) (H_20_v : h (20, v) = some (.inl (2, [zi (v : Int), zi (zbi true), zi fi, zi (sz : Int), zi (gr : Int), .inr (2, 0), .inr (21, v), .inr (23, v), .inr (25, v), .inl (.int dr), .inr (36, v)]))) (P_jr : zAL h 15 0 cap (zNm J))
    (k1 : Q (.inl none) c s h) :
    zX (d + 1) 7 2 [(0, .inr (20, v)), (1, .inr (15, 0)), (3, zi (j : Int))] [] c s h Q := by
  refine zX.sn 1 (pc2 := 3) (l2 := [(0, .inr (20, v)), (1, .inr (15, 0)), (3, zi (j : Int))]) (st2 := [zi (j : Int)]) rfl ?_
  refine zX.sn 1 (pc2 := 4) (l2 := [(0, .inr (20, v)), (1, .inr (15, 0)), (3, zi (j : Int))]) (st2 := [.inr (15, 0), zi (j : Int)]) rfl ?_
  refine zX.call (mid2 := 150) (as := [.inr (15, 0)]) (rest := [zi (j : Int)]) ⟨rfl, rfl⟩ (fun _ => rfl) (zX.invA rfl P_jr rfl rfl) ⟨Nat.le_of_ble_eq_true rfl, Nat.le_of_ble_eq_true rfl⟩ ?_
  refine s_size P_jr ?_
  show zX _ 7 7 [(0, .inr (20, v)), (1, .inr (15, 0)), (3, zi (j : Int))] [zi ((zNm J).length : Int), zi (j : Int)] c s _ _
  refine zX.icmp (tgt := 52) ⟨rfl, rfl⟩ rfl (by omega) (by omega) (fun (e1 : ((zNm J).length : Int) ≤ (j : Int)) => ?_) (fun (zz : (j : Int) < ((zNm J).length : Int)) => absurd zz (by omega))
  refine zX.ret rfl rfl ?_
  exact k1

set_option maxHeartbeats 4000000 in
theorem r_jf1 {d c s : Nat} {h : xH} {Q : xR → Nat → Nat → xH → Prop} {v sz gr : Nat} {fi : Int} {dr : Int32} {cap : Nat} {J : List zE} {e : zE} {j : Nat} {fb : Nat → Int64} (hvr : zVr v fi sz gr) (hv : v < 5) (hsz : 1 ≤ sz ∧ sz ≤ 200) (hgr : gr ≤ 200) (hEe : zEr e) (hkye : zeK e < 8) (htme : zeT e < 1000) (hvae : -99 ≤ zeV e ∧ zeV e ≤ 99) (hahe : -1 ≤ zeA e ∧ zeA e < 1000) (hode : zeO e < 240) (hire : 0 ≤ zbi (zeR e) ∧ zbi (zeR e) ≤ 1) (hile : 0 ≤ zbi (zeL e) ∧ zbi (zeL e) ≤ 1) (hj : j < (zNm J).length) (hxl : (zNm J).length ≤ 240) (hx : (zNm J)[j]? = some (8, zeN e)) (hjJ : zJr h cap J) (hjl : j < J.length) (hz : zcnt fb 12800 + 100 < 12800 ∧ J.length ≤ 72) (H_20_v : h (20, v) = some (.inl (2, [zi (v : Int), zi (zbi true), zi fi, zi (sz : Int), zi (gr : Int), .inr (2, 0), .inr (21, v), .inr (23, v), .inr (25, v), .inl (.int dr), .inr (36, v)]))) (H_8_zeN_e : h (8, zeN e) = some (.inl (1, [zi (zeP e : Int), zi (zbi (zeR e)), zi (zbi (zeL e)), zi (zeK e : Int), zi (zeT e : Int), zi (zeV e), zi (zeO e : Int), zi (zeA e), zi (zeB e)]))) (P_jr : zAL h 15 0 cap (zNm J)) (P_found : zRes h 23 v 12800 fb)
    (k1 : (((zNm J).length : Int) ≤ (j : Int)) → Q (.inl none) c s h)
    (k2 : ((j : Int) < ((zNm J).length : Int)) → (zLet true fi e = false) → zX (d + 4) 7 2 [(0, .inr (20, v)), (1, .inr (15, 0)), (3, zi ((j : Int) + 1))] [] c s h Q)
    (k3 : ((j : Int) < ((zNm J).length : Int)) → (zLet true fi e = true) → (¬ zLate sz gr e) → ∀ h' : xH, zRes h' 23 v 12800 (zjFa v sz gr fi e (J.take j) fb) → (∀ za zb : Nat, ¬ ((23 ≤ za ∧ za < 23 + 2 ∧ zb = v)) → h' (za, zb) = h (za, zb)) → zX (d + 4) 7 2 [(0, .inr (20, v)), (1, .inr (15, 0)), (3, zi ((j : Int) + 1))] [] c s h' Q)
    (k4 : ((j : Int) < ((zNm J).length : Int)) → (zLet true fi e = true) → (zLate sz gr e) → zX (d + 4) 7 2 [(0, .inr (20, v)), (1, .inr (15, 0)), (3, zi ((j : Int) + 1))] [] c s h Q) :
    zX (d + 4) 7 2 [(0, .inr (20, v)), (1, .inr (15, 0)), (3, zi (j : Int))] [] c s h Q := by
  refine zX.sn 1 (pc2 := 3) (l2 := [(0, .inr (20, v)), (1, .inr (15, 0)), (3, zi (j : Int))]) (st2 := [zi (j : Int)]) rfl ?_
  refine zX.sn 1 (pc2 := 4) (l2 := [(0, .inr (20, v)), (1, .inr (15, 0)), (3, zi (j : Int))]) (st2 := [.inr (15, 0), zi (j : Int)]) rfl ?_
  refine zX.call (mid2 := 150) (as := [.inr (15, 0)]) (rest := [zi (j : Int)]) ⟨rfl, rfl⟩ (fun _ => rfl) (zX.invA rfl P_jr rfl rfl) ⟨Nat.le_of_ble_eq_true rfl, Nat.le_of_ble_eq_true rfl⟩ ?_
  refine s_size P_jr ?_
  show zX _ 7 7 [(0, .inr (20, v)), (1, .inr (15, 0)), (3, zi (j : Int))] [zi ((zNm J).length : Int), zi (j : Int)] c s _ _
  refine zX.icmp (tgt := 52) ⟨rfl, rfl⟩ rfl (by omega) (by omega) (fun (e1 : ((zNm J).length : Int) ≤ (j : Int)) => ?_) (fun (e1 : (j : Int) < ((zNm J).length : Int)) => ?_)
  · refine zX.ret rfl rfl ?_
    exact k1 e1
  · refine zX.sn 1 (pc2 := 11) (l2 := [(0, .inr (20, v)), (1, .inr (15, 0)), (3, zi (j : Int))]) (st2 := [.inr (15, 0)]) rfl ?_
    refine zX.sn 1 (pc2 := 12) (l2 := [(0, .inr (20, v)), (1, .inr (15, 0)), (3, zi (j : Int))]) (st2 := [zi (j : Int), .inr (15, 0)]) rfl ?_
    refine zX.call (mid2 := 153) (as := [.inr (15, 0), zi (j : Int)]) (rest := []) ⟨rfl, rfl⟩ (fun _ => rfl) (zX.invA rfl P_jr rfl rfl) ⟨Nat.le_of_ble_eq_true rfl, Nat.le_of_ble_eq_true rfl⟩ ?_
    refine s_get (j := j) (x := (8, zeN e)) rfl (by omega) P_jr hx ?_
    show zX _ 7 15 [(0, .inr (20, v)), (1, .inr (15, 0)), (3, zi (j : Int))] [.inr (8, zeN e)] c s _ _
    refine zX.cast ⟨rfl, rfl⟩ H_8_zeN_e rfl ?_
    refine zX.sn 1 (pc2 := 20) (l2 := [(4, .inr (8, zeN e)), (0, .inr (20, v)), (1, .inr (15, 0)), (3, zi (j : Int))]) (st2 := []) rfl ?_
    refine zX.sn 1 (pc2 := 21) (l2 := [(4, .inr (8, zeN e)), (0, .inr (20, v)), (1, .inr (15, 0)), (3, zi (j : Int))]) (st2 := [.inr (20, v)]) rfl ?_
    refine zX.sn 1 (pc2 := 23) (l2 := [(4, .inr (8, zeN e)), (0, .inr (20, v)), (1, .inr (15, 0)), (3, zi (j : Int))]) (st2 := [.inr (8, zeN e), .inr (20, v)]) rfl ?_
    refine zX.call (mid2 := 75) (as := [.inr (20, v), .inr (8, zeN e)]) (rest := []) ⟨rfl, rfl⟩ (fun _ => rfl) (zX.inv rfl H_20_v rfl rfl) ⟨Nat.le_of_ble_eq_true rfl, Nat.le_of_ble_eq_true rfl⟩ ?_
    refine s_lets (ci := 2) (bs := true) hvr (by omega) hEe (show zVo _ 2 v true fi sz gr _ _ from H_20_v) (show zEn _ e from H_8_zeN_e)  (fun (e2 : zLet true fi e = false) => ?_) (fun (e2 : zLet true fi e = true) => ?_)
    · show zX _ 7 26 [(4, .inr (8, zeN e)), (0, .inr (20, v)), (1, .inr (15, 0)), (3, zi (j : Int))] [zi 0] c s _ _
      refine zX.icmp0 (tgt := 46) ⟨rfl, rfl⟩ rfl (by omega) (fun (e3 : 0 = 0) => ?_) (fun (zz : ¬ 0 = 0) => absurd zz (by omega))
      refine zX.s1 (pc2 := 49) (l2 := [(3, zi ((j : Int) + 1)), (4, .inr (8, zeN e)), (0, .inr (20, v)), (1, .inr (15, 0))]) (st2 := []) ⟨rfl, rfl⟩ (by rw [show (zi ((j : Int) + 1) : xV) = .inl (.int (Int32.ofInt (j : Int) + 1)) from congrArg (fun z => (.inl (.int z) : xV)) (Int32.ofInt_add _ _)]; rfl) ?_
      refine zX.sn 1 (pc2 := 2) (l2 := [(3, zi ((j : Int) + 1)), (4, .inr (8, zeN e)), (0, .inr (20, v)), (1, .inr (15, 0))]) (st2 := []) rfl ?_
      refine zX.re [(0, .inr (20, v)), (1, .inr (15, 0)), (3, zi ((j : Int) + 1))] [2, 3, 0] [3, 4, 0, 1] rfl rfl (by decide) ?_
      exact k2 e1 e2
    · show zX _ 7 26 [(4, .inr (8, zeN e)), (0, .inr (20, v)), (1, .inr (15, 0)), (3, zi (j : Int))] [zi 1] c s _ _
      refine zX.icmp0 (tgt := 46) ⟨rfl, rfl⟩ rfl (by omega) (fun (zz : 1 = 0) => absurd zz (by omega)) (fun (e4 : ¬ 1 = 0) => ?_)
      refine zX.sn 1 (pc2 := 30) (l2 := [(4, .inr (8, zeN e)), (0, .inr (20, v)), (1, .inr (15, 0)), (3, zi (j : Int))]) (st2 := [.inr (20, v)]) rfl ?_
      refine zX.sn 1 (pc2 := 32) (l2 := [(4, .inr (8, zeN e)), (0, .inr (20, v)), (1, .inr (15, 0)), (3, zi (j : Int))]) (st2 := [.inr (8, zeN e), .inr (20, v)]) rfl ?_
      refine zX.call (mid2 := 84) (as := [.inr (20, v), .inr (8, zeN e)]) (rest := []) ⟨rfl, rfl⟩ (fun _ => rfl) (zX.inv rfl H_20_v rfl rfl) ⟨Nat.le_of_ble_eq_true rfl, Nat.le_of_ble_eq_true rfl⟩ ?_
      refine s_late (ci := 2) (bs := true) hvr (by omega) hEe (show zVo _ 2 v true fi sz gr _ _ from H_20_v) (show zEn _ e from H_8_zeN_e)  (fun (e5 : ¬ zLate sz gr e) => ?_) (fun (e5 : zLate sz gr e) => ?_)
      · show zX _ 7 35 [(4, .inr (8, zeN e)), (0, .inr (20, v)), (1, .inr (15, 0)), (3, zi (j : Int))] [zi 0] c s _ _
        refine zX.icmp0 (tgt := 46) ⟨rfl, rfl⟩ rfl (by omega) (fun (zz : ¬ 0 = 0) => absurd zz (by omega)) (fun (e6 : 0 = 0) => ?_)
        refine zX.sn 1 (pc2 := 39) (l2 := [(4, .inr (8, zeN e)), (0, .inr (20, v)), (1, .inr (15, 0)), (3, zi (j : Int))]) (st2 := [.inr (20, v)]) rfl ?_
        refine zX.sn 1 (pc2 := 40) (l2 := [(4, .inr (8, zeN e)), (0, .inr (20, v)), (1, .inr (15, 0)), (3, zi (j : Int))]) (st2 := [.inr (15, 0), .inr (20, v)]) rfl ?_
        refine zX.sn 1 (pc2 := 41) (l2 := [(4, .inr (8, zeN e)), (0, .inr (20, v)), (1, .inr (15, 0)), (3, zi (j : Int))]) (st2 := [zi (j : Int), .inr (15, 0), .inr (20, v)]) rfl ?_
        refine zX.sn 1 (pc2 := 43) (l2 := [(4, .inr (8, zeN e)), (0, .inr (20, v)), (1, .inr (15, 0)), (3, zi (j : Int))]) (st2 := [.inr (8, zeN e), zi (j : Int), .inr (15, 0), .inr (20, v)]) rfl ?_
        refine zX.call (mid2 := 8) (as := [.inr (20, v), .inr (15, 0), zi (j : Int), .inr (8, zeN e)]) (rest := []) ⟨rfl, rfl⟩ (fun _ => rfl) (zX.inv rfl H_20_v rfl rfl) ⟨Nat.le_of_ble_eq_true rfl, Nat.le_of_ble_eq_true rfl⟩ ?_
        refine s_jfa (j := j) hvr hjl hz hEe (show zEn _ e from H_8_zeN_e) (show zVo _ 2 v true fi sz gr _ [.inr (36, v)] from H_20_v) hjJ P_found  (fun h3 hv3 hF3 => ?_)
        show zX _ 7 46 [(4, .inr (8, zeN e)), (0, .inr (20, v)), (1, .inr (15, 0)), (3, zi (j : Int))] [] c s _ _
        refine zX.s1 (pc2 := 49) (l2 := [(3, zi ((j : Int) + 1)), (4, .inr (8, zeN e)), (0, .inr (20, v)), (1, .inr (15, 0))]) (st2 := []) ⟨rfl, rfl⟩ (by rw [show (zi ((j : Int) + 1) : xV) = .inl (.int (Int32.ofInt (j : Int) + 1)) from congrArg (fun z => (.inl (.int z) : xV)) (Int32.ofInt_add _ _)]; rfl) ?_
        refine zX.sn 1 (pc2 := 2) (l2 := [(3, zi ((j : Int) + 1)), (4, .inr (8, zeN e)), (0, .inr (20, v)), (1, .inr (15, 0))]) (st2 := []) rfl ?_
        refine zX.re [(0, .inr (20, v)), (1, .inr (15, 0)), (3, zi ((j : Int) + 1))] [2, 3, 0] [3, 4, 0, 1] rfl rfl (by decide) ?_
        exact k3 e1 e2 e5 _ hv3 (fun za zb hn => ((hF3 za zb (by omega)).trans rfl))
      · show zX _ 7 35 [(4, .inr (8, zeN e)), (0, .inr (20, v)), (1, .inr (15, 0)), (3, zi (j : Int))] [zi 1] c s _ _
        refine zX.icmp0 (tgt := 46) ⟨rfl, rfl⟩ rfl (by omega) (fun (e7 : ¬ 1 = 0) => ?_) (fun (zz : 1 = 0) => absurd zz (by omega))
        refine zX.s1 (pc2 := 49) (l2 := [(3, zi ((j : Int) + 1)), (4, .inr (8, zeN e)), (0, .inr (20, v)), (1, .inr (15, 0))]) (st2 := []) ⟨rfl, rfl⟩ (by rw [show (zi ((j : Int) + 1) : xV) = .inl (.int (Int32.ofInt (j : Int) + 1)) from congrArg (fun z => (.inl (.int z) : xV)) (Int32.ofInt_add _ _)]; rfl) ?_
        refine zX.sn 1 (pc2 := 2) (l2 := [(3, zi ((j : Int) + 1)), (4, .inr (8, zeN e)), (0, .inr (20, v)), (1, .inr (15, 0))]) (st2 := []) rfl ?_
        refine zX.re [(0, .inr (20, v)), (1, .inr (15, 0)), (3, zi ((j : Int) + 1))] [2, 3, 0] [3, 4, 0, 1] rfl rfl (by decide) ?_
        exact k4 e1 e2 e5

end ZR71
