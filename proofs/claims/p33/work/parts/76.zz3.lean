set_option maxRecDepth 100000
section ZR76
set_option maxHeartbeats 4000000 in
theorem r_vres {d c s : Nat} {h : xH} {Q : xR → Nat → Nat → xH → Prop} {v sz gr : Nat} {fi : Int} {dr : Int32} {ro cap : Nat} {K : List zE} {e : zE} (hvr : zVr v fi sz gr) (hv : v < 5) (hsz : 1 ≤ sz ∧ sz ≤ 200) (hgr : gr ≤ 200) (hEe : zEr e) (hkye : zeK e < 8) (htme : zeT e < 1000) (hvae : -99 ≤ zeV e ∧ zeV e ≤ 99) (hahe : -1 ≤ zeA e ∧ zeA e < 1000) (hode : zeO e < 240) (hire : 0 ≤ zbi (zeR e) ∧ zbi (zeR e) ≤ 1) (hile : 0 ≤ zbi (zeL e) ∧ zbi (zeL e) ≤ 1) (hro : 36 ≤ ro ∧ ro < 42) (hKl : K.length ≤ 240) (hk : zKs h K) (H_20_v : h (20, v) = some (.inl (8, [zi (v : Int), zi (zbi true), zi fi, zi (sz : Int), zi (gr : Int), .inr (2, 0), .inr (21, v), .inr (23, v), .inr (25, v), .inl (.int dr), .inr (36, v), .inr (38, v), .inr (40, v)]))) (H_8_zeN_e : h (8, zeN e) = some (.inl (1, [zi (zeP e : Int), zi (zbi (zeR e)), zi (zbi (zeL e)), zi (zeK e : Int), zi (zeT e : Int), zi (zeV e), zi (zeO e : Int), zi (zeA e), zi (zeB e)]))) (P_lst : zAL h ro v cap (zNm K))
    (k1 : (zvBest (zeK e) (zeT e : Int) K = none) → Q (.inl (some (.inl (.long (zro (v : Int) (zeK e : Int) (zeT e : Int) (-1) (Int32.ofInt (zeV e))))))) c s h)
    (k2 : ∀ b1 : zE, (zvBest (zeK e) (zeT e : Int) K = some b1) → Q (.inl (some (.inl (.long (zro (v : Int) (zeK e : Int) (zeT e : Int) (zeT b1 : Int) (Int32.ofInt (zeV e + zeV b1))))))) c s h) :
    zX (d + 4) 64 0 [(0, .inr (20, v)), (1, .inr (8, zeN e)), (2, .inr (ro, v))] [] c s h Q := by
  refine zX.sn 1 (pc2 := 1) (l2 := [(0, .inr (20, v)), (1, .inr (8, zeN e)), (2, .inr (ro, v))]) (st2 := [.inr (20, v)]) rfl ?_
  refine zX.sn 1 (pc2 := 2) (l2 := [(0, .inr (20, v)), (1, .inr (8, zeN e)), (2, .inr (ro, v))]) (st2 := [.inr (ro, v), .inr (20, v)]) rfl ?_
  refine zX.sn 1 (pc2 := 3) (l2 := [(0, .inr (20, v)), (1, .inr (8, zeN e)), (2, .inr (ro, v))]) (st2 := [.inr (8, zeN e), .inr (ro, v), .inr (20, v)]) rfl ?_
  refine zX.getf ⟨rfl, rfl⟩ H_8_zeN_e rfl rfl ?_
  refine zX.sn 1 (pc2 := 7) (l2 := [(0, .inr (20, v)), (1, .inr (8, zeN e)), (2, .inr (ro, v))]) (st2 := [.inr (8, zeN e), zi (zeK e : Int), .inr (ro, v), .inr (20, v)]) rfl ?_
  refine zX.getf ⟨rfl, rfl⟩ H_8_zeN_e rfl rfl ?_
  refine zX.call (mid2 := 62) (as := [.inr (20, v), .inr (ro, v), zi (zeK e : Int), zi (zeT e : Int)]) (rest := []) ⟨rfl, rfl⟩ (fun _ => rfl) (zX.inv rfl H_20_v rfl rfl) ⟨Nat.le_of_ble_eq_true rfl, Nat.le_of_ble_eq_true rfl⟩ ?_
  refine s_best (K := K) (k := (zeK e)) hvr (by omega) (by omega) (by omega) hKl (show zVo _ 8 v true fi sz gr _ [.inr (36, v), .inr (38, v), .inr (40, v)] from H_20_v) P_lst hk (fun eb1 => ?_) (fun b1 eb1 hEb1 hnb1 => ?_)
  · show zX _ 64 13 [(0, .inr (20, v)), (1, .inr (8, zeN e)), (2, .inr (ro, v))] [.inl .null] c s _ _
    refine zX.sn 1 (pc2 := 14) (l2 := [(3, .inl .null), (0, .inr (20, v)), (1, .inr (8, zeN e)), (2, .inr (ro, v))]) (st2 := []) rfl ?_
    refine zX.sn 1 (pc2 := 15) (l2 := [(3, .inl .null), (0, .inr (20, v)), (1, .inr (8, zeN e)), (2, .inr (ro, v))]) (st2 := [.inl .null]) rfl ?_
    refine zX.sn 1 (pc2 := 18) (l2 := [(3, .inl .null), (0, .inr (20, v)), (1, .inr (8, zeN e)), (2, .inr (ro, v))]) (st2 := []) rfl ?_
    refine zX.sn 1 (pc2 := 19) (l2 := [(3, .inl .null), (0, .inr (20, v)), (1, .inr (8, zeN e)), (2, .inr (ro, v))]) (st2 := [.inr (20, v)]) rfl ?_
    refine zX.getf ⟨rfl, rfl⟩ H_20_v rfl rfl ?_
    refine zX.sn 1 (pc2 := 23) (l2 := [(3, .inl .null), (0, .inr (20, v)), (1, .inr (8, zeN e)), (2, .inr (ro, v))]) (st2 := [.inr (8, zeN e), zi (v : Int)]) rfl ?_
    refine zX.getf ⟨rfl, rfl⟩ H_8_zeN_e rfl rfl ?_
    refine zX.sn 1 (pc2 := 27) (l2 := [(3, .inl .null), (0, .inr (20, v)), (1, .inr (8, zeN e)), (2, .inr (ro, v))]) (st2 := [.inr (8, zeN e), zi (zeK e : Int), zi (v : Int)]) rfl ?_
    refine zX.getf ⟨rfl, rfl⟩ H_8_zeN_e rfl rfl ?_
    refine zX.sn 1 (pc2 := 31) (l2 := [(3, .inl .null), (0, .inr (20, v)), (1, .inr (8, zeN e)), (2, .inr (ro, v))]) (st2 := [zi (-1), zi (zeT e : Int), zi (zeK e : Int), zi (v : Int)]) rfl ?_
    refine zX.sn 1 (pc2 := 32) (l2 := [(3, .inl .null), (0, .inr (20, v)), (1, .inr (8, zeN e)), (2, .inr (ro, v))]) (st2 := [.inr (8, zeN e), zi (-1), zi (zeT e : Int), zi (zeK e : Int), zi (v : Int)]) rfl ?_
    refine zX.getf ⟨rfl, rfl⟩ H_8_zeN_e rfl rfl ?_
    refine zX.call (mid2 := 14) (as := [zi (v : Int), zi (zeK e : Int), zi (zeT e : Int), zi (-1), zi (zeV e)]) (rest := []) ⟨rfl, rfl⟩ (fun _ => rfl) rfl ⟨Nat.le_of_ble_eq_true rfl, Nat.le_of_ble_eq_true rfl⟩ ?_
    refine s_of  ?_
    show zX _ 64 38 [(3, .inl .null), (0, .inr (20, v)), (1, .inr (8, zeN e)), (2, .inr (ro, v))] [.inl (.long (zro (v : Int) (zeK e : Int) (zeT e : Int) (-1) (Int32.ofInt (zeV e))))] c s _ _
    refine zX.ret rfl rfl ?_
    exact k1 eb1
  · obtain ⟨i1b1, i2b1, i3b1, i4b1, i5b1, i6b1⟩ := id hEb1
    show zX _ 64 13 [(0, .inr (20, v)), (1, .inr (8, zeN e)), (2, .inr (ro, v))] [.inr (8, zeN b1)] c s _ _
    refine zX.sn 1 (pc2 := 14) (l2 := [(3, .inr (8, zeN b1)), (0, .inr (20, v)), (1, .inr (8, zeN e)), (2, .inr (ro, v))]) (st2 := []) rfl ?_
    refine zX.sn 1 (pc2 := 15) (l2 := [(3, .inr (8, zeN b1)), (0, .inr (20, v)), (1, .inr (8, zeN e)), (2, .inr (ro, v))]) (st2 := [.inr (8, zeN b1)]) rfl ?_
    refine zX.sn 1 (pc2 := 39) (l2 := [(3, .inr (8, zeN b1)), (0, .inr (20, v)), (1, .inr (8, zeN e)), (2, .inr (ro, v))]) (st2 := []) rfl ?_
    refine zX.sn 1 (pc2 := 40) (l2 := [(3, .inr (8, zeN b1)), (0, .inr (20, v)), (1, .inr (8, zeN e)), (2, .inr (ro, v))]) (st2 := [.inr (20, v)]) rfl ?_
    refine zX.getf ⟨rfl, rfl⟩ H_20_v rfl rfl ?_
    refine zX.sn 1 (pc2 := 44) (l2 := [(3, .inr (8, zeN b1)), (0, .inr (20, v)), (1, .inr (8, zeN e)), (2, .inr (ro, v))]) (st2 := [.inr (8, zeN e), zi (v : Int)]) rfl ?_
    refine zX.getf ⟨rfl, rfl⟩ H_8_zeN_e rfl rfl ?_
    refine zX.sn 1 (pc2 := 48) (l2 := [(3, .inr (8, zeN b1)), (0, .inr (20, v)), (1, .inr (8, zeN e)), (2, .inr (ro, v))]) (st2 := [.inr (8, zeN e), zi (zeK e : Int), zi (v : Int)]) rfl ?_
    refine zX.getf ⟨rfl, rfl⟩ H_8_zeN_e rfl rfl ?_
    refine zX.sn 1 (pc2 := 52) (l2 := [(3, .inr (8, zeN b1)), (0, .inr (20, v)), (1, .inr (8, zeN e)), (2, .inr (ro, v))]) (st2 := [.inr (8, zeN b1), zi (zeT e : Int), zi (zeK e : Int), zi (v : Int)]) rfl ?_
    refine zX.getf ⟨rfl, rfl⟩ hnb1 rfl rfl ?_
    refine zX.sn 1 (pc2 := 56) (l2 := [(3, .inr (8, zeN b1)), (0, .inr (20, v)), (1, .inr (8, zeN e)), (2, .inr (ro, v))]) (st2 := [.inr (8, zeN e), zi (zeT b1 : Int), zi (zeT e : Int), zi (zeK e : Int), zi (v : Int)]) rfl ?_
    refine zX.getf ⟨rfl, rfl⟩ H_8_zeN_e rfl rfl ?_
    refine zX.sn 1 (pc2 := 60) (l2 := [(3, .inr (8, zeN b1)), (0, .inr (20, v)), (1, .inr (8, zeN e)), (2, .inr (ro, v))]) (st2 := [.inr (8, zeN b1), zi (zeV e), zi (zeT b1 : Int), zi (zeT e : Int), zi (zeK e : Int), zi (v : Int)]) rfl ?_
    refine zX.getf ⟨rfl, rfl⟩ hnb1 rfl rfl ?_
    refine zX.iadd ⟨rfl, rfl⟩ ?_
    refine zX.call (mid2 := 14) (as := [zi (v : Int), zi (zeK e : Int), zi (zeT e : Int), zi (zeT b1 : Int), zi (zeV e + zeV b1)]) (rest := []) ⟨rfl, rfl⟩ (fun _ => rfl) rfl ⟨Nat.le_of_ble_eq_true rfl, Nat.le_of_ble_eq_true rfl⟩ ?_
    refine s_of  ?_
    show zX _ 64 67 [(3, .inr (8, zeN b1)), (0, .inr (20, v)), (1, .inr (8, zeN e)), (2, .inr (ro, v))] [.inl (.long (zro (v : Int) (zeK e : Int) (zeT e : Int) (zeT b1 : Int) (Int32.ofInt (zeV e + zeV b1))))] c s _ _
    refine zX.ret rfl rfl ?_
    exact k2 b1 eb1

theorem s_vres {d c s v sz gr ro cap : Nat} {fi : Int} {dr : Int32} {h : xH} {Q : xR → Nat → Nat → xH → Prop} {K : List zE} {e : zE} (hr : zVr v fi sz gr) (hro : 36 ≤ ro ∧ ro < 42) (hKl : K.length ≤ 240) (hE : zEr e) (he : zEn h e) (hV : zVo h 8 v true fi sz gr dr [.inr (36, v), .inr (38, v), .inr (40, v)]) (hA : zAL h ro v cap (zNm K)) (hk : zKs h K)
    (q : Q (.inl (some (.inl (.long (zvRes v K e))))) c s h) : zX (d + 4) 64 0 [(0, .inr (20, v)), (1, .inr (8, zeN e)), (2, .inr (ro, v))] [] c s h Q := by
  obtain ⟨r1, r2, r3, r4⟩ := id hr
  obtain ⟨e1, e2, e3, e4, e5, e6⟩ := id hE
  unfold zvRes at q
  refine r_vres hr r1 r3 r4 hE e2 e3 e4 e6 e5 (zbi_r _) (zbi_r _) hro hKl hk hV he hA (fun z => ?_) (fun b z => ?_)
  · rw [z] at q
    exact q
  · rw [z] at q
    exact q
set_option maxHeartbeats 4000000 in
theorem r_vla0 {d c s : Nat} {h : xH} {Q : xR → Nat → Nat → xH → Prop} {v sz gr : Nat} {fi : Int} {dr : Int32} {k : Nat} (hvr : zVr v fi sz gr) (hv : v < 5) (hsz : 1 ≤ sz ∧ sz ≤ 200) (hgr : gr ≤ 200) (H_20_v : h (20, v) = some (.inl (8, [zi (v : Int), zi (zbi true), zi fi, zi (sz : Int), zi (gr : Int), .inr (2, 0), .inr (21, v), .inr (23, v), .inr (25, v), .inl (.int dr), .inr (36, v), .inr (38, v), .inr (40, v)])))
    (k1 : zX d 67 2 [(0, .inr (20, v)), (1, zi (k : Int)), (2, zi 0)] [] c s h Q) :
    zX d 67 0 [(0, .inr (20, v)), (1, zi (k : Int))] [] c s h Q := by
  refine zX.sn 1 (pc2 := 1) (l2 := [(0, .inr (20, v)), (1, zi (k : Int))]) (st2 := [zi 0]) rfl ?_
  refine zX.sn 1 (pc2 := 2) (l2 := [(2, zi 0), (0, .inr (20, v)), (1, zi (k : Int))]) (st2 := []) rfl ?_
  refine zX.re [(0, .inr (20, v)), (1, zi (k : Int)), (2, zi 0)] [1, 2, 0] [2, 0, 1] rfl rfl (by decide) ?_
  exact k1

set_option maxHeartbeats 4000000 in
theorem r_vlae {d c s : Nat} {h : xH} {Q : xR → Nat → Nat → xH → Prop} {v sz gr : Nat} {fi : Int} {dr : Int32} {cap1 cap2 : Nat} {Lf Vs : List zE} {k j : Nat} (hvr : zVr v fi sz gr) (hv : v < 5) (hsz : 1 ≤ sz ∧ sz ≤ 200) (hgr : gr ≤ 200) (hj : j = (zNm Lf).length) (hl : (zNm Lf).length ≤ 240) (H_20_v : h (20, v) = some (.inl (8, [zi (v : Int), zi (zbi true), zi fi, zi (sz : Int), zi (gr : Int), .inr (2, 0), .inr (21, v), .inr (23, v), .inr (25, v), .inl (.int dr), .inr (36, v), .inr (38, v), .inr (40, v)]))) (P_lef : zAL h 36 v cap1 (zNm Lf))
    (k1 : Q (.inl none) c s h) :
    zX (d + 1) 67 2 [(0, .inr (20, v)), (1, zi (k : Int)), (2, zi (j : Int))] [] c s h Q := by
  refine zX.sn 1 (pc2 := 3) (l2 := [(0, .inr (20, v)), (1, zi (k : Int)), (2, zi (j : Int))]) (st2 := [zi (j : Int)]) rfl ?_
  refine zX.sn 1 (pc2 := 4) (l2 := [(0, .inr (20, v)), (1, zi (k : Int)), (2, zi (j : Int))]) (st2 := [.inr (20, v), zi (j : Int)]) rfl ?_
  refine zX.getf ⟨rfl, rfl⟩ H_20_v rfl rfl ?_
  refine zX.call (mid2 := 150) (as := [.inr (36, v)]) (rest := [zi (j : Int)]) ⟨rfl, rfl⟩ (fun _ => rfl) (zX.invA rfl P_lef rfl rfl) ⟨Nat.le_of_ble_eq_true rfl, Nat.le_of_ble_eq_true rfl⟩ ?_
  refine s_size P_lef ?_
  show zX _ 67 10 [(0, .inr (20, v)), (1, zi (k : Int)), (2, zi (j : Int))] [zi ((zNm Lf).length : Int), zi (j : Int)] c s _ _
  refine zX.icmp (tgt := 68) ⟨rfl, rfl⟩ rfl (by omega) (by omega) (fun (e1 : ((zNm Lf).length : Int) ≤ (j : Int)) => ?_) (fun (zz : (j : Int) < ((zNm Lf).length : Int)) => absurd zz (by omega))
  refine zX.ret rfl rfl ?_
  exact k1

set_option maxHeartbeats 4000000 in
theorem r_vla {d c s : Nat} {h : xH} {Q : xR → Nat → Nat → xH → Prop} {v sz gr : Nat} {fi : Int} {dr : Int32} {cap1 cap2 : Nat} {Lf Vs : List zE} {N : Nat} {fa : Nat → Int64} {out : List Int64} {o : zE} {k j : Nat} (hvr : zVr v fi sz gr) (hv : v < 5) (hsz : 1 ≤ sz ∧ sz ≤ 200) (hgr : gr ≤ 200) (hEo : zEr o) (hkyo : zeK o < 8) (htmo : zeT o < 1000) (hvao : -99 ≤ zeV o ∧ zeV o ≤ 99) (haho : -1 ≤ zeA o ∧ zeA o < 1000) (hodo : zeO o < 240) (hiro : 0 ≤ zbi (zeR o) ∧ zbi (zeR o) ≤ 1) (hilo : 0 ≤ zbi (zeL o) ∧ zbi (zeL o) ≤ 1) (hKl : Vs.length ≤ 240) (hkV : zKs h Vs) (hk : k < 8) (hj : j < (zNm Lf).length) (hl : (zNm Lf).length ≤ 240) (hx : (zNm Lf)[j]? = some (8, zeN o)) (ho : out.length + 2 < 200000) (H_20_v : h (20, v) = some (.inl (8, [zi (v : Int), zi (zbi true), zi fi, zi (sz : Int), zi (gr : Int), .inr (2, 0), .inr (21, v), .inr (23, v), .inr (25, v), .inl (.int dr), .inr (36, v), .inr (38, v), .inr (40, v)]))) (H_8_zeN_o : h (8, zeN o) = some (.inl (1, [zi (zeP o : Int), zi (zbi (zeR o)), zi (zbi (zeL o)), zi (zeK o : Int), zi (zeT o : Int), zi (zeV o), zi (zeO o : Int), zi (zeA o), zi (zeB o)]))) (P_lef : zAL h 36 v cap1 (zNm Lf)) (P_ver : zAL h 38 v cap2 (zNm Vs)) (P_told : zRes h 21 v 240 fa) (P_out : zOut h N out)
    (k1 : (¬ (zeK o : Int) = (k : Int)) → zX (d + 5) 67 2 [(0, .inr (20, v)), (1, zi (k : Int)), (2, zi ((j : Int) + 1))] [] c s h Q)
    (k2 : ((zeK o : Int) = (k : Int)) → ((fa (zeO o)) = 0) → zX (d + 5) 67 2 [(0, .inr (20, v)), (1, zi (k : Int)), (2, zi ((j : Int) + 1))] [] c s h Q)
    (k3 : ((zeK o : Int) = (k : Int)) → (¬ (fa (zeO o)) = 0) → ∀ N5 : Nat, ∀ c5 : Nat, ∀ s5 : Nat, (zCo N c s N5 c5 s5) → ∀ h' : xH, zRes h' 21 v 240 (zanF fa (zeO o) (zeO o) (zvRes v Vs o)) → zOut h' N5 (out ++ zanL fa (zeO o) (zvRes v Vs o)) → (∀ za zb : Nat, ¬ ((21 ≤ za ∧ za < 21 + 2 ∧ zb = v) ∨ (2 ≤ za ∧ za < 4)) → h' (za, zb) = h (za, zb)) → zX (d + 5) 67 2 [(0, .inr (20, v)), (1, zi (k : Int)), (2, zi ((j : Int) + 1))] [] c5 s5 h' Q) :
    zX (d + 5) 67 2 [(0, .inr (20, v)), (1, zi (k : Int)), (2, zi (j : Int))] [] c s h Q := by
  refine zX.sn 1 (pc2 := 3) (l2 := [(0, .inr (20, v)), (1, zi (k : Int)), (2, zi (j : Int))]) (st2 := [zi (j : Int)]) rfl ?_
  refine zX.sn 1 (pc2 := 4) (l2 := [(0, .inr (20, v)), (1, zi (k : Int)), (2, zi (j : Int))]) (st2 := [.inr (20, v), zi (j : Int)]) rfl ?_
  refine zX.getf ⟨rfl, rfl⟩ H_20_v rfl rfl ?_
  refine zX.call (mid2 := 150) (as := [.inr (36, v)]) (rest := [zi (j : Int)]) ⟨rfl, rfl⟩ (fun _ => rfl) (zX.invA rfl P_lef rfl rfl) ⟨Nat.le_of_ble_eq_true rfl, Nat.le_of_ble_eq_true rfl⟩ ?_
  refine s_size P_lef ?_
  show zX _ 67 10 [(0, .inr (20, v)), (1, zi (k : Int)), (2, zi (j : Int))] [zi ((zNm Lf).length : Int), zi (j : Int)] c s _ _
  refine zX.icmp (tgt := 68) ⟨rfl, rfl⟩ rfl (by omega) (by omega) (fun (zz : ((zNm Lf).length : Int) ≤ (j : Int)) => absurd zz (by omega)) (fun (e1 : (j : Int) < ((zNm Lf).length : Int)) => ?_)
  refine zX.sn 1 (pc2 := 14) (l2 := [(0, .inr (20, v)), (1, zi (k : Int)), (2, zi (j : Int))]) (st2 := [.inr (20, v)]) rfl ?_
  refine zX.getf ⟨rfl, rfl⟩ H_20_v rfl rfl ?_
  refine zX.sn 1 (pc2 := 18) (l2 := [(0, .inr (20, v)), (1, zi (k : Int)), (2, zi (j : Int))]) (st2 := [zi (j : Int), .inr (36, v)]) rfl ?_
  refine zX.call (mid2 := 153) (as := [.inr (36, v), zi (j : Int)]) (rest := []) ⟨rfl, rfl⟩ (fun _ => rfl) (zX.invA rfl P_lef rfl rfl) ⟨Nat.le_of_ble_eq_true rfl, Nat.le_of_ble_eq_true rfl⟩ ?_
  refine s_get (j := j) (x := (8, zeN o)) rfl (by omega) P_lef hx ?_
  show zX _ 67 21 [(0, .inr (20, v)), (1, zi (k : Int)), (2, zi (j : Int))] [.inr (8, zeN o)] c s _ _
  refine zX.cast ⟨rfl, rfl⟩ H_8_zeN_o rfl ?_
  refine zX.sn 1 (pc2 := 25) (l2 := [(3, .inr (8, zeN o)), (0, .inr (20, v)), (1, zi (k : Int)), (2, zi (j : Int))]) (st2 := []) rfl ?_
  refine zX.sn 1 (pc2 := 26) (l2 := [(3, .inr (8, zeN o)), (0, .inr (20, v)), (1, zi (k : Int)), (2, zi (j : Int))]) (st2 := [.inr (8, zeN o)]) rfl ?_
  refine zX.getf ⟨rfl, rfl⟩ H_8_zeN_o rfl rfl ?_
  refine zX.sn 1 (pc2 := 30) (l2 := [(3, .inr (8, zeN o)), (0, .inr (20, v)), (1, zi (k : Int)), (2, zi (j : Int))]) (st2 := [zi (k : Int), zi (zeK o : Int)]) rfl ?_
  refine zX.icmp (tgt := 62) ⟨rfl, rfl⟩ rfl (by omega) (by omega) (fun (e2 : ¬ (zeK o : Int) = (k : Int)) => ?_) (fun (e2 : (zeK o : Int) = (k : Int)) => ?_)
  · refine zX.s1 (pc2 := 65) (l2 := [(2, zi ((j : Int) + 1)), (3, .inr (8, zeN o)), (0, .inr (20, v)), (1, zi (k : Int))]) (st2 := []) ⟨rfl, rfl⟩ (by rw [show (zi ((j : Int) + 1) : xV) = .inl (.int (Int32.ofInt (j : Int) + 1)) from congrArg (fun z => (.inl (.int z) : xV)) (Int32.ofInt_add _ _)]; rfl) ?_
    refine zX.sn 1 (pc2 := 2) (l2 := [(2, zi ((j : Int) + 1)), (3, .inr (8, zeN o)), (0, .inr (20, v)), (1, zi (k : Int))]) (st2 := []) rfl ?_
    refine zX.re [(0, .inr (20, v)), (1, zi (k : Int)), (2, zi ((j : Int) + 1))] [2, 3, 0] [2, 3, 0, 1] rfl rfl (by decide) ?_
    exact k1 e2
  · refine zX.sn 1 (pc2 := 34) (l2 := [(3, .inr (8, zeN o)), (0, .inr (20, v)), (1, zi (k : Int)), (2, zi (j : Int))]) (st2 := [.inr (20, v)]) rfl ?_
    refine zX.sn 1 (pc2 := 35) (l2 := [(3, .inr (8, zeN o)), (0, .inr (20, v)), (1, zi (k : Int)), (2, zi (j : Int))]) (st2 := [.inr (8, zeN o), .inr (20, v)]) rfl ?_
    refine zX.call (mid2 := 65) (as := [.inr (20, v), .inr (8, zeN o)]) (rest := []) ⟨rfl, rfl⟩ (fun _ => rfl) (zX.inv rfl H_20_v rfl rfl) ⟨Nat.le_of_ble_eq_true rfl, Nat.le_of_ble_eq_true rfl⟩ ?_
    show zX _ 65 0 [(0, .inr (20, v)), (1, .inr (8, zeN o))] [] c s _ _
    refine zX.sn 1 (pc2 := 1) (l2 := [(0, .inr (20, v)), (1, .inr (8, zeN o))]) (st2 := [.inr (20, v)]) rfl ?_
    refine zX.getf ⟨rfl, rfl⟩ H_20_v rfl rfl ?_
    refine zX.sn 1 (pc2 := 5) (l2 := [(0, .inr (20, v)), (1, .inr (8, zeN o))]) (st2 := [.inr (8, zeN o), .inr (21, v)]) rfl ?_
    refine zX.getf ⟨rfl, rfl⟩ H_8_zeN_o rfl rfl ?_
    refine zX.call (mid2 := 23) (as := [.inr (21, v), zi (zeO o : Int)]) (rest := []) ⟨rfl, rfl⟩ (fun _ => rfl) (zX.inv rfl (P_told.1) rfl rfl) ⟨Nat.le_of_ble_eq_true rfl, Nat.le_of_ble_eq_true rfl⟩ ?_
    refine s_at (k := zeO o) rfl (by omega) (by omega) (by omega) P_told ?_
    show zX _ 65 11 [(0, .inr (20, v)), (1, .inr (8, zeN o))] [.inl (.long (fa (zeO o)))] c s _ _
    refine zX.sn 1 (pc2 := 12) (l2 := [(0, .inr (20, v)), (1, .inr (8, zeN o))]) (st2 := [.inl (.long 0), .inl (.long (fa (zeO o)))]) rfl ?_
    refine zX.sn 1 (pc2 := 13) (l2 := [(0, .inr (20, v)), (1, .inr (8, zeN o))]) (st2 := [.inl (.int (lg_cmp (fa (zeO o)) 0))]) rfl ?_
    refine zX.leq (tgt := 20) ⟨rfl, rfl⟩ rfl (fun (e3 : (fa (zeO o)) = 0) => ?_) (fun (e3 : ¬ (fa (zeO o)) = 0) => ?_)
    · refine zX.sn 1 (pc2 := 21) (l2 := [(0, .inr (20, v)), (1, .inr (8, zeN o))]) (st2 := [zi 0]) rfl ?_
      refine zX.ret rfl (zret_z rfl (by decide)) ?_
      show zX _ 67 38 [(3, .inr (8, zeN o)), (0, .inr (20, v)), (1, zi (k : Int)), (2, zi (j : Int))] [zi 0] c s _ _
      refine zX.icmp0 (tgt := 62) ⟨rfl, rfl⟩ rfl (by omega) (fun (e4 : 0 = 0) => ?_) (fun (zz : ¬ 0 = 0) => absurd zz (by omega))
      refine zX.s1 (pc2 := 65) (l2 := [(2, zi ((j : Int) + 1)), (3, .inr (8, zeN o)), (0, .inr (20, v)), (1, zi (k : Int))]) (st2 := []) ⟨rfl, rfl⟩ (by rw [show (zi ((j : Int) + 1) : xV) = .inl (.int (Int32.ofInt (j : Int) + 1)) from congrArg (fun z => (.inl (.int z) : xV)) (Int32.ofInt_add _ _)]; rfl) ?_
      refine zX.sn 1 (pc2 := 2) (l2 := [(2, zi ((j : Int) + 1)), (3, .inr (8, zeN o)), (0, .inr (20, v)), (1, zi (k : Int))]) (st2 := []) rfl ?_
      refine zX.re [(0, .inr (20, v)), (1, zi (k : Int)), (2, zi ((j : Int) + 1))] [2, 3, 0] [2, 3, 0, 1] rfl rfl (by decide) ?_
      exact k2 e2 e3
    · refine zX.sn 1 (pc2 := 17) (l2 := [(0, .inr (20, v)), (1, .inr (8, zeN o))]) (st2 := [zi 1]) rfl ?_
      refine zX.sn 1 (pc2 := 21) (l2 := [(0, .inr (20, v)), (1, .inr (8, zeN o))]) (st2 := [zi 1]) rfl ?_
      refine zX.ret rfl (zret_z rfl (by decide)) ?_
      show zX _ 67 38 [(3, .inr (8, zeN o)), (0, .inr (20, v)), (1, zi (k : Int)), (2, zi (j : Int))] [zi 1] c s _ _
      refine zX.icmp0 (tgt := 62) ⟨rfl, rfl⟩ rfl (by omega) (fun (zz : 1 = 0) => absurd zz (by omega)) (fun (e5 : ¬ 1 = 0) => ?_)
      refine zX.sn 1 (pc2 := 42) (l2 := [(3, .inr (8, zeN o)), (0, .inr (20, v)), (1, zi (k : Int)), (2, zi (j : Int))]) (st2 := [.inr (20, v)]) rfl ?_
      refine zX.sn 1 (pc2 := 43) (l2 := [(3, .inr (8, zeN o)), (0, .inr (20, v)), (1, zi (k : Int)), (2, zi (j : Int))]) (st2 := [.inr (8, zeN o), .inr (20, v)]) rfl ?_
      refine zX.getf ⟨rfl, rfl⟩ H_8_zeN_o rfl rfl ?_
      refine zX.sn 1 (pc2 := 47) (l2 := [(3, .inr (8, zeN o)), (0, .inr (20, v)), (1, zi (k : Int)), (2, zi (j : Int))]) (st2 := [.inr (8, zeN o), zi (zeO o : Int), .inr (20, v)]) rfl ?_
      refine zX.getf ⟨rfl, rfl⟩ H_8_zeN_o rfl rfl ?_
      refine zX.sn 1 (pc2 := 51) (l2 := [(3, .inr (8, zeN o)), (0, .inr (20, v)), (1, zi (k : Int)), (2, zi (j : Int))]) (st2 := [.inr (20, v), zi (zeO o : Int), zi (zeO o : Int), .inr (20, v)]) rfl ?_
      refine zX.sn 1 (pc2 := 52) (l2 := [(3, .inr (8, zeN o)), (0, .inr (20, v)), (1, zi (k : Int)), (2, zi (j : Int))]) (st2 := [.inr (8, zeN o), .inr (20, v), zi (zeO o : Int), zi (zeO o : Int), .inr (20, v)]) rfl ?_
      refine zX.sn 1 (pc2 := 53) (l2 := [(3, .inr (8, zeN o)), (0, .inr (20, v)), (1, zi (k : Int)), (2, zi (j : Int))]) (st2 := [.inr (20, v), .inr (8, zeN o), .inr (20, v), zi (zeO o : Int), zi (zeO o : Int), .inr (20, v)]) rfl ?_
      refine zX.getf ⟨rfl, rfl⟩ H_20_v rfl rfl ?_
      refine zX.call (mid2 := 64) (as := [.inr (20, v), .inr (8, zeN o), .inr (38, v)]) (rest := [zi (zeO o : Int), zi (zeO o : Int), .inr (20, v)]) ⟨rfl, rfl⟩ (fun _ => rfl) (zX.inv rfl H_20_v rfl rfl) ⟨Nat.le_of_ble_eq_true rfl, Nat.le_of_ble_eq_true rfl⟩ ?_
      refine s_vres (K := Vs) hvr (by omega) hKl hEo (show zEn _ o from H_8_zeN_o) (show zVo _ 8 v true fi sz gr _ [.inr (36, v), .inr (38, v), .inr (40, v)] from H_20_v) P_ver hkV  ?_
      show zX _ 67 59 [(3, .inr (8, zeN o)), (0, .inr (20, v)), (1, zi (k : Int)), (2, zi (j : Int))] [.inl (.long (zvRes v Vs o)), zi (zeO o : Int), zi (zeO o : Int), .inr (20, v)] c s _ _
      refine zX.call (mid2 := 80) (as := [.inr (20, v), zi (zeO o : Int), zi (zeO o : Int), .inl (.long (zvRes v Vs o))]) (rest := []) ⟨rfl, rfl⟩ (fun _ => rfl) (zX.inv rfl H_20_v rfl rfl) ⟨Nat.le_of_ble_eq_true rfl, Nat.le_of_ble_eq_true rfl⟩ ?_
      refine s_tanew (ci := 8) (k := zeO o) (j := zeO o) rfl (by omega) rfl (by omega) zvRes_nz hvr (by omega) (by omega) (by first | omega | (simp only [List.length_append, List.length_cons, List.length_nil]; omega)) (show zVo _ 8 v true fi sz gr _ _ from H_20_v) P_told P_out  (fun h5 N5 c5 s5 hv5 ho5 hF5 hb5 => ?_)
      show zX _ 67 62 [(3, .inr (8, zeN o)), (0, .inr (20, v)), (1, zi (k : Int)), (2, zi (j : Int))] [] c5 s5 _ _
      refine zX.s1 (pc2 := 65) (l2 := [(2, zi ((j : Int) + 1)), (3, .inr (8, zeN o)), (0, .inr (20, v)), (1, zi (k : Int))]) (st2 := []) ⟨rfl, rfl⟩ (by rw [show (zi ((j : Int) + 1) : xV) = .inl (.int (Int32.ofInt (j : Int) + 1)) from congrArg (fun z => (.inl (.int z) : xV)) (Int32.ofInt_add _ _)]; rfl) ?_
      refine zX.sn 1 (pc2 := 2) (l2 := [(2, zi ((j : Int) + 1)), (3, .inr (8, zeN o)), (0, .inr (20, v)), (1, zi (k : Int))]) (st2 := []) rfl ?_
      refine zX.re [(0, .inr (20, v)), (1, zi (k : Int)), (2, zi ((j : Int) + 1))] [2, 3, 0] [2, 3, 0, 1] rfl rfl (by decide) ?_
      exact k3 e2 e3 N5 c5 s5 hb5 _ hv5 ho5 (fun za zb hn => ((hF5 za zb (by omega)).trans rfl))

set_option maxHeartbeats 4000000 in
theorem r_vn0 {d c s : Nat} {h : xH} {Q : xR → Nat → Nat → xH → Prop} {v sz gr : Nat} {fi : Int} {dr : Int32} {m : Int} (hvr : zVr v fi sz gr) (hv : v < 5) (hsz : 1 ≤ sz ∧ sz ≤ 200) (hgr : gr ≤ 200) (hm : -1 ≤ m ∧ m < 1000) (H_20_v : h (20, v) = some (.inl (8, [zi (v : Int), zi (zbi true), zi fi, zi (sz : Int), zi (gr : Int), .inr (2, 0), .inr (21, v), .inr (23, v), .inr (25, v), .inl (.int dr), .inr (36, v), .inr (38, v), .inr (40, v)])))
    (k1 : zX d 69 4 [(0, .inr (20, v)), (1, zi m), (2, .inl .null), (3, zi 0)] [] c s h Q) :
    zX d 69 0 [(0, .inr (20, v)), (1, zi m)] [] c s h Q := by
  refine zX.sn 1 (pc2 := 1) (l2 := [(0, .inr (20, v)), (1, zi m)]) (st2 := [.inl .null]) rfl ?_
  refine zX.sn 1 (pc2 := 2) (l2 := [(2, .inl .null), (0, .inr (20, v)), (1, zi m)]) (st2 := []) rfl ?_
  refine zX.sn 1 (pc2 := 3) (l2 := [(2, .inl .null), (0, .inr (20, v)), (1, zi m)]) (st2 := [zi 0]) rfl ?_
  refine zX.sn 1 (pc2 := 4) (l2 := [(3, zi 0), (2, .inl .null), (0, .inr (20, v)), (1, zi m)]) (st2 := []) rfl ?_
  refine zX.re [(0, .inr (20, v)), (1, zi m), (2, .inl .null), (3, zi 0)] [2, 3, 1, 0] [3, 2, 0, 1] rfl rfl (by decide) ?_
  exact k1

set_option maxHeartbeats 4000000 in
theorem r_vne0 {d c s : Nat} {h : xH} {Q : xR → Nat → Nat → xH → Prop} {v sz gr : Nat} {fi : Int} {dr : Int32} {cap1 cap2 : Nat} {Lf Vs : List zE} {m : Int} {j : Nat} (hvr : zVr v fi sz gr) (hv : v < 5) (hsz : 1 ≤ sz ∧ sz ≤ 200) (hgr : gr ≤ 200) (hm : -1 ≤ m ∧ m < 1000) (hj : j = (zNm Lf).length) (hl : (zNm Lf).length ≤ 240) (H_20_v : h (20, v) = some (.inl (8, [zi (v : Int), zi (zbi true), zi fi, zi (sz : Int), zi (gr : Int), .inr (2, 0), .inr (21, v), .inr (23, v), .inr (25, v), .inl (.int dr), .inr (36, v), .inr (38, v), .inr (40, v)]))) (P_lef : zAL h 36 v cap1 (zNm Lf))
    (k1 : Q (.inl (some (.inl .null))) c s h) :
    zX (d + 1) 69 4 [(0, .inr (20, v)), (1, zi m), (2, .inl .null), (3, zi (j : Int))] [] c s h Q := by
  refine zX.sn 1 (pc2 := 5) (l2 := [(0, .inr (20, v)), (1, zi m), (2, .inl .null), (3, zi (j : Int))]) (st2 := [zi (j : Int)]) rfl ?_
  refine zX.sn 1 (pc2 := 6) (l2 := [(0, .inr (20, v)), (1, zi m), (2, .inl .null), (3, zi (j : Int))]) (st2 := [.inr (20, v), zi (j : Int)]) rfl ?_
  refine zX.getf ⟨rfl, rfl⟩ H_20_v rfl rfl ?_
  refine zX.call (mid2 := 150) (as := [.inr (36, v)]) (rest := [zi (j : Int)]) ⟨rfl, rfl⟩ (fun _ => rfl) (zX.invA rfl P_lef rfl rfl) ⟨Nat.le_of_ble_eq_true rfl, Nat.le_of_ble_eq_true rfl⟩ ?_
  refine s_size P_lef ?_
  show zX _ 69 12 [(0, .inr (20, v)), (1, zi m), (2, .inl .null), (3, zi (j : Int))] [zi ((zNm Lf).length : Int), zi (j : Int)] c s _ _
  refine zX.icmp (tgt := 69) ⟨rfl, rfl⟩ rfl (by omega) (by omega) (fun (e1 : ((zNm Lf).length : Int) ≤ (j : Int)) => ?_) (fun (zz : (j : Int) < ((zNm Lf).length : Int)) => absurd zz (by omega))
  refine zX.sn 1 (pc2 := 70) (l2 := [(0, .inr (20, v)), (1, zi m), (2, .inl .null), (3, zi (j : Int))]) (st2 := [.inl .null]) rfl ?_
  refine zX.ret rfl rfl ?_
  exact k1

set_option maxHeartbeats 4000000 in
theorem r_vne1 {d c s : Nat} {h : xH} {Q : xR → Nat → Nat → xH → Prop} {v sz gr : Nat} {fi : Int} {dr : Int32} {cap1 cap2 : Nat} {Lf Vs : List zE} {e : zE} {m : Int} {j : Nat} (hvr : zVr v fi sz gr) (hv : v < 5) (hsz : 1 ≤ sz ∧ sz ≤ 200) (hgr : gr ≤ 200) (hm : -1 ≤ m ∧ m < 1000) (hj : j = (zNm Lf).length) (hl : (zNm Lf).length ≤ 240) (H_20_v : h (20, v) = some (.inl (8, [zi (v : Int), zi (zbi true), zi fi, zi (sz : Int), zi (gr : Int), .inr (2, 0), .inr (21, v), .inr (23, v), .inr (25, v), .inl (.int dr), .inr (36, v), .inr (38, v), .inr (40, v)]))) (P_lef : zAL h 36 v cap1 (zNm Lf))
    (k1 : Q (.inl (some (.inr (8, zeN e)))) c s h) :
    zX (d + 1) 69 4 [(0, .inr (20, v)), (1, zi m), (2, .inr (8, zeN e)), (3, zi (j : Int))] [] c s h Q := by
  refine zX.sn 1 (pc2 := 5) (l2 := [(0, .inr (20, v)), (1, zi m), (2, .inr (8, zeN e)), (3, zi (j : Int))]) (st2 := [zi (j : Int)]) rfl ?_
  refine zX.sn 1 (pc2 := 6) (l2 := [(0, .inr (20, v)), (1, zi m), (2, .inr (8, zeN e)), (3, zi (j : Int))]) (st2 := [.inr (20, v), zi (j : Int)]) rfl ?_
  refine zX.getf ⟨rfl, rfl⟩ H_20_v rfl rfl ?_
  refine zX.call (mid2 := 150) (as := [.inr (36, v)]) (rest := [zi (j : Int)]) ⟨rfl, rfl⟩ (fun _ => rfl) (zX.invA rfl P_lef rfl rfl) ⟨Nat.le_of_ble_eq_true rfl, Nat.le_of_ble_eq_true rfl⟩ ?_
  refine s_size P_lef ?_
  show zX _ 69 12 [(0, .inr (20, v)), (1, zi m), (2, .inr (8, zeN e)), (3, zi (j : Int))] [zi ((zNm Lf).length : Int), zi (j : Int)] c s _ _
  refine zX.icmp (tgt := 69) ⟨rfl, rfl⟩ rfl (by omega) (by omega) (fun (e1 : ((zNm Lf).length : Int) ≤ (j : Int)) => ?_) (fun (zz : (j : Int) < ((zNm Lf).length : Int)) => absurd zz (by omega))
  refine zX.sn 1 (pc2 := 70) (l2 := [(0, .inr (20, v)), (1, zi m), (2, .inr (8, zeN e)), (3, zi (j : Int))]) (st2 := [.inr (8, zeN e)]) rfl ?_
  refine zX.ret rfl rfl ?_
  exact k1

set_option maxHeartbeats 4000000 in
theorem r_vnn {d c s : Nat} {h : xH} {Q : xR → Nat → Nat → xH → Prop} {v sz gr : Nat} {fi : Int} {dr : Int32} {cap1 cap2 : Nat} {Lf Vs : List zE} {o : zE} {m : Int} {j : Nat} {fa : Nat → Int64} (hvr : zVr v fi sz gr) (hv : v < 5) (hsz : 1 ≤ sz ∧ sz ≤ 200) (hgr : gr ≤ 200) (hEo : zEr o) (hkyo : zeK o < 8) (htmo : zeT o < 1000) (hvao : -99 ≤ zeV o ∧ zeV o ≤ 99) (haho : -1 ≤ zeA o ∧ zeA o < 1000) (hodo : zeO o < 240) (hiro : 0 ≤ zbi (zeR o) ∧ zbi (zeR o) ≤ 1) (hilo : 0 ≤ zbi (zeL o) ∧ zbi (zeL o) ≤ 1) (hm : -1 ≤ m ∧ m < 1000) (hj : j < (zNm Lf).length) (hl : (zNm Lf).length ≤ 240) (hx : (zNm Lf)[j]? = some (8, zeN o)) (H_20_v : h (20, v) = some (.inl (8, [zi (v : Int), zi (zbi true), zi fi, zi (sz : Int), zi (gr : Int), .inr (2, 0), .inr (21, v), .inr (23, v), .inr (25, v), .inl (.int dr), .inr (36, v), .inr (38, v), .inr (40, v)]))) (H_8_zeN_o : h (8, zeN o) = some (.inl (1, [zi (zeP o : Int), zi (zbi (zeR o)), zi (zbi (zeL o)), zi (zeK o : Int), zi (zeT o : Int), zi (zeV o), zi (zeO o : Int), zi (zeA o), zi (zeB o)]))) (P_lef : zAL h 36 v cap1 (zNm Lf)) (P_told : zRes h 21 v 240 fa)
    (k1 : (m ≤ (zeT o : Int)) → zX (d + 3) 69 4 [(0, .inr (20, v)), (1, zi m), (2, .inl .null), (3, zi ((j : Int) + 1))] [] c s h Q)
    (k2 : ((zeT o : Int) < m) → ((fa (zeO o)) = 0) → zX (d + 3) 69 4 [(0, .inr (20, v)), (1, zi m), (2, .inr (8, zeN o)), (3, zi ((j : Int) + 1))] [] c s h Q)
    (k3 : ((zeT o : Int) < m) → (¬ (fa (zeO o)) = 0) → zX (d + 3) 69 4 [(0, .inr (20, v)), (1, zi m), (2, .inl .null), (3, zi ((j : Int) + 1))] [] c s h Q) :
    zX (d + 3) 69 4 [(0, .inr (20, v)), (1, zi m), (2, .inl .null), (3, zi (j : Int))] [] c s h Q := by
  refine zX.sn 1 (pc2 := 5) (l2 := [(0, .inr (20, v)), (1, zi m), (2, .inl .null), (3, zi (j : Int))]) (st2 := [zi (j : Int)]) rfl ?_
  refine zX.sn 1 (pc2 := 6) (l2 := [(0, .inr (20, v)), (1, zi m), (2, .inl .null), (3, zi (j : Int))]) (st2 := [.inr (20, v), zi (j : Int)]) rfl ?_
  refine zX.getf ⟨rfl, rfl⟩ H_20_v rfl rfl ?_
  refine zX.call (mid2 := 150) (as := [.inr (36, v)]) (rest := [zi (j : Int)]) ⟨rfl, rfl⟩ (fun _ => rfl) (zX.invA rfl P_lef rfl rfl) ⟨Nat.le_of_ble_eq_true rfl, Nat.le_of_ble_eq_true rfl⟩ ?_
  refine s_size P_lef ?_
  show zX _ 69 12 [(0, .inr (20, v)), (1, zi m), (2, .inl .null), (3, zi (j : Int))] [zi ((zNm Lf).length : Int), zi (j : Int)] c s _ _
  refine zX.icmp (tgt := 69) ⟨rfl, rfl⟩ rfl (by omega) (by omega) (fun (zz : ((zNm Lf).length : Int) ≤ (j : Int)) => absurd zz (by omega)) (fun (e1 : (j : Int) < ((zNm Lf).length : Int)) => ?_)
  refine zX.sn 1 (pc2 := 16) (l2 := [(0, .inr (20, v)), (1, zi m), (2, .inl .null), (3, zi (j : Int))]) (st2 := [.inr (20, v)]) rfl ?_
  refine zX.getf ⟨rfl, rfl⟩ H_20_v rfl rfl ?_
  refine zX.sn 1 (pc2 := 20) (l2 := [(0, .inr (20, v)), (1, zi m), (2, .inl .null), (3, zi (j : Int))]) (st2 := [zi (j : Int), .inr (36, v)]) rfl ?_
  refine zX.call (mid2 := 153) (as := [.inr (36, v), zi (j : Int)]) (rest := []) ⟨rfl, rfl⟩ (fun _ => rfl) (zX.invA rfl P_lef rfl rfl) ⟨Nat.le_of_ble_eq_true rfl, Nat.le_of_ble_eq_true rfl⟩ ?_
  refine s_get (j := j) (x := (8, zeN o)) rfl (by omega) P_lef hx ?_
  show zX _ 69 23 [(0, .inr (20, v)), (1, zi m), (2, .inl .null), (3, zi (j : Int))] [.inr (8, zeN o)] c s _ _
  refine zX.cast ⟨rfl, rfl⟩ H_8_zeN_o rfl ?_
  refine zX.sn 1 (pc2 := 28) (l2 := [(4, .inr (8, zeN o)), (0, .inr (20, v)), (1, zi m), (2, .inl .null), (3, zi (j : Int))]) (st2 := []) rfl ?_
  refine zX.sn 1 (pc2 := 29) (l2 := [(4, .inr (8, zeN o)), (0, .inr (20, v)), (1, zi m), (2, .inl .null), (3, zi (j : Int))]) (st2 := [zi m]) rfl ?_
  refine zX.sn 1 (pc2 := 31) (l2 := [(4, .inr (8, zeN o)), (0, .inr (20, v)), (1, zi m), (2, .inl .null), (3, zi (j : Int))]) (st2 := [.inr (8, zeN o), zi m]) rfl ?_
  refine zX.getf ⟨rfl, rfl⟩ H_8_zeN_o rfl rfl ?_
  refine zX.icmp (tgt := 63) ⟨rfl, rfl⟩ rfl (by omega) (by omega) (fun (e2 : m ≤ (zeT o : Int)) => ?_) (fun (e2 : (zeT o : Int) < m) => ?_)
  · refine zX.s1 (pc2 := 66) (l2 := [(3, zi ((j : Int) + 1)), (4, .inr (8, zeN o)), (0, .inr (20, v)), (1, zi m), (2, .inl .null)]) (st2 := []) ⟨rfl, rfl⟩ (by rw [show (zi ((j : Int) + 1) : xV) = .inl (.int (Int32.ofInt (j : Int) + 1)) from congrArg (fun z => (.inl (.int z) : xV)) (Int32.ofInt_add _ _)]; rfl) ?_
    refine zX.sn 1 (pc2 := 4) (l2 := [(3, zi ((j : Int) + 1)), (4, .inr (8, zeN o)), (0, .inr (20, v)), (1, zi m), (2, .inl .null)]) (st2 := []) rfl ?_
    refine zX.re [(0, .inr (20, v)), (1, zi m), (2, .inl .null), (3, zi ((j : Int) + 1))] [2, 3, 4, 0] [3, 4, 0, 1, 2] rfl rfl (by decide) ?_
    exact k1 e2
  · refine zX.sn 1 (pc2 := 38) (l2 := [(4, .inr (8, zeN o)), (0, .inr (20, v)), (1, zi m), (2, .inl .null), (3, zi (j : Int))]) (st2 := [.inr (20, v)]) rfl ?_
    refine zX.sn 1 (pc2 := 40) (l2 := [(4, .inr (8, zeN o)), (0, .inr (20, v)), (1, zi m), (2, .inl .null), (3, zi (j : Int))]) (st2 := [.inr (8, zeN o), .inr (20, v)]) rfl ?_
    refine zX.call (mid2 := 65) (as := [.inr (20, v), .inr (8, zeN o)]) (rest := []) ⟨rfl, rfl⟩ (fun _ => rfl) (zX.inv rfl H_20_v rfl rfl) ⟨Nat.le_of_ble_eq_true rfl, Nat.le_of_ble_eq_true rfl⟩ ?_
    show zX _ 65 0 [(0, .inr (20, v)), (1, .inr (8, zeN o))] [] c s _ _
    refine zX.sn 1 (pc2 := 1) (l2 := [(0, .inr (20, v)), (1, .inr (8, zeN o))]) (st2 := [.inr (20, v)]) rfl ?_
    refine zX.getf ⟨rfl, rfl⟩ H_20_v rfl rfl ?_
    refine zX.sn 1 (pc2 := 5) (l2 := [(0, .inr (20, v)), (1, .inr (8, zeN o))]) (st2 := [.inr (8, zeN o), .inr (21, v)]) rfl ?_
    refine zX.getf ⟨rfl, rfl⟩ H_8_zeN_o rfl rfl ?_
    refine zX.call (mid2 := 23) (as := [.inr (21, v), zi (zeO o : Int)]) (rest := []) ⟨rfl, rfl⟩ (fun _ => rfl) (zX.inv rfl (P_told.1) rfl rfl) ⟨Nat.le_of_ble_eq_true rfl, Nat.le_of_ble_eq_true rfl⟩ ?_
    refine s_at (k := zeO o) rfl (by omega) (by omega) (by omega) P_told ?_
    show zX _ 65 11 [(0, .inr (20, v)), (1, .inr (8, zeN o))] [.inl (.long (fa (zeO o)))] c s _ _
    refine zX.sn 1 (pc2 := 12) (l2 := [(0, .inr (20, v)), (1, .inr (8, zeN o))]) (st2 := [.inl (.long 0), .inl (.long (fa (zeO o)))]) rfl ?_
    refine zX.sn 1 (pc2 := 13) (l2 := [(0, .inr (20, v)), (1, .inr (8, zeN o))]) (st2 := [.inl (.int (lg_cmp (fa (zeO o)) 0))]) rfl ?_
    refine zX.leq (tgt := 20) ⟨rfl, rfl⟩ rfl (fun (e3 : (fa (zeO o)) = 0) => ?_) (fun (e3 : ¬ (fa (zeO o)) = 0) => ?_)
    · refine zX.sn 1 (pc2 := 21) (l2 := [(0, .inr (20, v)), (1, .inr (8, zeN o))]) (st2 := [zi 0]) rfl ?_
      refine zX.ret rfl (zret_z rfl (by decide)) ?_
      show zX _ 69 43 [(4, .inr (8, zeN o)), (0, .inr (20, v)), (1, zi m), (2, .inl .null), (3, zi (j : Int))] [zi 0] c s _ _
      refine zX.icmp0 (tgt := 63) ⟨rfl, rfl⟩ rfl (by omega) (fun (zz : ¬ 0 = 0) => absurd zz (by omega)) (fun (e4 : 0 = 0) => ?_)
      refine zX.sn 1 (pc2 := 47) (l2 := [(4, .inr (8, zeN o)), (0, .inr (20, v)), (1, zi m), (2, .inl .null), (3, zi (j : Int))]) (st2 := [.inl .null]) rfl ?_
      refine zX.sn 1 (pc2 := 60) (l2 := [(4, .inr (8, zeN o)), (0, .inr (20, v)), (1, zi m), (2, .inl .null), (3, zi (j : Int))]) (st2 := []) rfl ?_
      refine zX.sn 1 (pc2 := 62) (l2 := [(4, .inr (8, zeN o)), (0, .inr (20, v)), (1, zi m), (2, .inl .null), (3, zi (j : Int))]) (st2 := [.inr (8, zeN o)]) rfl ?_
      refine zX.sn 1 (pc2 := 63) (l2 := [(2, .inr (8, zeN o)), (4, .inr (8, zeN o)), (0, .inr (20, v)), (1, zi m), (3, zi (j : Int))]) (st2 := []) rfl ?_
      refine zX.s1 (pc2 := 66) (l2 := [(3, zi ((j : Int) + 1)), (2, .inr (8, zeN o)), (4, .inr (8, zeN o)), (0, .inr (20, v)), (1, zi m)]) (st2 := []) ⟨rfl, rfl⟩ (by rw [show (zi ((j : Int) + 1) : xV) = .inl (.int (Int32.ofInt (j : Int) + 1)) from congrArg (fun z => (.inl (.int z) : xV)) (Int32.ofInt_add _ _)]; rfl) ?_
      refine zX.sn 1 (pc2 := 4) (l2 := [(3, zi ((j : Int) + 1)), (2, .inr (8, zeN o)), (4, .inr (8, zeN o)), (0, .inr (20, v)), (1, zi m)]) (st2 := []) rfl ?_
      refine zX.re [(0, .inr (20, v)), (1, zi m), (2, .inr (8, zeN o)), (3, zi ((j : Int) + 1))] [3, 4, 1, 0] [3, 2, 4, 0, 1] rfl rfl (by decide) ?_
      exact k2 e2 e3
    · refine zX.sn 1 (pc2 := 17) (l2 := [(0, .inr (20, v)), (1, .inr (8, zeN o))]) (st2 := [zi 1]) rfl ?_
      refine zX.sn 1 (pc2 := 21) (l2 := [(0, .inr (20, v)), (1, .inr (8, zeN o))]) (st2 := [zi 1]) rfl ?_
      refine zX.ret rfl (zret_z rfl (by decide)) ?_
      show zX _ 69 43 [(4, .inr (8, zeN o)), (0, .inr (20, v)), (1, zi m), (2, .inl .null), (3, zi (j : Int))] [zi 1] c s _ _
      refine zX.icmp0 (tgt := 63) ⟨rfl, rfl⟩ rfl (by omega) (fun (e5 : ¬ 1 = 0) => ?_) (fun (zz : 1 = 0) => absurd zz (by omega))
      refine zX.s1 (pc2 := 66) (l2 := [(3, zi ((j : Int) + 1)), (4, .inr (8, zeN o)), (0, .inr (20, v)), (1, zi m), (2, .inl .null)]) (st2 := []) ⟨rfl, rfl⟩ (by rw [show (zi ((j : Int) + 1) : xV) = .inl (.int (Int32.ofInt (j : Int) + 1)) from congrArg (fun z => (.inl (.int z) : xV)) (Int32.ofInt_add _ _)]; rfl) ?_
      refine zX.sn 1 (pc2 := 4) (l2 := [(3, zi ((j : Int) + 1)), (4, .inr (8, zeN o)), (0, .inr (20, v)), (1, zi m), (2, .inl .null)]) (st2 := []) rfl ?_
      refine zX.re [(0, .inr (20, v)), (1, zi m), (2, .inl .null), (3, zi ((j : Int) + 1))] [2, 3, 4, 0] [3, 4, 0, 1, 2] rfl rfl (by decide) ?_
      exact k3 e2 e3

set_option maxHeartbeats 4000000 in
theorem r_vns {d c s : Nat} {h : xH} {Q : xR → Nat → Nat → xH → Prop} {v sz gr : Nat} {fi : Int} {dr : Int32} {cap1 cap2 : Nat} {Lf Vs : List zE} {e : zE} {o : zE} {m : Int} {j : Nat} {fa : Nat → Int64} (hvr : zVr v fi sz gr) (hv : v < 5) (hsz : 1 ≤ sz ∧ sz ≤ 200) (hgr : gr ≤ 200) (hEe : zEr e) (hkye : zeK e < 8) (htme : zeT e < 1000) (hvae : -99 ≤ zeV e ∧ zeV e ≤ 99) (hahe : -1 ≤ zeA e ∧ zeA e < 1000) (hode : zeO e < 240) (hire : 0 ≤ zbi (zeR e) ∧ zbi (zeR e) ≤ 1) (hile : 0 ≤ zbi (zeL e) ∧ zbi (zeL e) ≤ 1) (hEo : zEr o) (hkyo : zeK o < 8) (htmo : zeT o < 1000) (hvao : -99 ≤ zeV o ∧ zeV o ≤ 99) (haho : -1 ≤ zeA o ∧ zeA o < 1000) (hodo : zeO o < 240) (hiro : 0 ≤ zbi (zeR o) ∧ zbi (zeR o) ≤ 1) (hilo : 0 ≤ zbi (zeL o) ∧ zbi (zeL o) ≤ 1) (hm : -1 ≤ m ∧ m < 1000) (hj : j < (zNm Lf).length) (hl : (zNm Lf).length ≤ 240) (hx : (zNm Lf)[j]? = some (8, zeN o)) (H_20_v : h (20, v) = some (.inl (8, [zi (v : Int), zi (zbi true), zi fi, zi (sz : Int), zi (gr : Int), .inr (2, 0), .inr (21, v), .inr (23, v), .inr (25, v), .inl (.int dr), .inr (36, v), .inr (38, v), .inr (40, v)]))) (H_8_zeN_e : h (8, zeN e) = some (.inl (1, [zi (zeP e : Int), zi (zbi (zeR e)), zi (zbi (zeL e)), zi (zeK e : Int), zi (zeT e : Int), zi (zeV e), zi (zeO e : Int), zi (zeA e), zi (zeB e)]))) (H_8_zeN_o : h (8, zeN o) = some (.inl (1, [zi (zeP o : Int), zi (zbi (zeR o)), zi (zbi (zeL o)), zi (zeK o : Int), zi (zeT o : Int), zi (zeV o), zi (zeO o : Int), zi (zeA o), zi (zeB o)]))) (P_lef : zAL h 36 v cap1 (zNm Lf)) (P_told : zRes h 21 v 240 fa)
    (k1 : (m ≤ (zeT o : Int)) → zX (d + 3) 69 4 [(0, .inr (20, v)), (1, zi m), (2, .inr (8, zeN e)), (3, zi ((j : Int) + 1))] [] c s h Q)
    (k2 : ((zeT o : Int) < m) → ((fa (zeO o)) = 0) → ((zeT o : Int) < (zeT e : Int)) → zX (d + 3) 69 4 [(0, .inr (20, v)), (1, zi m), (2, .inr (8, zeN o)), (3, zi ((j : Int) + 1))] [] c s h Q)
    (k3 : ((zeT o : Int) < m) → ((fa (zeO o)) = 0) → ((zeT e : Int) ≤ (zeT o : Int)) → (¬ (zeT o : Int) = (zeT e : Int)) → zX (d + 3) 69 4 [(0, .inr (20, v)), (1, zi m), (2, .inr (8, zeN e)), (3, zi ((j : Int) + 1))] [] c s h Q)
    (k4 : ((zeT o : Int) < m) → ((fa (zeO o)) = 0) → ((zeT e : Int) ≤ (zeT o : Int)) → ((zeT o : Int) = (zeT e : Int)) → ((zeK e : Int) ≤ (zeK o : Int)) → zX (d + 3) 69 4 [(0, .inr (20, v)), (1, zi m), (2, .inr (8, zeN e)), (3, zi ((j : Int) + 1))] [] c s h Q)
    (k5 : ((zeT o : Int) < m) → ((fa (zeO o)) = 0) → ((zeT e : Int) ≤ (zeT o : Int)) → ((zeT o : Int) = (zeT e : Int)) → ((zeK o : Int) < (zeK e : Int)) → zX (d + 3) 69 4 [(0, .inr (20, v)), (1, zi m), (2, .inr (8, zeN o)), (3, zi ((j : Int) + 1))] [] c s h Q)
    (k6 : ((zeT o : Int) < m) → (¬ (fa (zeO o)) = 0) → zX (d + 3) 69 4 [(0, .inr (20, v)), (1, zi m), (2, .inr (8, zeN e)), (3, zi ((j : Int) + 1))] [] c s h Q) :
    zX (d + 3) 69 4 [(0, .inr (20, v)), (1, zi m), (2, .inr (8, zeN e)), (3, zi (j : Int))] [] c s h Q := by
  refine zX.sn 1 (pc2 := 5) (l2 := [(0, .inr (20, v)), (1, zi m), (2, .inr (8, zeN e)), (3, zi (j : Int))]) (st2 := [zi (j : Int)]) rfl ?_
  refine zX.sn 1 (pc2 := 6) (l2 := [(0, .inr (20, v)), (1, zi m), (2, .inr (8, zeN e)), (3, zi (j : Int))]) (st2 := [.inr (20, v), zi (j : Int)]) rfl ?_
  refine zX.getf ⟨rfl, rfl⟩ H_20_v rfl rfl ?_
  refine zX.call (mid2 := 150) (as := [.inr (36, v)]) (rest := [zi (j : Int)]) ⟨rfl, rfl⟩ (fun _ => rfl) (zX.invA rfl P_lef rfl rfl) ⟨Nat.le_of_ble_eq_true rfl, Nat.le_of_ble_eq_true rfl⟩ ?_
  refine s_size P_lef ?_
  show zX _ 69 12 [(0, .inr (20, v)), (1, zi m), (2, .inr (8, zeN e)), (3, zi (j : Int))] [zi ((zNm Lf).length : Int), zi (j : Int)] c s _ _
  refine zX.icmp (tgt := 69) ⟨rfl, rfl⟩ rfl (by omega) (by omega) (fun (zz : ((zNm Lf).length : Int) ≤ (j : Int)) => absurd zz (by omega)) (fun (e1 : (j : Int) < ((zNm Lf).length : Int)) => ?_)
  refine zX.sn 1 (pc2 := 16) (l2 := [(0, .inr (20, v)), (1, zi m), (2, .inr (8, zeN e)), (3, zi (j : Int))]) (st2 := [.inr (20, v)]) rfl ?_
  refine zX.getf ⟨rfl, rfl⟩ H_20_v rfl rfl ?_
  refine zX.sn 1 (pc2 := 20) (l2 := [(0, .inr (20, v)), (1, zi m), (2, .inr (8, zeN e)), (3, zi (j : Int))]) (st2 := [zi (j : Int), .inr (36, v)]) rfl ?_
  refine zX.call (mid2 := 153) (as := [.inr (36, v), zi (j : Int)]) (rest := []) ⟨rfl, rfl⟩ (fun _ => rfl) (zX.invA rfl P_lef rfl rfl) ⟨Nat.le_of_ble_eq_true rfl, Nat.le_of_ble_eq_true rfl⟩ ?_
  refine s_get (j := j) (x := (8, zeN o)) rfl (by omega) P_lef hx ?_
  show zX _ 69 23 [(0, .inr (20, v)), (1, zi m), (2, .inr (8, zeN e)), (3, zi (j : Int))] [.inr (8, zeN o)] c s _ _
  refine zX.cast ⟨rfl, rfl⟩ H_8_zeN_o rfl ?_
  refine zX.sn 1 (pc2 := 28) (l2 := [(4, .inr (8, zeN o)), (0, .inr (20, v)), (1, zi m), (2, .inr (8, zeN e)), (3, zi (j : Int))]) (st2 := []) rfl ?_
  refine zX.sn 1 (pc2 := 29) (l2 := [(4, .inr (8, zeN o)), (0, .inr (20, v)), (1, zi m), (2, .inr (8, zeN e)), (3, zi (j : Int))]) (st2 := [zi m]) rfl ?_
  refine zX.sn 1 (pc2 := 31) (l2 := [(4, .inr (8, zeN o)), (0, .inr (20, v)), (1, zi m), (2, .inr (8, zeN e)), (3, zi (j : Int))]) (st2 := [.inr (8, zeN o), zi m]) rfl ?_
  refine zX.getf ⟨rfl, rfl⟩ H_8_zeN_o rfl rfl ?_
  refine zX.icmp (tgt := 63) ⟨rfl, rfl⟩ rfl (by omega) (by omega) (fun (e2 : m ≤ (zeT o : Int)) => ?_) (fun (e2 : (zeT o : Int) < m) => ?_)
  · refine zX.s1 (pc2 := 66) (l2 := [(3, zi ((j : Int) + 1)), (4, .inr (8, zeN o)), (0, .inr (20, v)), (1, zi m), (2, .inr (8, zeN e))]) (st2 := []) ⟨rfl, rfl⟩ (by rw [show (zi ((j : Int) + 1) : xV) = .inl (.int (Int32.ofInt (j : Int) + 1)) from congrArg (fun z => (.inl (.int z) : xV)) (Int32.ofInt_add _ _)]; rfl) ?_
    refine zX.sn 1 (pc2 := 4) (l2 := [(3, zi ((j : Int) + 1)), (4, .inr (8, zeN o)), (0, .inr (20, v)), (1, zi m), (2, .inr (8, zeN e))]) (st2 := []) rfl ?_
    refine zX.re [(0, .inr (20, v)), (1, zi m), (2, .inr (8, zeN e)), (3, zi ((j : Int) + 1))] [2, 3, 4, 0] [3, 4, 0, 1, 2] rfl rfl (by decide) ?_
    exact k1 e2
  · refine zX.sn 1 (pc2 := 38) (l2 := [(4, .inr (8, zeN o)), (0, .inr (20, v)), (1, zi m), (2, .inr (8, zeN e)), (3, zi (j : Int))]) (st2 := [.inr (20, v)]) rfl ?_
    refine zX.sn 1 (pc2 := 40) (l2 := [(4, .inr (8, zeN o)), (0, .inr (20, v)), (1, zi m), (2, .inr (8, zeN e)), (3, zi (j : Int))]) (st2 := [.inr (8, zeN o), .inr (20, v)]) rfl ?_
    refine zX.call (mid2 := 65) (as := [.inr (20, v), .inr (8, zeN o)]) (rest := []) ⟨rfl, rfl⟩ (fun _ => rfl) (zX.inv rfl H_20_v rfl rfl) ⟨Nat.le_of_ble_eq_true rfl, Nat.le_of_ble_eq_true rfl⟩ ?_
    show zX _ 65 0 [(0, .inr (20, v)), (1, .inr (8, zeN o))] [] c s _ _
    refine zX.sn 1 (pc2 := 1) (l2 := [(0, .inr (20, v)), (1, .inr (8, zeN o))]) (st2 := [.inr (20, v)]) rfl ?_
    refine zX.getf ⟨rfl, rfl⟩ H_20_v rfl rfl ?_
    refine zX.sn 1 (pc2 := 5) (l2 := [(0, .inr (20, v)), (1, .inr (8, zeN o))]) (st2 := [.inr (8, zeN o), .inr (21, v)]) rfl ?_
    refine zX.getf ⟨rfl, rfl⟩ H_8_zeN_o rfl rfl ?_
    refine zX.call (mid2 := 23) (as := [.inr (21, v), zi (zeO o : Int)]) (rest := []) ⟨rfl, rfl⟩ (fun _ => rfl) (zX.inv rfl (P_told.1) rfl rfl) ⟨Nat.le_of_ble_eq_true rfl, Nat.le_of_ble_eq_true rfl⟩ ?_
    refine s_at (k := zeO o) rfl (by omega) (by omega) (by omega) P_told ?_
    show zX _ 65 11 [(0, .inr (20, v)), (1, .inr (8, zeN o))] [.inl (.long (fa (zeO o)))] c s _ _
    refine zX.sn 1 (pc2 := 12) (l2 := [(0, .inr (20, v)), (1, .inr (8, zeN o))]) (st2 := [.inl (.long 0), .inl (.long (fa (zeO o)))]) rfl ?_
    refine zX.sn 1 (pc2 := 13) (l2 := [(0, .inr (20, v)), (1, .inr (8, zeN o))]) (st2 := [.inl (.int (lg_cmp (fa (zeO o)) 0))]) rfl ?_
    refine zX.leq (tgt := 20) ⟨rfl, rfl⟩ rfl (fun (e3 : (fa (zeO o)) = 0) => ?_) (fun (e3 : ¬ (fa (zeO o)) = 0) => ?_)
    · refine zX.sn 1 (pc2 := 21) (l2 := [(0, .inr (20, v)), (1, .inr (8, zeN o))]) (st2 := [zi 0]) rfl ?_
      refine zX.ret rfl (zret_z rfl (by decide)) ?_
      show zX _ 69 43 [(4, .inr (8, zeN o)), (0, .inr (20, v)), (1, zi m), (2, .inr (8, zeN e)), (3, zi (j : Int))] [zi 0] c s _ _
      refine zX.icmp0 (tgt := 63) ⟨rfl, rfl⟩ rfl (by omega) (fun (zz : ¬ 0 = 0) => absurd zz (by omega)) (fun (e4 : 0 = 0) => ?_)
      refine zX.sn 1 (pc2 := 47) (l2 := [(4, .inr (8, zeN o)), (0, .inr (20, v)), (1, zi m), (2, .inr (8, zeN e)), (3, zi (j : Int))]) (st2 := [.inr (8, zeN e)]) rfl ?_
      refine zX.sn 1 (pc2 := 50) (l2 := [(4, .inr (8, zeN o)), (0, .inr (20, v)), (1, zi m), (2, .inr (8, zeN e)), (3, zi (j : Int))]) (st2 := []) rfl ?_
      refine zX.sn 1 (pc2 := 51) (l2 := [(4, .inr (8, zeN o)), (0, .inr (20, v)), (1, zi m), (2, .inr (8, zeN e)), (3, zi (j : Int))]) (st2 := [.inr (20, v)]) rfl ?_
      refine zX.sn 1 (pc2 := 53) (l2 := [(4, .inr (8, zeN o)), (0, .inr (20, v)), (1, zi m), (2, .inr (8, zeN e)), (3, zi (j : Int))]) (st2 := [.inr (8, zeN o), .inr (20, v)]) rfl ?_
      refine zX.sn 1 (pc2 := 54) (l2 := [(4, .inr (8, zeN o)), (0, .inr (20, v)), (1, zi m), (2, .inr (8, zeN e)), (3, zi (j : Int))]) (st2 := [.inr (8, zeN e), .inr (8, zeN o), .inr (20, v)]) rfl ?_
      refine zX.call (mid2 := 70) (as := [.inr (20, v), .inr (8, zeN o), .inr (8, zeN e)]) (rest := []) ⟨rfl, rfl⟩ (fun _ => rfl) (zX.inv rfl H_20_v rfl rfl) ⟨Nat.le_of_ble_eq_true rfl, Nat.le_of_ble_eq_true rfl⟩ ?_
      show zX _ 70 0 [(0, .inr (20, v)), (1, .inr (8, zeN o)), (2, .inr (8, zeN e))] [] c s _ _
      refine zX.sn 1 (pc2 := 1) (l2 := [(0, .inr (20, v)), (1, .inr (8, zeN o)), (2, .inr (8, zeN e))]) (st2 := [.inr (8, zeN o)]) rfl ?_
      refine zX.getf ⟨rfl, rfl⟩ H_8_zeN_o rfl rfl ?_
      refine zX.sn 1 (pc2 := 5) (l2 := [(0, .inr (20, v)), (1, .inr (8, zeN o)), (2, .inr (8, zeN e))]) (st2 := [.inr (8, zeN e), zi (zeT o : Int)]) rfl ?_
      refine zX.getf ⟨rfl, rfl⟩ H_8_zeN_e rfl rfl ?_
      refine zX.icmp (tgt := 33) ⟨rfl, rfl⟩ rfl (by omega) (by omega) (fun (e5 : (zeT o : Int) < (zeT e : Int)) => ?_) (fun (e5 : (zeT e : Int) ≤ (zeT o : Int)) => ?_)
      · refine zX.sn 1 (pc2 := 34) (l2 := [(0, .inr (20, v)), (1, .inr (8, zeN o)), (2, .inr (8, zeN e))]) (st2 := [zi 1]) rfl ?_
        refine zX.sn 1 (pc2 := 38) (l2 := [(0, .inr (20, v)), (1, .inr (8, zeN o)), (2, .inr (8, zeN e))]) (st2 := [zi 1]) rfl ?_
        refine zX.ret rfl (zret_z rfl (by decide)) ?_
        show zX _ 69 57 [(4, .inr (8, zeN o)), (0, .inr (20, v)), (1, zi m), (2, .inr (8, zeN e)), (3, zi (j : Int))] [zi 1] c s _ _
        refine zX.icmp0 (tgt := 63) ⟨rfl, rfl⟩ rfl (by omega) (fun (zz : 1 = 0) => absurd zz (by omega)) (fun (e6 : ¬ 1 = 0) => ?_)
        refine zX.sn 1 (pc2 := 62) (l2 := [(4, .inr (8, zeN o)), (0, .inr (20, v)), (1, zi m), (2, .inr (8, zeN e)), (3, zi (j : Int))]) (st2 := [.inr (8, zeN o)]) rfl ?_
        refine zX.sn 1 (pc2 := 63) (l2 := [(2, .inr (8, zeN o)), (4, .inr (8, zeN o)), (0, .inr (20, v)), (1, zi m), (3, zi (j : Int))]) (st2 := []) rfl ?_
        refine zX.s1 (pc2 := 66) (l2 := [(3, zi ((j : Int) + 1)), (2, .inr (8, zeN o)), (4, .inr (8, zeN o)), (0, .inr (20, v)), (1, zi m)]) (st2 := []) ⟨rfl, rfl⟩ (by rw [show (zi ((j : Int) + 1) : xV) = .inl (.int (Int32.ofInt (j : Int) + 1)) from congrArg (fun z => (.inl (.int z) : xV)) (Int32.ofInt_add _ _)]; rfl) ?_
        refine zX.sn 1 (pc2 := 4) (l2 := [(3, zi ((j : Int) + 1)), (2, .inr (8, zeN o)), (4, .inr (8, zeN o)), (0, .inr (20, v)), (1, zi m)]) (st2 := []) rfl ?_
        refine zX.re [(0, .inr (20, v)), (1, zi m), (2, .inr (8, zeN o)), (3, zi ((j : Int) + 1))] [3, 4, 1, 0] [3, 2, 4, 0, 1] rfl rfl (by decide) ?_
        exact k2 e2 e3 e5
      · refine zX.sn 1 (pc2 := 12) (l2 := [(0, .inr (20, v)), (1, .inr (8, zeN o)), (2, .inr (8, zeN e))]) (st2 := [.inr (8, zeN o)]) rfl ?_
        refine zX.getf ⟨rfl, rfl⟩ H_8_zeN_o rfl rfl ?_
        refine zX.sn 1 (pc2 := 16) (l2 := [(0, .inr (20, v)), (1, .inr (8, zeN o)), (2, .inr (8, zeN e))]) (st2 := [.inr (8, zeN e), zi (zeT o : Int)]) rfl ?_
        refine zX.getf ⟨rfl, rfl⟩ H_8_zeN_e rfl rfl ?_
        refine zX.icmp (tgt := 37) ⟨rfl, rfl⟩ rfl (by omega) (by omega) (fun (e7 : ¬ (zeT o : Int) = (zeT e : Int)) => ?_) (fun (e7 : (zeT o : Int) = (zeT e : Int)) => ?_)
        · refine zX.sn 1 (pc2 := 38) (l2 := [(0, .inr (20, v)), (1, .inr (8, zeN o)), (2, .inr (8, zeN e))]) (st2 := [zi 0]) rfl ?_
          refine zX.ret rfl (zret_z rfl (by decide)) ?_
          show zX _ 69 57 [(4, .inr (8, zeN o)), (0, .inr (20, v)), (1, zi m), (2, .inr (8, zeN e)), (3, zi (j : Int))] [zi 0] c s _ _
          refine zX.icmp0 (tgt := 63) ⟨rfl, rfl⟩ rfl (by omega) (fun (e8 : 0 = 0) => ?_) (fun (zz : ¬ 0 = 0) => absurd zz (by omega))
          refine zX.s1 (pc2 := 66) (l2 := [(3, zi ((j : Int) + 1)), (4, .inr (8, zeN o)), (0, .inr (20, v)), (1, zi m), (2, .inr (8, zeN e))]) (st2 := []) ⟨rfl, rfl⟩ (by rw [show (zi ((j : Int) + 1) : xV) = .inl (.int (Int32.ofInt (j : Int) + 1)) from congrArg (fun z => (.inl (.int z) : xV)) (Int32.ofInt_add _ _)]; rfl) ?_
          refine zX.sn 1 (pc2 := 4) (l2 := [(3, zi ((j : Int) + 1)), (4, .inr (8, zeN o)), (0, .inr (20, v)), (1, zi m), (2, .inr (8, zeN e))]) (st2 := []) rfl ?_
          refine zX.re [(0, .inr (20, v)), (1, zi m), (2, .inr (8, zeN e)), (3, zi ((j : Int) + 1))] [2, 3, 4, 0] [3, 4, 0, 1, 2] rfl rfl (by decide) ?_
          exact k3 e2 e3 e5 e7
        · refine zX.sn 1 (pc2 := 23) (l2 := [(0, .inr (20, v)), (1, .inr (8, zeN o)), (2, .inr (8, zeN e))]) (st2 := [.inr (8, zeN o)]) rfl ?_
          refine zX.getf ⟨rfl, rfl⟩ H_8_zeN_o rfl rfl ?_
          refine zX.sn 1 (pc2 := 27) (l2 := [(0, .inr (20, v)), (1, .inr (8, zeN o)), (2, .inr (8, zeN e))]) (st2 := [.inr (8, zeN e), zi (zeK o : Int)]) rfl ?_
          refine zX.getf ⟨rfl, rfl⟩ H_8_zeN_e rfl rfl ?_
          refine zX.icmp (tgt := 37) ⟨rfl, rfl⟩ rfl (by omega) (by omega) (fun (e9 : (zeK e : Int) ≤ (zeK o : Int)) => ?_) (fun (e9 : (zeK o : Int) < (zeK e : Int)) => ?_)
          · refine zX.sn 1 (pc2 := 38) (l2 := [(0, .inr (20, v)), (1, .inr (8, zeN o)), (2, .inr (8, zeN e))]) (st2 := [zi 0]) rfl ?_
            refine zX.ret rfl (zret_z rfl (by decide)) ?_
            show zX _ 69 57 [(4, .inr (8, zeN o)), (0, .inr (20, v)), (1, zi m), (2, .inr (8, zeN e)), (3, zi (j : Int))] [zi 0] c s _ _
            refine zX.icmp0 (tgt := 63) ⟨rfl, rfl⟩ rfl (by omega) (fun (e10 : 0 = 0) => ?_) (fun (zz : ¬ 0 = 0) => absurd zz (by omega))
            refine zX.s1 (pc2 := 66) (l2 := [(3, zi ((j : Int) + 1)), (4, .inr (8, zeN o)), (0, .inr (20, v)), (1, zi m), (2, .inr (8, zeN e))]) (st2 := []) ⟨rfl, rfl⟩ (by rw [show (zi ((j : Int) + 1) : xV) = .inl (.int (Int32.ofInt (j : Int) + 1)) from congrArg (fun z => (.inl (.int z) : xV)) (Int32.ofInt_add _ _)]; rfl) ?_
            refine zX.sn 1 (pc2 := 4) (l2 := [(3, zi ((j : Int) + 1)), (4, .inr (8, zeN o)), (0, .inr (20, v)), (1, zi m), (2, .inr (8, zeN e))]) (st2 := []) rfl ?_
            refine zX.re [(0, .inr (20, v)), (1, zi m), (2, .inr (8, zeN e)), (3, zi ((j : Int) + 1))] [2, 3, 4, 0] [3, 4, 0, 1, 2] rfl rfl (by decide) ?_
            exact k4 e2 e3 e5 e7 e9
          · refine zX.sn 1 (pc2 := 34) (l2 := [(0, .inr (20, v)), (1, .inr (8, zeN o)), (2, .inr (8, zeN e))]) (st2 := [zi 1]) rfl ?_
            refine zX.sn 1 (pc2 := 38) (l2 := [(0, .inr (20, v)), (1, .inr (8, zeN o)), (2, .inr (8, zeN e))]) (st2 := [zi 1]) rfl ?_
            refine zX.ret rfl (zret_z rfl (by decide)) ?_
            show zX _ 69 57 [(4, .inr (8, zeN o)), (0, .inr (20, v)), (1, zi m), (2, .inr (8, zeN e)), (3, zi (j : Int))] [zi 1] c s _ _
            refine zX.icmp0 (tgt := 63) ⟨rfl, rfl⟩ rfl (by omega) (fun (zz : 1 = 0) => absurd zz (by omega)) (fun (e11 : ¬ 1 = 0) => ?_)
            refine zX.sn 1 (pc2 := 62) (l2 := [(4, .inr (8, zeN o)), (0, .inr (20, v)), (1, zi m), (2, .inr (8, zeN e)), (3, zi (j : Int))]) (st2 := [.inr (8, zeN o)]) rfl ?_
            refine zX.sn 1 (pc2 := 63) (l2 := [(2, .inr (8, zeN o)), (4, .inr (8, zeN o)), (0, .inr (20, v)), (1, zi m), (3, zi (j : Int))]) (st2 := []) rfl ?_
            refine zX.s1 (pc2 := 66) (l2 := [(3, zi ((j : Int) + 1)), (2, .inr (8, zeN o)), (4, .inr (8, zeN o)), (0, .inr (20, v)), (1, zi m)]) (st2 := []) ⟨rfl, rfl⟩ (by rw [show (zi ((j : Int) + 1) : xV) = .inl (.int (Int32.ofInt (j : Int) + 1)) from congrArg (fun z => (.inl (.int z) : xV)) (Int32.ofInt_add _ _)]; rfl) ?_
            refine zX.sn 1 (pc2 := 4) (l2 := [(3, zi ((j : Int) + 1)), (2, .inr (8, zeN o)), (4, .inr (8, zeN o)), (0, .inr (20, v)), (1, zi m)]) (st2 := []) rfl ?_
            refine zX.re [(0, .inr (20, v)), (1, zi m), (2, .inr (8, zeN o)), (3, zi ((j : Int) + 1))] [3, 4, 1, 0] [3, 2, 4, 0, 1] rfl rfl (by decide) ?_
            exact k5 e2 e3 e5 e7 e9
    · refine zX.sn 1 (pc2 := 17) (l2 := [(0, .inr (20, v)), (1, .inr (8, zeN o))]) (st2 := [zi 1]) rfl ?_
      refine zX.sn 1 (pc2 := 21) (l2 := [(0, .inr (20, v)), (1, .inr (8, zeN o))]) (st2 := [zi 1]) rfl ?_
      refine zX.ret rfl (zret_z rfl (by decide)) ?_
      show zX _ 69 43 [(4, .inr (8, zeN o)), (0, .inr (20, v)), (1, zi m), (2, .inr (8, zeN e)), (3, zi (j : Int))] [zi 1] c s _ _
      refine zX.icmp0 (tgt := 63) ⟨rfl, rfl⟩ rfl (by omega) (fun (e12 : ¬ 1 = 0) => ?_) (fun (zz : 1 = 0) => absurd zz (by omega))
      refine zX.s1 (pc2 := 66) (l2 := [(3, zi ((j : Int) + 1)), (4, .inr (8, zeN o)), (0, .inr (20, v)), (1, zi m), (2, .inr (8, zeN e))]) (st2 := []) ⟨rfl, rfl⟩ (by rw [show (zi ((j : Int) + 1) : xV) = .inl (.int (Int32.ofInt (j : Int) + 1)) from congrArg (fun z => (.inl (.int z) : xV)) (Int32.ofInt_add _ _)]; rfl) ?_
      refine zX.sn 1 (pc2 := 4) (l2 := [(3, zi ((j : Int) + 1)), (4, .inr (8, zeN o)), (0, .inr (20, v)), (1, zi m), (2, .inr (8, zeN e))]) (st2 := []) rfl ?_
      refine zX.re [(0, .inr (20, v)), (1, zi m), (2, .inr (8, zeN e)), (3, zi ((j : Int) + 1))] [2, 3, 4, 0] [3, 4, 0, 1, 2] rfl rfl (by decide) ?_
      exact k6 e2 e3

end ZR76
