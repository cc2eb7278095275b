set_option maxRecDepth 100000
section ZR78
theorem zKs_push {h : xH} {K : List zE} {e : zE} (hk : zKs h K) (hE : zEr e) (he : zEn h e) : zKs h (K ++ [e]) := fun x hx => by
  rcases List.mem_append.mp hx with h1 | h1
  · exact hk x h1
  · rw [List.mem_singleton.mp h1]
    exact ⟨hE, he⟩
set_option maxHeartbeats 4000000 in
theorem r_vtake {d c s : Nat} {h : xH} {Q : xR → Nat → Nat → xH → Prop} {v sz gr : Nat} {fi : Int} {dr : Int32} {cap1 cap2 : Nat} {Lf Vs : List zE} {N : Nat} {fa : Nat → Int64} {out : List Int64} {e : zE} {hd : Nat → Int32} (hvr : zVr v fi sz gr) (hv : v < 5) (hsz : 1 ≤ sz ∧ sz ≤ 200) (hgr : gr ≤ 200) (hEe : zEr e) (hkye : zeK e < 8) (htme : zeT e < 1000) (hvae : -99 ≤ zeV e ∧ zeV e ≤ 99) (hahe : -1 ≤ zeA e ∧ zeA e < 1000) (hode : zeO e < 240) (hire : 0 ≤ zbi (zeR e) ∧ zbi (zeR e) ≤ 1) (hile : 0 ≤ zbi (zeL e) ∧ zbi (zeL e) ≤ 1) (hKl : Vs.length ≤ 240) (hkV : zKs h Vs) (hLl : Lf.length ≤ 72) (hkL : zKs h Lf) (hVl : Vs.length ≤ 72) (hV2 : (zNm Vs).length ≤ 72) (hL2 : (zNm Lf).length ≤ 72) (ho : out.length < 170000) (H_20_v : h (20, v) = some (.inl (8, [zi (v : Int), zi (zbi true), zi fi, zi (sz : Int), zi (gr : Int), .inr (2, 0), .inr (21, v), .inr (23, v), .inr (25, v), .inl (.int dr), .inr (36, v), .inr (38, v), .inr (40, v)]))) (H_8_zeN_e : h (8, zeN e) = some (.inl (1, [zi (zeP e : Int), zi (zbi (zeR e)), zi (zbi (zeL e)), zi (zeK e : Int), zi (zeT e : Int), zi (zeV e), zi (zeO e : Int), zi (zeA e), zi (zeB e)]))) (H_25_v : h (25, v) = some (.inr (0, 8, zI hd))) (P_lef : zAL h 36 v cap1 (zNm Lf)) (P_ver : zAL h 38 v cap2 (zNm Vs)) (P_told : zRes h 21 v 240 fa) (P_out : zOut h N out)
    (k1 : (zeA e ≤ ((zeT e : Int) + (gr : Int))) → (zbi (zeL e) = 0) → ∀ cq2 : Nat, ∀ c2 : Nat, ∀ s2 : Nat, (cap2 ≤ cq2 ∧ c2 + cap2 ≤ c + cq2 ∧ s2 + 4 * cap2 ≤ s + 4 * cq2) → ∀ N3 : Nat, ∀ c3 : Nat, ∀ s3 : Nat, (zCo N c2 s2 N3 c3 s3) → ∀ h' : xH, h' (25, v) = some (.inr (0, 8, zI (zfi hd (zeK e) (hd (zeK e) + Int32.ofInt 1)))) → zAL h' 38 v cq2 ((zNm Vs) ++ [(8, zeN e)]) → zRes h' 21 v 240 ((zvAn v (Vs ++ [e]) (zeK e) Lf (fa, out)).1) → zOut h' N3 ((zvAn v (Vs ++ [e]) (zeK e) Lf (fa, out)).2) → (∀ za zb : Nat, ¬ ((za = 25 ∧ zb = v) ∨ (38 ≤ za ∧ za < 38 + 2 ∧ zb % 8 = v % 8) ∨ (21 ≤ za ∧ za < 21 + 2 ∧ zb = v) ∨ (2 ≤ za ∧ za < 4)) → h' (za, zb) = h (za, zb)) → Q (.inl none) c3 s3 h')
    (k2 : (zeA e ≤ ((zeT e : Int) + (gr : Int))) → (¬ zbi (zeL e) = 0) → ∀ cq4 : Nat, ∀ c4 : Nat, ∀ s4 : Nat, (cap1 ≤ cq4 ∧ c4 + cap1 ≤ c + cq4 ∧ s4 + 4 * cap1 ≤ s + 4 * cq4) → (zeA e ≤ (zeT e : Int)) → ∀ h' : xH, h' (25, v) = some (.inr (0, 8, zI (zfi hd (zeK e) (hd (zeK e) + Int32.ofInt 1)))) → zAL h' 36 v cq4 ((zNm Lf) ++ [(8, zeN e)]) → (∀ za zb : Nat, ¬ ((za = 25 ∧ zb = v) ∨ (36 ≤ za ∧ za < 36 + 2 ∧ zb % 8 = v % 8)) → h' (za, zb) = h (za, zb)) → Q (.inl none) c4 s4 h')
    (k3 : (zeA e ≤ ((zeT e : Int) + (gr : Int))) → (¬ zbi (zeL e) = 0) → ∀ cq4 : Nat, ∀ c4 : Nat, ∀ s4 : Nat, (cap1 ≤ cq4 ∧ c4 + cap1 ≤ c + cq4 ∧ s4 + 4 * cap1 ≤ s + 4 * cq4) → ((zeT e : Int) < zeA e) → ∀ N6 : Nat, ∀ c6 : Nat, ∀ s6 : Nat, (zCo N c4 s4 N6 c6 s6) → ∀ h' : xH, h' (25, v) = some (.inr (0, 8, zI (zfi hd (zeK e) (hd (zeK e) + Int32.ofInt 1)))) → zAL h' 36 v cq4 ((zNm Lf) ++ [(8, zeN e)]) → zRes h' 21 v 240 (zfi fa (zeO e) (zvRes v Vs e)) → zOut h' N6 (out ++ [(zvRes v Vs e)]) → (∀ za zb : Nat, ¬ ((za = 25 ∧ zb = v) ∨ (36 ≤ za ∧ za < 36 + 2 ∧ zb % 8 = v % 8) ∨ (21 ≤ za ∧ za < 21 + 2 ∧ zb = v) ∨ (2 ≤ za ∧ za < 4)) → h' (za, zb) = h (za, zb)) → Q (.inl none) c6 s6 h')
    (k4 : (((zeT e : Int) + (gr : Int)) < zeA e) → ∀ h' : xH, h' (20, v) = some (.inl (8, [zi (v : Int), zi (zbi true), zi fi, zi (sz : Int), zi (gr : Int), .inr (2, 0), .inr (21, v), .inr (23, v), .inr (25, v), .inl (.int (dr + (Int32.ofInt 1))), .inr (36, v), .inr (38, v), .inr (40, v)])) → (∀ za zb : Nat, ¬ ((za = 20 ∧ zb = v)) → h' (za, zb) = h (za, zb)) → Q (.inl none) c s h') :
    zX (d + 7) 66 0 [(0, .inr (20, v)), (1, .inr (8, zeN e))] [] c s h Q := by
  refine zX.sn 1 (pc2 := 1) (l2 := [(0, .inr (20, v)), (1, .inr (8, zeN e))]) (st2 := [.inr (20, v)]) rfl ?_
  refine zX.sn 1 (pc2 := 2) (l2 := [(0, .inr (20, v)), (1, .inr (8, zeN e))]) (st2 := [.inr (8, zeN e), .inr (20, v)]) rfl ?_
  refine zX.sn 1 (pc2 := 3) (l2 := [(0, .inr (20, v)), (1, .inr (8, zeN e))]) (st2 := [.inr (8, zeN e), .inr (8, zeN e), .inr (20, v)]) rfl ?_
  refine zX.getf ⟨rfl, rfl⟩ H_8_zeN_e rfl rfl ?_
  refine zX.call (mid2 := 61) (as := [.inr (20, v), .inr (8, zeN e), zi (zeA e)]) (rest := []) ⟨rfl, rfl⟩ (fun _ => rfl) (zX.inv rfl H_20_v rfl rfl) ⟨Nat.le_of_ble_eq_true rfl, Nat.le_of_ble_eq_true rfl⟩ ?_
  show zX _ 61 0 [(0, .inr (20, v)), (1, .inr (8, zeN e)), (2, zi (zeA e))] [] c s _ _
  refine zX.sn 1 (pc2 := 1) (l2 := [(0, .inr (20, v)), (1, .inr (8, zeN e)), (2, zi (zeA e))]) (st2 := [zi (zeA e)]) rfl ?_
  refine zX.sn 1 (pc2 := 2) (l2 := [(0, .inr (20, v)), (1, .inr (8, zeN e)), (2, zi (zeA e))]) (st2 := [.inr (8, zeN e), zi (zeA e)]) rfl ?_
  refine zX.getf ⟨rfl, rfl⟩ H_8_zeN_e rfl rfl ?_
  refine zX.sn 1 (pc2 := 6) (l2 := [(0, .inr (20, v)), (1, .inr (8, zeN e)), (2, zi (zeA e))]) (st2 := [.inr (20, v), zi (zeT e : Int), zi (zeA e)]) rfl ?_
  refine zX.getf ⟨rfl, rfl⟩ H_20_v rfl rfl ?_
  refine zX.iadd ⟨rfl, rfl⟩ ?_
  refine zX.icmp (tgt := 17) ⟨rfl, rfl⟩ rfl (by omega) (by omega) (fun (e1 : zeA e ≤ ((zeT e : Int) + (gr : Int))) => ?_) (fun (e1 : ((zeT e : Int) + (gr : Int)) < zeA e) => ?_)
  · refine zX.sn 1 (pc2 := 18) (l2 := [(0, .inr (20, v)), (1, .inr (8, zeN e)), (2, zi (zeA e))]) (st2 := [zi 0]) rfl ?_
    refine zX.ret rfl (zret_z rfl (by decide)) ?_
    show zX _ 66 9 [(0, .inr (20, v)), (1, .inr (8, zeN e))] [zi 0] c s _ _
    refine zX.icmp0 (tgt := 23) ⟨rfl, rfl⟩ rfl (by omega) (fun (e2 : 0 = 0) => ?_) (fun (zz : ¬ 0 = 0) => absurd zz (by omega))
    refine zX.sn 1 (pc2 := 24) (l2 := [(0, .inr (20, v)), (1, .inr (8, zeN e))]) (st2 := [.inr (20, v)]) rfl ?_
    refine zX.sn 1 (pc2 := 25) (l2 := [(0, .inr (20, v)), (1, .inr (8, zeN e))]) (st2 := [.inr (8, zeN e), .inr (20, v)]) rfl ?_
    refine zX.getf ⟨rfl, rfl⟩ H_8_zeN_e rfl rfl ?_
    refine zX.sn 1 (pc2 := 29) (l2 := [(0, .inr (20, v)), (1, .inr (8, zeN e))]) (st2 := [zi 1, zi (zeK e : Int), .inr (20, v)]) rfl ?_
    refine zX.call (mid2 := 81) (as := [.inr (20, v), zi (zeK e : Int), zi 1]) (rest := []) ⟨rfl, rfl⟩ (fun _ => rfl) (zX.inv rfl H_20_v rfl rfl) ⟨Nat.le_of_ble_eq_true rfl, Nat.le_of_ble_eq_true rfl⟩ ?_
    refine s_hold (ci := 8) (k := zeK e) rfl (by omega) hvr (by omega) (show zVo _ 8 v true fi sz gr _ _ from H_20_v) H_25_v (fun h1 hv1 hF1 => ?_)
    show zX _ 66 32 [(0, .inr (20, v)), (1, .inr (8, zeN e))] [] c s _ _
    refine zX.sn 1 (pc2 := 33) (l2 := [(0, .inr (20, v)), (1, .inr (8, zeN e))]) (st2 := [.inr (8, zeN e)]) rfl ?_
    refine zX.getf ⟨rfl, rfl⟩ ((hF1 8 (zeN e) (by omega)).trans H_8_zeN_e) rfl rfl ?_
    refine zX.icmp0 (tgt := 79) ⟨rfl, rfl⟩ rfl (by omega) (fun (e3 : zbi (zeL e) = 0) => ?_) (fun (e3 : ¬ zbi (zeL e) = 0) => ?_)
    · refine zX.sn 1 (pc2 := 80) (l2 := [(0, .inr (20, v)), (1, .inr (8, zeN e))]) (st2 := [.inr (20, v)]) rfl ?_
      refine zX.getf ⟨rfl, rfl⟩ ((hF1 20 v (by omega)).trans H_20_v) rfl rfl ?_
      refine zX.sn 1 (pc2 := 84) (l2 := [(0, .inr (20, v)), (1, .inr (8, zeN e))]) (st2 := [.inr (8, zeN e), .inr (38, v)]) rfl ?_
      refine zX.call (mid2 := 155) (as := [.inr (38, v), .inr (8, zeN e)]) (rest := []) ⟨rfl, rfl⟩ (fun _ => rfl) (zX.invA rfl (zAL.fr P_ver (fun za zb hi => ((hF1 za zb (by omega)).trans rfl))) rfl rfl) ⟨Nat.le_of_ble_eq_true rfl, Nat.le_of_ble_eq_true rfl⟩ ?_
      refine s_add (x := (8, zeN e)) (by omega) (by omega) (zAL.fr P_ver (fun za zb hi => ((hF1 za zb (by omega)).trans rfl))) (by first | assumption | omega) (zKs.el (hkV.fr (v := v) (fun za zb hn => ((hF1 za zb (by omega)).trans rfl))) (by omega)) (by first | omega | (dsimp only; omega)) ((hF1 8 (zeN e) (by omega)).trans H_8_zeN_e) rfl  (fun h2 cq2 c2 s2 hv2 hF2 hb2 => ?_)
      show zX _ 66 87 [(0, .inr (20, v)), (1, .inr (8, zeN e))] [zi 1] c2 s2 _ _
      refine zX.sn 1 (pc2 := 88) (l2 := [(0, .inr (20, v)), (1, .inr (8, zeN e))]) (st2 := []) rfl ?_
      refine zX.sn 1 (pc2 := 89) (l2 := [(0, .inr (20, v)), (1, .inr (8, zeN e))]) (st2 := [.inr (20, v)]) rfl ?_
      refine zX.sn 1 (pc2 := 90) (l2 := [(0, .inr (20, v)), (1, .inr (8, zeN e))]) (st2 := [.inr (8, zeN e), .inr (20, v)]) rfl ?_
      refine zX.getf ⟨rfl, rfl⟩ ((hF2 8 (zeN e) (by omega)).trans ((hF1 8 (zeN e) (by omega)).trans H_8_zeN_e)) rfl rfl ?_
      refine zX.call (mid2 := 67) (as := [.inr (20, v), zi (zeK e : Int)]) (rest := []) ⟨rfl, rfl⟩ (fun _ => rfl) (zX.inv rfl ((hF2 20 v (by omega)).trans ((hF1 20 v (by omega)).trans H_20_v)) rfl rfl) ⟨Nat.le_of_ble_eq_true rfl, Nat.le_of_ble_eq_true rfl⟩ ?_
      refine s_vla (Lf := Lf) (Vs := (Vs ++ [e])) (k := zeK e) hvr (by omega) (by omega) (by rw [List.length_append]; show Vs.length + 1 ≤ 240; omega) (by omega) (show zVo _ 8 v true fi sz gr _ [.inr (36, v), .inr (38, v), .inr (40, v)] from ((hF2 20 v (by omega)).trans ((hF1 20 v (by omega)).trans H_20_v))) (zAL.fr P_lef (fun za zb hi => ((hF2 za zb (by omega)).trans ((hF1 za zb (by omega)).trans rfl)))) (show zAL _ 38 v cq2 (zNm (Vs ++ [e])) from (by have z := hv2; rw [show zNm (Vs ++ [e]) = zNm Vs ++ [(8, zeN e)] from List.map_append]; exact z)) (hkL.fr (v := v) (fun za zb hn => ((hF2 za zb (by omega)).trans ((hF1 za zb (by omega)).trans rfl)))) (zKs_push (hkV.fr (v := v) (fun za zb hn => ((hF2 za zb (by omega)).trans ((hF1 za zb (by omega)).trans rfl)))) hEe (show zEn _ e from ((hF2 8 (zeN e) (by omega)).trans ((hF1 8 (zeN e) (by omega)).trans H_8_zeN_e)))) (zRes.fr P_told (fun za zb hi => ((hF2 za zb (by omega)).trans ((hF1 za zb (by omega)).trans rfl)))) (zOut.fr P_out (fun za zb hi => ((hF2 za zb (by omega)).trans ((hF1 za zb (by omega)).trans rfl))))  (fun h3 N3 c3 s3 hv3 ho3 hF3 hb3 => ?_)
      show zX _ 66 96 [(0, .inr (20, v)), (1, .inr (8, zeN e))] [] c3 s3 _ _
      refine zX.ret rfl rfl ?_
      exact k1 e1 e3 cq2 c2 s2 hb2 N3 c3 s3 hb3 _ ((hF3 25 v (by omega)).trans ((hF2 25 v (by omega)).trans hv1)) (zAL.fr hv2 (fun za zb hi => ((hF3 za zb (by omega)).trans rfl))) hv3 ho3 (fun za zb hn => ((hF3 za zb (by omega)).trans ((hF2 za zb (by omega)).trans ((hF1 za zb (by omega)).trans rfl))))
    · refine zX.sn 1 (pc2 := 40) (l2 := [(0, .inr (20, v)), (1, .inr (8, zeN e))]) (st2 := [.inr (20, v)]) rfl ?_
      refine zX.getf ⟨rfl, rfl⟩ ((hF1 20 v (by omega)).trans H_20_v) rfl rfl ?_
      refine zX.sn 1 (pc2 := 44) (l2 := [(0, .inr (20, v)), (1, .inr (8, zeN e))]) (st2 := [.inr (8, zeN e), .inr (36, v)]) rfl ?_
      refine zX.call (mid2 := 155) (as := [.inr (36, v), .inr (8, zeN e)]) (rest := []) ⟨rfl, rfl⟩ (fun _ => rfl) (zX.invA rfl (zAL.fr P_lef (fun za zb hi => ((hF1 za zb (by omega)).trans rfl))) rfl rfl) ⟨Nat.le_of_ble_eq_true rfl, Nat.le_of_ble_eq_true rfl⟩ ?_
      refine s_add (x := (8, zeN e)) (by omega) (by omega) (zAL.fr P_lef (fun za zb hi => ((hF1 za zb (by omega)).trans rfl))) (by first | assumption | omega) (zKs.el (hkL.fr (v := v) (fun za zb hn => ((hF1 za zb (by omega)).trans rfl))) (by omega)) (by first | omega | (dsimp only; omega)) ((hF1 8 (zeN e) (by omega)).trans H_8_zeN_e) rfl  (fun h4 cq4 c4 s4 hv4 hF4 hb4 => ?_)
      show zX _ 66 47 [(0, .inr (20, v)), (1, .inr (8, zeN e))] [zi 1] c4 s4 _ _
      refine zX.sn 1 (pc2 := 48) (l2 := [(0, .inr (20, v)), (1, .inr (8, zeN e))]) (st2 := []) rfl ?_
      refine zX.sn 1 (pc2 := 49) (l2 := [(0, .inr (20, v)), (1, .inr (8, zeN e))]) (st2 := [.inr (8, zeN e)]) rfl ?_
      refine zX.getf ⟨rfl, rfl⟩ ((hF4 8 (zeN e) (by omega)).trans ((hF1 8 (zeN e) (by omega)).trans H_8_zeN_e)) rfl rfl ?_
      refine zX.sn 1 (pc2 := 53) (l2 := [(0, .inr (20, v)), (1, .inr (8, zeN e))]) (st2 := [.inr (8, zeN e), zi (zeA e)]) rfl ?_
      refine zX.getf ⟨rfl, rfl⟩ ((hF4 8 (zeN e) (by omega)).trans ((hF1 8 (zeN e) (by omega)).trans H_8_zeN_e)) rfl rfl ?_
      refine zX.icmp (tgt := 96) ⟨rfl, rfl⟩ rfl (by omega) (by omega) (fun (e4 : zeA e ≤ (zeT e : Int)) => ?_) (fun (e4 : (zeT e : Int) < zeA e) => ?_)
      · refine zX.ret rfl rfl ?_
        exact k2 e1 e3 cq4 c4 s4 hb4 e4 _ ((hF4 25 v (by omega)).trans hv1) hv4 (fun za zb hn => ((hF4 za zb (by omega)).trans ((hF1 za zb (by omega)).trans rfl)))
      · refine zX.sn 1 (pc2 := 60) (l2 := [(0, .inr (20, v)), (1, .inr (8, zeN e))]) (st2 := [.inr (20, v)]) rfl ?_
        refine zX.sn 1 (pc2 := 61) (l2 := [(0, .inr (20, v)), (1, .inr (8, zeN e))]) (st2 := [.inr (8, zeN e), .inr (20, v)]) rfl ?_
        refine zX.getf ⟨rfl, rfl⟩ ((hF4 8 (zeN e) (by omega)).trans ((hF1 8 (zeN e) (by omega)).trans H_8_zeN_e)) rfl rfl ?_
        refine zX.sn 1 (pc2 := 65) (l2 := [(0, .inr (20, v)), (1, .inr (8, zeN e))]) (st2 := [.inr (20, v), zi (zeO e : Int), .inr (20, v)]) rfl ?_
        refine zX.sn 1 (pc2 := 66) (l2 := [(0, .inr (20, v)), (1, .inr (8, zeN e))]) (st2 := [.inr (8, zeN e), .inr (20, v), zi (zeO e : Int), .inr (20, v)]) rfl ?_
        refine zX.sn 1 (pc2 := 67) (l2 := [(0, .inr (20, v)), (1, .inr (8, zeN e))]) (st2 := [.inr (20, v), .inr (8, zeN e), .inr (20, v), zi (zeO e : Int), .inr (20, v)]) rfl ?_
        refine zX.getf ⟨rfl, rfl⟩ ((hF4 20 v (by omega)).trans ((hF1 20 v (by omega)).trans H_20_v)) rfl rfl ?_
        refine zX.call (mid2 := 64) (as := [.inr (20, v), .inr (8, zeN e), .inr (38, v)]) (rest := [zi (zeO e : Int), .inr (20, v)]) ⟨rfl, rfl⟩ (fun _ => rfl) (zX.inv rfl ((hF4 20 v (by omega)).trans ((hF1 20 v (by omega)).trans H_20_v)) rfl rfl) ⟨Nat.le_of_ble_eq_true rfl, Nat.le_of_ble_eq_true rfl⟩ ?_
        refine s_vres (K := Vs) hvr (by omega) hKl hEe (show zEn _ e from ((hF4 8 (zeN e) (by omega)).trans ((hF1 8 (zeN e) (by omega)).trans H_8_zeN_e))) (show zVo _ 8 v true fi sz gr _ [.inr (36, v), .inr (38, v), .inr (40, v)] from ((hF4 20 v (by omega)).trans ((hF1 20 v (by omega)).trans H_20_v))) (zAL.fr P_ver (fun za zb hi => ((hF4 za zb (by omega)).trans ((hF1 za zb (by omega)).trans rfl)))) (hkV.fr (v := v) (fun za zb hn => ((hF4 za zb (by omega)).trans ((hF1 za zb (by omega)).trans rfl))))  ?_
        show zX _ 66 73 [(0, .inr (20, v)), (1, .inr (8, zeN e))] [.inl (.long (zvRes v Vs e)), zi (zeO e : Int), .inr (20, v)] c4 s4 _ _
        refine zX.call (mid2 := 78) (as := [.inr (20, v), zi (zeO e : Int), .inl (.long (zvRes v Vs e))]) (rest := []) ⟨rfl, rfl⟩ (fun _ => rfl) (zX.inv rfl ((hF4 20 v (by omega)).trans ((hF1 20 v (by omega)).trans H_20_v)) rfl rfl) ⟨Nat.le_of_ble_eq_true rfl, Nat.le_of_ble_eq_true rfl⟩ ?_
        refine s_tell2 (ci := 8) (k := zeO e) rfl (by omega) zvRes_nz hvr (by omega) (by omega) (by first | omega | (simp only [List.length_append, List.length_cons, List.length_nil]; omega)) (show zVo _ 8 v true fi sz gr _ _ from ((hF4 20 v (by omega)).trans ((hF1 20 v (by omega)).trans H_20_v))) (zRes.fr P_told (fun za zb hi => ((hF4 za zb (by omega)).trans ((hF1 za zb (by omega)).trans rfl)))) (zOut.fr P_out (fun za zb hi => ((hF4 za zb (by omega)).trans ((hF1 za zb (by omega)).trans rfl))))  (fun h6 N6 c6 s6 hv6 ho6 hF6 hb6 => ?_)
        show zX _ 66 76 [(0, .inr (20, v)), (1, .inr (8, zeN e))] [] c6 s6 _ _
        refine zX.sn 1 (pc2 := 96) (l2 := [(0, .inr (20, v)), (1, .inr (8, zeN e))]) (st2 := []) rfl ?_
        refine zX.ret rfl rfl ?_
        exact k3 e1 e3 cq4 c4 s4 hb4 e4 N6 c6 s6 hb6 _ ((hF6 25 v (by omega)).trans ((hF4 25 v (by omega)).trans hv1)) (zAL.fr hv4 (fun za zb hi => ((hF6 za zb (by omega)).trans rfl))) hv6 ho6 (fun za zb hn => ((hF6 za zb (by omega)).trans ((hF4 za zb (by omega)).trans ((hF1 za zb (by omega)).trans rfl))))
  · refine zX.sn 1 (pc2 := 14) (l2 := [(0, .inr (20, v)), (1, .inr (8, zeN e)), (2, zi (zeA e))]) (st2 := [zi 1]) rfl ?_
    refine zX.sn 1 (pc2 := 18) (l2 := [(0, .inr (20, v)), (1, .inr (8, zeN e)), (2, zi (zeA e))]) (st2 := [zi 1]) rfl ?_
    refine zX.ret rfl (zret_z rfl (by decide)) ?_
    show zX _ 66 9 [(0, .inr (20, v)), (1, .inr (8, zeN e))] [zi 1] c s _ _
    refine zX.icmp0 (tgt := 23) ⟨rfl, rfl⟩ rfl (by omega) (fun (zz : 1 = 0) => absurd zz (by omega)) (fun (e5 : ¬ 1 = 0) => ?_)
    refine zX.sn 1 (pc2 := 13) (l2 := [(0, .inr (20, v)), (1, .inr (8, zeN e))]) (st2 := [.inr (20, v)]) rfl ?_
    refine zX.sn 1 (pc2 := 14) (l2 := [(0, .inr (20, v)), (1, .inr (8, zeN e))]) (st2 := [.inr (20, v), .inr (20, v)]) rfl ?_
    refine zX.getf ⟨rfl, rfl⟩ H_20_v rfl rfl ?_
    refine zX.sn 1 (pc2 := 18) (l2 := [(0, .inr (20, v)), (1, .inr (8, zeN e))]) (st2 := [zi 1, .inl (.int dr), .inr (20, v)]) rfl ?_
    refine zX.sn 1 (pc2 := 19) (l2 := [(0, .inr (20, v)), (1, .inr (8, zeN e))]) (st2 := [.inl (.int (dr + (Int32.ofInt 1))), .inr (20, v)]) rfl ?_
    refine zX.putf ⟨rfl, rfl⟩ H_20_v rfl (by omega) rfl ?_
    show zX _ 66 22 [(0, .inr (20, v)), (1, .inr (8, zeN e))] [] c s (xup h (20, v) (.inl (8, [zi (v : Int), zi (zbi true), zi fi, zi (sz : Int), zi (gr : Int), .inr (2, 0), .inr (21, v), .inr (23, v), .inr (25, v), .inl (.int (dr + (Int32.ofInt 1))), .inr (36, v), .inr (38, v), .inr (40, v)]))) _
    refine zX.ret rfl rfl ?_
    exact k4 e1 _ zup_s (fun za zb hn => (zup_n (zn (by omega)) rfl))

set_option maxHeartbeats 4000000 in
theorem r_vtd0 {d c s : Nat} {h : xH} {Q : xR → Nat → Nat → xH → Prop} {v sz gr : Nat} {fi : Int} {dr : Int32} {cap1 cap2 : Nat} {Lf Vs : List zE} {N : Nat} {fa : Nat → Int64} {out : List Int64} {b m : Int} (hvr : zVr v fi sz gr) (hv : v < 5) (hsz : 1 ≤ sz ∧ sz ≤ 200) (hgr : gr ≤ 200) (hm : -1 ≤ m ∧ m < 1000) (hLl : Lf.length ≤ 72) (hkL : zKs h Lf) (H_20_v : h (20, v) = some (.inl (8, [zi (v : Int), zi (zbi true), zi fi, zi (sz : Int), zi (gr : Int), .inr (2, 0), .inr (21, v), .inr (23, v), .inr (25, v), .inl (.int dr), .inr (36, v), .inr (38, v), .inr (40, v)]))) (P_lef : zAL h 36 v cap1 (zNm Lf)) (P_told : zRes h 21 v 240 fa) (P_out : zOut h N out)
    (k1 : (zvNext m fa Lf = none) → zX (d + 4) 68 9 [(0, .inr (20, v)), (2, zi m), (3, .inl .null), (4, zi 0)] [] c s h Q)
    (k2 : ∀ b1 : zE, (zvNext m fa Lf = some b1) → zX (d + 4) 68 9 [(0, .inr (20, v)), (2, zi m), (3, .inr (8, zeN b1)), (4, zi 0)] [] c s h Q) :
    zX (d + 4) 68 0 [(0, .inr (20, v)), (1, zi b), (2, zi m)] [] c s h Q := by
  refine zX.sn 1 (pc2 := 1) (l2 := [(0, .inr (20, v)), (1, zi b), (2, zi m)]) (st2 := [.inr (20, v)]) rfl ?_
  refine zX.sn 1 (pc2 := 2) (l2 := [(0, .inr (20, v)), (1, zi b), (2, zi m)]) (st2 := [zi m, .inr (20, v)]) rfl ?_
  refine zX.call (mid2 := 69) (as := [.inr (20, v), zi m]) (rest := []) ⟨rfl, rfl⟩ (fun _ => rfl) (zX.inv rfl H_20_v rfl rfl) ⟨Nat.le_of_ble_eq_true rfl, Nat.le_of_ble_eq_true rfl⟩ ?_
  refine s_next (L := Lf) hvr (by omega) (by omega) (show zVo _ 8 v true fi sz gr _ [.inr (36, v), .inr (38, v), .inr (40, v)] from H_20_v) P_lef hkL P_told (fun eb1 => ?_) (fun b1 eb1 hEb1 hnb1 => ?_)
  · show zX _ 68 5 [(0, .inr (20, v)), (1, zi b), (2, zi m)] [.inl .null] c s _ _
    refine zX.sn 1 (pc2 := 6) (l2 := [(3, .inl .null), (0, .inr (20, v)), (1, zi b), (2, zi m)]) (st2 := []) rfl ?_
    refine zX.sn 1 (pc2 := 7) (l2 := [(3, .inl .null), (0, .inr (20, v)), (1, zi b), (2, zi m)]) (st2 := [zi 0]) rfl ?_
    refine zX.sn 1 (pc2 := 9) (l2 := [(4, zi 0), (3, .inl .null), (0, .inr (20, v)), (1, zi b), (2, zi m)]) (st2 := []) rfl ?_
    refine zX.re [(0, .inr (20, v)), (2, zi m), (3, .inl .null), (4, zi 0)] [2, 4, 1, 0] [4, 3, 0, 1, 2] rfl rfl (by decide) ?_
    exact k1 eb1
  · obtain ⟨i1b1, i2b1, i3b1, i4b1, i5b1, i6b1⟩ := id hEb1
    show zX _ 68 5 [(0, .inr (20, v)), (1, zi b), (2, zi m)] [.inr (8, zeN b1)] c s _ _
    refine zX.sn 1 (pc2 := 6) (l2 := [(3, .inr (8, zeN b1)), (0, .inr (20, v)), (1, zi b), (2, zi m)]) (st2 := []) rfl ?_
    refine zX.sn 1 (pc2 := 7) (l2 := [(3, .inr (8, zeN b1)), (0, .inr (20, v)), (1, zi b), (2, zi m)]) (st2 := [zi 0]) rfl ?_
    refine zX.sn 1 (pc2 := 9) (l2 := [(4, zi 0), (3, .inr (8, zeN b1)), (0, .inr (20, v)), (1, zi b), (2, zi m)]) (st2 := []) rfl ?_
    refine zX.re [(0, .inr (20, v)), (2, zi m), (3, .inr (8, zeN b1)), (4, zi 0)] [2, 4, 1, 0] [4, 3, 0, 1, 2] rfl rfl (by decide) ?_
    exact k2 b1 eb1

set_option maxHeartbeats 4000000 in
theorem r_vtde {d c s : Nat} {h : xH} {Q : xR → Nat → Nat → xH → Prop} {v sz gr : Nat} {fi : Int} {dr : Int32} {m : Int} {i : Nat} (hvr : zVr v fi sz gr) (hv : v < 5) (hsz : 1 ≤ sz ∧ sz ≤ 200) (hgr : gr ≤ 200) (hi : i ≤ 240) (H_20_v : h (20, v) = some (.inl (8, [zi (v : Int), zi (zbi true), zi fi, zi (sz : Int), zi (gr : Int), .inr (2, 0), .inr (21, v), .inr (23, v), .inr (25, v), .inl (.int dr), .inr (36, v), .inr (38, v), .inr (40, v)])))
    (k1 : (240 ≤ (i : Int)) → Q (.inl none) c s h)
    (k2 : ((i : Int) < 240) → Q (.inl none) c s h) :
    zX d 68 9 [(0, .inr (20, v)), (2, zi m), (3, .inl .null), (4, zi (i : Int))] [] c s h Q := by
  refine zX.sn 1 (pc2 := 11) (l2 := [(0, .inr (20, v)), (2, zi m), (3, .inl .null), (4, zi (i : Int))]) (st2 := [zi (i : Int)]) rfl ?_
  refine zX.sn 1 (pc2 := 14) (l2 := [(0, .inr (20, v)), (2, zi m), (3, .inl .null), (4, zi (i : Int))]) (st2 := [zi 240, zi (i : Int)]) rfl ?_
  refine zX.icmp (tgt := 50) ⟨rfl, rfl⟩ rfl (by omega) (by omega) (fun (e1 : 240 ≤ (i : Int)) => ?_) (fun (e1 : (i : Int) < 240) => ?_)
  · refine zX.ret rfl rfl ?_
    exact k1 e1
  · refine zX.sn 1 (pc2 := 18) (l2 := [(0, .inr (20, v)), (2, zi m), (3, .inl .null), (4, zi (i : Int))]) (st2 := [.inl .null]) rfl ?_
    refine zX.sn 1 (pc2 := 50) (l2 := [(0, .inr (20, v)), (2, zi m), (3, .inl .null), (4, zi (i : Int))]) (st2 := []) rfl ?_
    refine zX.ret rfl rfl ?_
    exact k2 e1

set_option maxHeartbeats 4000000 in
theorem r_vtd1 {d c s : Nat} {h : xH} {Q : xR → Nat → Nat → xH → Prop} {v sz gr : Nat} {fi : Int} {dr : Int32} {cap1 cap2 : Nat} {Lf Vs : List zE} {N : Nat} {fa : Nat → Int64} {out : List Int64} {e : zE} {m : Int} {i : Nat} (hvr : zVr v fi sz gr) (hv : v < 5) (hsz : 1 ≤ sz ∧ sz ≤ 200) (hgr : gr ≤ 200) (hEe : zEr e) (hkye : zeK e < 8) (htme : zeT e < 1000) (hvae : -99 ≤ zeV e ∧ zeV e ≤ 99) (hahe : -1 ≤ zeA e ∧ zeA e < 1000) (hode : zeO e < 240) (hire : 0 ≤ zbi (zeR e) ∧ zbi (zeR e) ≤ 1) (hile : 0 ≤ zbi (zeL e) ∧ zbi (zeL e) ≤ 1) (hm : -1 ≤ m ∧ m < 1000) (hKl : Vs.length ≤ 240) (hkV : zKs h Vs) (hLl : Lf.length ≤ 72) (hkL : zKs h Lf) (hi : i < 240) (ho : out.length + 2 < 200000) (H_20_v : h (20, v) = some (.inl (8, [zi (v : Int), zi (zbi true), zi fi, zi (sz : Int), zi (gr : Int), .inr (2, 0), .inr (21, v), .inr (23, v), .inr (25, v), .inl (.int dr), .inr (36, v), .inr (38, v), .inr (40, v)]))) (H_8_zeN_e : h (8, zeN e) = some (.inl (1, [zi (zeP e : Int), zi (zbi (zeR e)), zi (zbi (zeL e)), zi (zeK e : Int), zi (zeT e : Int), zi (zeV e), zi (zeO e : Int), zi (zeA e), zi (zeB e)]))) (P_lef : zAL h 36 v cap1 (zNm Lf)) (P_ver : zAL h 38 v cap2 (zNm Vs)) (P_told : zRes h 21 v 240 fa) (P_out : zOut h N out)
    (k1 : ∀ N2 : Nat, ∀ c2 : Nat, ∀ s2 : Nat, (zCo N c s N2 c2 s2) → (zvNext m (zfi fa (zeO e) (zvRes v Vs e)) Lf = none) → ∀ h' : xH, zRes h' 21 v 240 (zfi fa (zeO e) (zvRes v Vs e)) → zOut h' N2 (out ++ [(zvRes v Vs e)]) → (∀ za zb : Nat, ¬ ((21 ≤ za ∧ za < 21 + 2 ∧ zb = v) ∨ (2 ≤ za ∧ za < 4)) → h' (za, zb) = h (za, zb)) → zX (d + 5) 68 9 [(0, .inr (20, v)), (2, zi m), (3, .inl .null), (4, zi ((i : Int) + 1))] [] c2 s2 h' Q)
    (k2 : ∀ N2 : Nat, ∀ c2 : Nat, ∀ s2 : Nat, (zCo N c s N2 c2 s2) → ∀ b1 : zE, (zvNext m (zfi fa (zeO e) (zvRes v Vs e)) Lf = some b1) → ∀ h' : xH, zRes h' 21 v 240 (zfi fa (zeO e) (zvRes v Vs e)) → zOut h' N2 (out ++ [(zvRes v Vs e)]) → (∀ za zb : Nat, ¬ ((21 ≤ za ∧ za < 21 + 2 ∧ zb = v) ∨ (2 ≤ za ∧ za < 4)) → h' (za, zb) = h (za, zb)) → zX (d + 5) 68 9 [(0, .inr (20, v)), (2, zi m), (3, .inr (8, zeN b1)), (4, zi ((i : Int) + 1))] [] c2 s2 h' Q) :
    zX (d + 5) 68 9 [(0, .inr (20, v)), (2, zi m), (3, .inr (8, zeN e)), (4, zi (i : Int))] [] c s h Q := by
  refine zX.sn 1 (pc2 := 11) (l2 := [(0, .inr (20, v)), (2, zi m), (3, .inr (8, zeN e)), (4, zi (i : Int))]) (st2 := [zi (i : Int)]) rfl ?_
  refine zX.sn 1 (pc2 := 14) (l2 := [(0, .inr (20, v)), (2, zi m), (3, .inr (8, zeN e)), (4, zi (i : Int))]) (st2 := [zi 240, zi (i : Int)]) rfl ?_
  refine zX.icmp (tgt := 50) ⟨rfl, rfl⟩ rfl (by omega) (by omega) (fun (zz : 240 ≤ (i : Int)) => absurd zz (by omega)) (fun (e1 : (i : Int) < 240) => ?_)
  refine zX.sn 1 (pc2 := 18) (l2 := [(0, .inr (20, v)), (2, zi m), (3, .inr (8, zeN e)), (4, zi (i : Int))]) (st2 := [.inr (8, zeN e)]) rfl ?_
  refine zX.sn 1 (pc2 := 21) (l2 := [(0, .inr (20, v)), (2, zi m), (3, .inr (8, zeN e)), (4, zi (i : Int))]) (st2 := []) rfl ?_
  refine zX.sn 1 (pc2 := 22) (l2 := [(0, .inr (20, v)), (2, zi m), (3, .inr (8, zeN e)), (4, zi (i : Int))]) (st2 := [.inr (20, v)]) rfl ?_
  refine zX.sn 1 (pc2 := 23) (l2 := [(0, .inr (20, v)), (2, zi m), (3, .inr (8, zeN e)), (4, zi (i : Int))]) (st2 := [.inr (8, zeN e), .inr (20, v)]) rfl ?_
  refine zX.getf ⟨rfl, rfl⟩ H_8_zeN_e rfl rfl ?_
  refine zX.sn 1 (pc2 := 27) (l2 := [(0, .inr (20, v)), (2, zi m), (3, .inr (8, zeN e)), (4, zi (i : Int))]) (st2 := [.inr (20, v), zi (zeO e : Int), .inr (20, v)]) rfl ?_
  refine zX.sn 1 (pc2 := 28) (l2 := [(0, .inr (20, v)), (2, zi m), (3, .inr (8, zeN e)), (4, zi (i : Int))]) (st2 := [.inr (8, zeN e), .inr (20, v), zi (zeO e : Int), .inr (20, v)]) rfl ?_
  refine zX.sn 1 (pc2 := 29) (l2 := [(0, .inr (20, v)), (2, zi m), (3, .inr (8, zeN e)), (4, zi (i : Int))]) (st2 := [.inr (20, v), .inr (8, zeN e), .inr (20, v), zi (zeO e : Int), .inr (20, v)]) rfl ?_
  refine zX.getf ⟨rfl, rfl⟩ H_20_v rfl rfl ?_
  refine zX.call (mid2 := 64) (as := [.inr (20, v), .inr (8, zeN e), .inr (38, v)]) (rest := [zi (zeO e : Int), .inr (20, v)]) ⟨rfl, rfl⟩ (fun _ => rfl) (zX.inv rfl H_20_v rfl rfl) ⟨Nat.le_of_ble_eq_true rfl, Nat.le_of_ble_eq_true rfl⟩ ?_
  refine s_vres (K := Vs) hvr (by omega) hKl hEe (show zEn _ e from H_8_zeN_e) (show zVo _ 8 v true fi sz gr _ [.inr (36, v), .inr (38, v), .inr (40, v)] from H_20_v) P_ver hkV  ?_
  show zX _ 68 35 [(0, .inr (20, v)), (2, zi m), (3, .inr (8, zeN e)), (4, zi (i : Int))] [.inl (.long (zvRes v Vs e)), zi (zeO e : Int), .inr (20, v)] c s _ _
  refine zX.call (mid2 := 78) (as := [.inr (20, v), zi (zeO e : Int), .inl (.long (zvRes v Vs e))]) (rest := []) ⟨rfl, rfl⟩ (fun _ => rfl) (zX.inv rfl H_20_v rfl rfl) ⟨Nat.le_of_ble_eq_true rfl, Nat.le_of_ble_eq_true rfl⟩ ?_
  refine s_tell2 (ci := 8) (k := zeO e) rfl (by omega) zvRes_nz hvr (by omega) (by omega) (by first | omega | (simp only [List.length_append, List.length_cons, List.length_nil]; omega)) (show zVo _ 8 v true fi sz gr _ _ from H_20_v) P_told P_out  (fun h2 N2 c2 s2 hv2 ho2 hF2 hb2 => ?_)
  show zX _ 68 38 [(0, .inr (20, v)), (2, zi m), (3, .inr (8, zeN e)), (4, zi (i : Int))] [] c2 s2 _ _
  refine zX.sn 1 (pc2 := 39) (l2 := [(0, .inr (20, v)), (2, zi m), (3, .inr (8, zeN e)), (4, zi (i : Int))]) (st2 := [.inr (20, v)]) rfl ?_
  refine zX.sn 1 (pc2 := 40) (l2 := [(0, .inr (20, v)), (2, zi m), (3, .inr (8, zeN e)), (4, zi (i : Int))]) (st2 := [zi m, .inr (20, v)]) rfl ?_
  refine zX.call (mid2 := 69) (as := [.inr (20, v), zi m]) (rest := []) ⟨rfl, rfl⟩ (fun _ => rfl) (zX.inv rfl ((hF2 20 v (by omega)).trans H_20_v) rfl rfl) ⟨Nat.le_of_ble_eq_true rfl, Nat.le_of_ble_eq_true rfl⟩ ?_
  refine s_next (L := Lf) hvr (by omega) (by omega) (show zVo _ 8 v true fi sz gr _ [.inr (36, v), .inr (38, v), .inr (40, v)] from ((hF2 20 v (by omega)).trans H_20_v)) (zAL.fr P_lef (fun za zb hi => ((hF2 za zb (by omega)).trans rfl))) (hkL.fr (v := v) (fun za zb hn => ((hF2 za zb (by omega)).trans rfl))) hv2 (fun eb1 => ?_) (fun b1 eb1 hEb1 hnb1 => ?_)
  · show zX _ 68 43 [(0, .inr (20, v)), (2, zi m), (3, .inr (8, zeN e)), (4, zi (i : Int))] [.inl .null] c2 s2 _ _
    refine zX.sn 1 (pc2 := 44) (l2 := [(3, .inl .null), (0, .inr (20, v)), (2, zi m), (4, zi (i : Int))]) (st2 := []) rfl ?_
    refine zX.s1 (pc2 := 47) (l2 := [(4, zi ((i : Int) + 1)), (3, .inl .null), (0, .inr (20, v)), (2, zi m)]) (st2 := []) ⟨rfl, rfl⟩ (by rw [show (zi ((i : Int) + 1) : xV) = .inl (.int (Int32.ofInt (i : Int) + 1)) from congrArg (fun z => (.inl (.int z) : xV)) (Int32.ofInt_add _ _)]; rfl) ?_
    refine zX.sn 1 (pc2 := 9) (l2 := [(4, zi ((i : Int) + 1)), (3, .inl .null), (0, .inr (20, v)), (2, zi m)]) (st2 := []) rfl ?_
    refine zX.re [(0, .inr (20, v)), (2, zi m), (3, .inl .null), (4, zi ((i : Int) + 1))] [2, 3, 1, 0] [4, 3, 0, 2] rfl rfl (by decide) ?_
    exact k1 N2 c2 s2 hb2 eb1 _ hv2 ho2 (fun za zb hn => ((hF2 za zb (by omega)).trans rfl))
  · obtain ⟨i1b1, i2b1, i3b1, i4b1, i5b1, i6b1⟩ := id hEb1
    show zX _ 68 43 [(0, .inr (20, v)), (2, zi m), (3, .inr (8, zeN e)), (4, zi (i : Int))] [.inr (8, zeN b1)] c2 s2 _ _
    refine zX.sn 1 (pc2 := 44) (l2 := [(3, .inr (8, zeN b1)), (0, .inr (20, v)), (2, zi m), (4, zi (i : Int))]) (st2 := []) rfl ?_
    refine zX.s1 (pc2 := 47) (l2 := [(4, zi ((i : Int) + 1)), (3, .inr (8, zeN b1)), (0, .inr (20, v)), (2, zi m)]) (st2 := []) ⟨rfl, rfl⟩ (by rw [show (zi ((i : Int) + 1) : xV) = .inl (.int (Int32.ofInt (i : Int) + 1)) from congrArg (fun z => (.inl (.int z) : xV)) (Int32.ofInt_add _ _)]; rfl) ?_
    refine zX.sn 1 (pc2 := 9) (l2 := [(4, zi ((i : Int) + 1)), (3, .inr (8, zeN b1)), (0, .inr (20, v)), (2, zi m)]) (st2 := []) rfl ?_
    refine zX.re [(0, .inr (20, v)), (2, zi m), (3, .inr (8, zeN b1)), (4, zi ((i : Int) + 1))] [2, 3, 1, 0] [4, 3, 0, 2] rfl rfl (by decide) ?_
    exact k2 N2 c2 s2 hb2 b1 eb1 _ (zRes.fr hv2 (fun za zb hi => rfl)) (zOut.fr ho2 (fun za zb hi => rfl)) (fun za zb hn => ((hF2 za zb (by omega)).trans rfl))

set_option maxHeartbeats 4000000 in
theorem r_vg0 {d c s : Nat} {h : xH} {Q : xR → Nat → Nat → xH → Prop} {v sz gr : Nat} {fi : Int} {dr : Int32} {cap1 cap2 : Nat} {Lf Vs : List zE} {b m : Int} (hvr : zVr v fi sz gr) (hv : v < 5) (hsz : 1 ≤ sz ∧ sz ≤ 200) (hgr : gr ≤ 200) (hm : -1 ≤ m ∧ m < 1000) (hll : (zNm Lf).length ≤ 240) (H_20_v : h (20, v) = some (.inl (8, [zi (v : Int), zi (zbi true), zi fi, zi (sz : Int), zi (gr : Int), .inr (2, 0), .inr (21, v), .inr (23, v), .inr (25, v), .inl (.int dr), .inr (36, v), .inr (38, v), .inr (40, v)]))) (P_lef : zAL h 36 v cap1 (zNm Lf))
    (k1 : zX (d + 1) 71 10 [(0, .inr (20, v)), (2, zi m), (3, zi (((zNm Lf).length : Int) - 1))] [] c s h Q) :
    zX (d + 1) 71 0 [(0, .inr (20, v)), (1, zi b), (2, zi m)] [] c s h Q := by
  refine zX.sn 1 (pc2 := 1) (l2 := [(0, .inr (20, v)), (1, zi b), (2, zi m)]) (st2 := [.inr (20, v)]) rfl ?_
  refine zX.getf ⟨rfl, rfl⟩ H_20_v rfl rfl ?_
  refine zX.call (mid2 := 150) (as := [.inr (36, v)]) (rest := []) ⟨rfl, rfl⟩ (fun _ => rfl) (zX.invA rfl P_lef rfl rfl) ⟨Nat.le_of_ble_eq_true rfl, Nat.le_of_ble_eq_true rfl⟩ ?_
  refine s_size P_lef ?_
  show zX _ 71 7 [(0, .inr (20, v)), (1, zi b), (2, zi m)] [zi ((zNm Lf).length : Int)] c s _ _
  refine zX.sn 1 (pc2 := 8) (l2 := [(0, .inr (20, v)), (1, zi b), (2, zi m)]) (st2 := [zi 1, zi ((zNm Lf).length : Int)]) rfl ?_
  refine zX.isub ⟨rfl, rfl⟩ ?_
  refine zX.sn 1 (pc2 := 10) (l2 := [(3, zi (((zNm Lf).length : Int) - 1)), (0, .inr (20, v)), (1, zi b), (2, zi m)]) (st2 := []) rfl ?_
  refine zX.re [(0, .inr (20, v)), (2, zi m), (3, zi (((zNm Lf).length : Int) - 1))] [1, 3, 0] [3, 0, 1, 2] rfl rfl (by decide) ?_
  exact k1

set_option maxHeartbeats 4000000 in
theorem r_vg1e {d c s : Nat} {h : xH} {Q : xR → Nat → Nat → xH → Prop} {v sz gr : Nat} {fi : Int} {dr : Int32} {cap1 cap2 : Nat} {Lf Vs : List zE} {m : Int} (hvr : zVr v fi sz gr) (hv : v < 5) (hsz : 1 ≤ sz ∧ sz ≤ 200) (hgr : gr ≤ 200) (hm : -1 ≤ m ∧ m < 1000) (hll : (zNm Vs).length ≤ 240) (H_20_v : h (20, v) = some (.inl (8, [zi (v : Int), zi (zbi true), zi fi, zi (sz : Int), zi (gr : Int), .inr (2, 0), .inr (21, v), .inr (23, v), .inr (25, v), .inl (.int dr), .inr (36, v), .inr (38, v), .inr (40, v)]))) (P_ver : zAL h 38 v cap2 (zNm Vs))
    (k1 : zX (d + 1) 71 80 [(0, .inr (20, v)), (3, zi (m - (gr : Int))), (4, zi (((zNm Vs).length : Int) - 1))] [] c s h Q) :
    zX (d + 1) 71 10 [(0, .inr (20, v)), (2, zi m), (3, zi (-1))] [] c s h Q := by
  refine zX.sn 1 (pc2 := 11) (l2 := [(0, .inr (20, v)), (2, zi m), (3, zi (-1))]) (st2 := [zi (-1)]) rfl ?_
  refine zX.icmp0 (tgt := 62) ⟨rfl, rfl⟩ rfl (by omega) (fun (e1 : (-1) < 0) => ?_) (fun (zz : 0 ≤ (-1)) => absurd zz (by omega))
  refine zX.sn 1 (pc2 := 63) (l2 := [(0, .inr (20, v)), (2, zi m), (3, zi (-1))]) (st2 := [zi m]) rfl ?_
  refine zX.sn 1 (pc2 := 64) (l2 := [(0, .inr (20, v)), (2, zi m), (3, zi (-1))]) (st2 := [.inr (20, v), zi m]) rfl ?_
  refine zX.getf ⟨rfl, rfl⟩ H_20_v rfl rfl ?_
  refine zX.isub ⟨rfl, rfl⟩ ?_
  refine zX.sn 1 (pc2 := 69) (l2 := [(3, zi (m - (gr : Int))), (0, .inr (20, v)), (2, zi m)]) (st2 := []) rfl ?_
  refine zX.sn 1 (pc2 := 70) (l2 := [(3, zi (m - (gr : Int))), (0, .inr (20, v)), (2, zi m)]) (st2 := [.inr (20, v)]) rfl ?_
  refine zX.getf ⟨rfl, rfl⟩ H_20_v rfl rfl ?_
  refine zX.call (mid2 := 150) (as := [.inr (38, v)]) (rest := []) ⟨rfl, rfl⟩ (fun _ => rfl) (zX.invA rfl P_ver rfl rfl) ⟨Nat.le_of_ble_eq_true rfl, Nat.le_of_ble_eq_true rfl⟩ ?_
  refine s_size P_ver ?_
  show zX _ 71 76 [(3, zi (m - (gr : Int))), (0, .inr (20, v)), (2, zi m)] [zi ((zNm Vs).length : Int)] c s _ _
  refine zX.sn 1 (pc2 := 77) (l2 := [(3, zi (m - (gr : Int))), (0, .inr (20, v)), (2, zi m)]) (st2 := [zi 1, zi ((zNm Vs).length : Int)]) rfl ?_
  refine zX.isub ⟨rfl, rfl⟩ ?_
  refine zX.sn 1 (pc2 := 80) (l2 := [(4, zi (((zNm Vs).length : Int) - 1)), (3, zi (m - (gr : Int))), (0, .inr (20, v)), (2, zi m)]) (st2 := []) rfl ?_
  refine zX.re [(0, .inr (20, v)), (3, zi (m - (gr : Int))), (4, zi (((zNm Vs).length : Int) - 1))] [2, 1, 0] [4, 3, 0, 2] rfl rfl (by decide) ?_
  exact k1

set_option maxHeartbeats 4000000 in
theorem r_vg1 {d c s : Nat} {h : xH} {Q : xR → Nat → Nat → xH → Prop} {v sz gr : Nat} {fi : Int} {dr : Int32} {cap1 cap2 : Nat} {Lf Vs : List zE} {e : zE} {m : Int} {j : Nat} {hd : Nat → Int32} (hvr : zVr v fi sz gr) (hv : v < 5) (hsz : 1 ≤ sz ∧ sz ≤ 200) (hgr : gr ≤ 200) (hEe : zEr e) (hkye : zeK e < 8) (htme : zeT e < 1000) (hvae : -99 ≤ zeV e ∧ zeV e ≤ 99) (hahe : -1 ≤ zeA e ∧ zeA e < 1000) (hode : zeO e < 240) (hire : 0 ≤ zbi (zeR e) ∧ zbi (zeR e) ≤ 1) (hile : 0 ≤ zbi (zeL e) ∧ zbi (zeL e) ≤ 1) (hm : -1 ≤ m ∧ m < 1000) (hLl : Lf.length ≤ 72) (hkL : zKs h Lf) (hj : j < (zNm Lf).length) (hll : (zNm Lf).length ≤ 72) (hx : (zNm Lf)[j]? = some (8, zeN e)) (H_20_v : h (20, v) = some (.inl (8, [zi (v : Int), zi (zbi true), zi fi, zi (sz : Int), zi (gr : Int), .inr (2, 0), .inr (21, v), .inr (23, v), .inr (25, v), .inl (.int dr), .inr (36, v), .inr (38, v), .inr (40, v)]))) (H_8_zeN_e : h (8, zeN e) = some (.inl (1, [zi (zeP e : Int), zi (zbi (zeR e)), zi (zbi (zeL e)), zi (zeK e : Int), zi (zeT e : Int), zi (zeV e), zi (zeO e : Int), zi (zeA e), zi (zeB e)]))) (H_25_v : h (25, v) = some (.inr (0, 8, zI hd))) (P_lef : zAL h 36 v cap1 (zNm Lf))
    (k1 : (m ≤ ((zeT e : Int) + (gr : Int))) → zX (d + 3) 71 10 [(0, .inr (20, v)), (2, zi m), (3, zi ((j : Int) + (-1)))] [] c s h Q)
    (k2 : (((zeT e : Int) + (gr : Int)) < m) → ∀ h' : xH, h' (25, v) = some (.inr (0, 8, zI (zfi hd (zeK e) (hd (zeK e) + Int32.ofInt (-1))))) → zAL h' 36 v cap1 ((zNm Lf).eraseIdx j) → (∀ za zb : Nat, ¬ ((za = 25 ∧ zb = v) ∨ (36 ≤ za ∧ za < 36 + 2 ∧ zb % 8 = v % 8)) → h' (za, zb) = h (za, zb)) → zX (d + 3) 71 10 [(0, .inr (20, v)), (2, zi m), (3, zi ((j : Int) + (-1)))] [] c s h' Q) :
    zX (d + 3) 71 10 [(0, .inr (20, v)), (2, zi m), (3, zi (j : Int))] [] c s h Q := by
  refine zX.sn 1 (pc2 := 11) (l2 := [(0, .inr (20, v)), (2, zi m), (3, zi (j : Int))]) (st2 := [zi (j : Int)]) rfl ?_
  refine zX.icmp0 (tgt := 62) ⟨rfl, rfl⟩ rfl (by omega) (fun (zz : (j : Int) < 0) => absurd zz (by omega)) (fun (e1 : 0 ≤ (j : Int)) => ?_)
  refine zX.sn 1 (pc2 := 15) (l2 := [(0, .inr (20, v)), (2, zi m), (3, zi (j : Int))]) (st2 := [.inr (20, v)]) rfl ?_
  refine zX.getf ⟨rfl, rfl⟩ H_20_v rfl rfl ?_
  refine zX.sn 1 (pc2 := 19) (l2 := [(0, .inr (20, v)), (2, zi m), (3, zi (j : Int))]) (st2 := [zi (j : Int), .inr (36, v)]) rfl ?_
  refine zX.call (mid2 := 153) (as := [.inr (36, v), zi (j : Int)]) (rest := []) ⟨rfl, rfl⟩ (fun _ => rfl) (zX.invA rfl P_lef rfl rfl) ⟨Nat.le_of_ble_eq_true rfl, Nat.le_of_ble_eq_true rfl⟩ ?_
  refine s_get (j := j) (x := (8, zeN e)) rfl (by omega) P_lef hx ?_
  show zX _ 71 22 [(0, .inr (20, v)), (2, zi m), (3, zi (j : Int))] [.inr (8, zeN e)] c s _ _
  refine zX.cast ⟨rfl, rfl⟩ H_8_zeN_e rfl ?_
  refine zX.sn 1 (pc2 := 27) (l2 := [(4, .inr (8, zeN e)), (0, .inr (20, v)), (2, zi m), (3, zi (j : Int))]) (st2 := []) rfl ?_
  refine zX.sn 1 (pc2 := 28) (l2 := [(4, .inr (8, zeN e)), (0, .inr (20, v)), (2, zi m), (3, zi (j : Int))]) (st2 := [.inr (20, v)]) rfl ?_
  refine zX.sn 1 (pc2 := 30) (l2 := [(4, .inr (8, zeN e)), (0, .inr (20, v)), (2, zi m), (3, zi (j : Int))]) (st2 := [.inr (8, zeN e), .inr (20, v)]) rfl ?_
  refine zX.sn 1 (pc2 := 31) (l2 := [(4, .inr (8, zeN e)), (0, .inr (20, v)), (2, zi m), (3, zi (j : Int))]) (st2 := [zi m, .inr (8, zeN e), .inr (20, v)]) rfl ?_
  refine zX.call (mid2 := 61) (as := [.inr (20, v), .inr (8, zeN e), zi m]) (rest := []) ⟨rfl, rfl⟩ (fun _ => rfl) (zX.inv rfl H_20_v rfl rfl) ⟨Nat.le_of_ble_eq_true rfl, Nat.le_of_ble_eq_true rfl⟩ ?_
  show zX _ 61 0 [(0, .inr (20, v)), (1, .inr (8, zeN e)), (2, zi m)] [] c s _ _
  refine zX.sn 1 (pc2 := 1) (l2 := [(0, .inr (20, v)), (1, .inr (8, zeN e)), (2, zi m)]) (st2 := [zi m]) rfl ?_
  refine zX.sn 1 (pc2 := 2) (l2 := [(0, .inr (20, v)), (1, .inr (8, zeN e)), (2, zi m)]) (st2 := [.inr (8, zeN e), zi m]) rfl ?_
  refine zX.getf ⟨rfl, rfl⟩ H_8_zeN_e rfl rfl ?_
  refine zX.sn 1 (pc2 := 6) (l2 := [(0, .inr (20, v)), (1, .inr (8, zeN e)), (2, zi m)]) (st2 := [.inr (20, v), zi (zeT e : Int), zi m]) rfl ?_
  refine zX.getf ⟨rfl, rfl⟩ H_20_v rfl rfl ?_
  refine zX.iadd ⟨rfl, rfl⟩ ?_
  refine zX.icmp (tgt := 17) ⟨rfl, rfl⟩ rfl (by omega) (by omega) (fun (e2 : m ≤ ((zeT e : Int) + (gr : Int))) => ?_) (fun (e2 : ((zeT e : Int) + (gr : Int)) < m) => ?_)
  · refine zX.sn 1 (pc2 := 18) (l2 := [(0, .inr (20, v)), (1, .inr (8, zeN e)), (2, zi m)]) (st2 := [zi 0]) rfl ?_
    refine zX.ret rfl (zret_z rfl (by decide)) ?_
    show zX _ 71 34 [(4, .inr (8, zeN e)), (0, .inr (20, v)), (2, zi m), (3, zi (j : Int))] [zi 0] c s _ _
    refine zX.icmp0 (tgt := 56) ⟨rfl, rfl⟩ rfl (by omega) (fun (e3 : 0 = 0) => ?_) (fun (zz : ¬ 0 = 0) => absurd zz (by omega))
    refine zX.s1 (pc2 := 59) (l2 := [(3, zi ((j : Int) + (-1))), (4, .inr (8, zeN e)), (0, .inr (20, v)), (2, zi m)]) (st2 := []) ⟨rfl, rfl⟩ (by rw [show (zi ((j : Int) + (-1)) : xV) = .inl (.int (Int32.ofInt (j : Int) + (-1))) from congrArg (fun z => (.inl (.int z) : xV)) (Int32.ofInt_add _ _)]; rfl) ?_
    refine zX.sn 1 (pc2 := 10) (l2 := [(3, zi ((j : Int) + (-1))), (4, .inr (8, zeN e)), (0, .inr (20, v)), (2, zi m)]) (st2 := []) rfl ?_
    refine zX.re [(0, .inr (20, v)), (2, zi m), (3, zi ((j : Int) + (-1)))] [2, 3, 0] [3, 4, 0, 2] rfl rfl (by decide) ?_
    exact k1 e2
  · refine zX.sn 1 (pc2 := 14) (l2 := [(0, .inr (20, v)), (1, .inr (8, zeN e)), (2, zi m)]) (st2 := [zi 1]) rfl ?_
    refine zX.sn 1 (pc2 := 18) (l2 := [(0, .inr (20, v)), (1, .inr (8, zeN e)), (2, zi m)]) (st2 := [zi 1]) rfl ?_
    refine zX.ret rfl (zret_z rfl (by decide)) ?_
    show zX _ 71 34 [(4, .inr (8, zeN e)), (0, .inr (20, v)), (2, zi m), (3, zi (j : Int))] [zi 1] c s _ _
    refine zX.icmp0 (tgt := 56) ⟨rfl, rfl⟩ rfl (by omega) (fun (zz : 1 = 0) => absurd zz (by omega)) (fun (e4 : ¬ 1 = 0) => ?_)
    refine zX.sn 1 (pc2 := 38) (l2 := [(4, .inr (8, zeN e)), (0, .inr (20, v)), (2, zi m), (3, zi (j : Int))]) (st2 := [.inr (20, v)]) rfl ?_
    refine zX.getf ⟨rfl, rfl⟩ H_20_v rfl rfl ?_
    refine zX.sn 1 (pc2 := 42) (l2 := [(4, .inr (8, zeN e)), (0, .inr (20, v)), (2, zi m), (3, zi (j : Int))]) (st2 := [zi (j : Int), .inr (36, v)]) rfl ?_
    refine zX.call (mid2 := 156) (as := [.inr (36, v), zi (j : Int)]) (rest := []) ⟨rfl, rfl⟩ (fun _ => rfl) (zX.invA rfl P_lef rfl rfl) ⟨Nat.le_of_ble_eq_true rfl, Nat.le_of_ble_eq_true rfl⟩ ?_
    refine s_rem (j := j) (x := (8, zeN e)) rfl (by omega) (by omega) P_lef (zKs.el hkL (by omega)) hx  (fun h2 hv2 hF2 => ?_)
    show zX _ 71 45 [(4, .inr (8, zeN e)), (0, .inr (20, v)), (2, zi m), (3, zi (j : Int))] [.inr (8, zeN e)] c s _ _
    refine zX.sn 1 (pc2 := 46) (l2 := [(4, .inr (8, zeN e)), (0, .inr (20, v)), (2, zi m), (3, zi (j : Int))]) (st2 := []) rfl ?_
    refine zX.sn 1 (pc2 := 47) (l2 := [(4, .inr (8, zeN e)), (0, .inr (20, v)), (2, zi m), (3, zi (j : Int))]) (st2 := [.inr (20, v)]) rfl ?_
    refine zX.sn 1 (pc2 := 49) (l2 := [(4, .inr (8, zeN e)), (0, .inr (20, v)), (2, zi m), (3, zi (j : Int))]) (st2 := [.inr (8, zeN e), .inr (20, v)]) rfl ?_
    refine zX.getf ⟨rfl, rfl⟩ ((hF2 8 (zeN e) (by omega)).trans H_8_zeN_e) rfl rfl ?_
    refine zX.sn 1 (pc2 := 53) (l2 := [(4, .inr (8, zeN e)), (0, .inr (20, v)), (2, zi m), (3, zi (j : Int))]) (st2 := [zi (-1), zi (zeK e : Int), .inr (20, v)]) rfl ?_
    refine zX.call (mid2 := 81) (as := [.inr (20, v), zi (zeK e : Int), zi (-1)]) (rest := []) ⟨rfl, rfl⟩ (fun _ => rfl) (zX.inv rfl ((hF2 20 v (by omega)).trans H_20_v) rfl rfl) ⟨Nat.le_of_ble_eq_true rfl, Nat.le_of_ble_eq_true rfl⟩ ?_
    refine s_hold (ci := 8) (k := zeK e) rfl (by omega) hvr (by omega) (show zVo _ 8 v true fi sz gr _ _ from ((hF2 20 v (by omega)).trans H_20_v)) ((hF2 25 v (by omega)).trans H_25_v) (fun h3 hv3 hF3 => ?_)
    show zX _ 71 56 [(4, .inr (8, zeN e)), (0, .inr (20, v)), (2, zi m), (3, zi (j : Int))] [] c s _ _
    refine zX.s1 (pc2 := 59) (l2 := [(3, zi ((j : Int) + (-1))), (4, .inr (8, zeN e)), (0, .inr (20, v)), (2, zi m)]) (st2 := []) ⟨rfl, rfl⟩ (by rw [show (zi ((j : Int) + (-1)) : xV) = .inl (.int (Int32.ofInt (j : Int) + (-1))) from congrArg (fun z => (.inl (.int z) : xV)) (Int32.ofInt_add _ _)]; rfl) ?_
    refine zX.sn 1 (pc2 := 10) (l2 := [(3, zi ((j : Int) + (-1))), (4, .inr (8, zeN e)), (0, .inr (20, v)), (2, zi m)]) (st2 := []) rfl ?_
    refine zX.re [(0, .inr (20, v)), (2, zi m), (3, zi ((j : Int) + (-1)))] [2, 3, 0] [3, 4, 0, 2] rfl rfl (by decide) ?_
    exact k2 e2 _ hv3 (zAL.fr hv2 (fun za zb hi => ((hF3 za zb (by omega)).trans rfl))) (fun za zb hn => ((hF3 za zb (by omega)).trans ((hF2 za zb (by omega)).trans rfl)))

set_option maxHeartbeats 4000000 in
theorem r_vg2e {d c s : Nat} {h : xH} {Q : xR → Nat → Nat → xH → Prop} {v sz gr : Nat} {fi : Int} {dr : Int32} {lm : Int} (hvr : zVr v fi sz gr) (hv : v < 5) (hsz : 1 ≤ sz ∧ sz ≤ 200) (hgr : gr ≤ 200) (H_20_v : h (20, v) = some (.inl (8, [zi (v : Int), zi (zbi true), zi fi, zi (sz : Int), zi (gr : Int), .inr (2, 0), .inr (21, v), .inr (23, v), .inr (25, v), .inl (.int dr), .inr (36, v), .inr (38, v), .inr (40, v)])))
    (k1 : Q (.inl none) c s h) :
    zX d 71 80 [(0, .inr (20, v)), (3, zi lm), (4, zi (-1))] [] c s h Q := by
  refine zX.sn 1 (pc2 := 82) (l2 := [(0, .inr (20, v)), (3, zi lm), (4, zi (-1))]) (st2 := [zi (-1)]) rfl ?_
  refine zX.icmp0 (tgt := 153) ⟨rfl, rfl⟩ rfl (by omega) (fun (e1 : (-1) < 0) => ?_) (fun (zz : 0 ≤ (-1)) => absurd zz (by omega))
  refine zX.ret rfl rfl ?_
  exact k1

set_option maxHeartbeats 4000000 in
theorem r_vg2 {d c s : Nat} {h : xH} {Q : xR → Nat → Nat → xH → Prop} {v sz gr : Nat} {fi : Int} {dr : Int32} {cap1 cap2 : Nat} {Lf Vs : List zE} {e : zE} {lm : Int} {j : Nat} {hd : Nat → Int32} (hvr : zVr v fi sz gr) (hv : v < 5) (hsz : 1 ≤ sz ∧ sz ≤ 200) (hgr : gr ≤ 200) (hEe : zEr e) (hkye : zeK e < 8) (htme : zeT e < 1000) (hvae : -99 ≤ zeV e ∧ zeV e ≤ 99) (hahe : -1 ≤ zeA e ∧ zeA e < 1000) (hode : zeO e < 240) (hire : 0 ≤ zbi (zeR e) ∧ zbi (zeR e) ≤ 1) (hile : 0 ≤ zbi (zeL e) ∧ zbi (zeL e) ≤ 1) (hlm : -1000 ≤ lm ∧ lm ≤ 1000) (hKl : Vs.length ≤ 240) (hkV : zKs h Vs) (hj : j < (zNm Vs).length) (hll : (zNm Vs).length ≤ 72) (hx : (zNm Vs)[j]? = some (8, zeN e)) (H_20_v : h (20, v) = some (.inl (8, [zi (v : Int), zi (zbi true), zi fi, zi (sz : Int), zi (gr : Int), .inr (2, 0), .inr (21, v), .inr (23, v), .inr (25, v), .inl (.int dr), .inr (36, v), .inr (38, v), .inr (40, v)]))) (H_8_zeN_e : h (8, zeN e) = some (.inl (1, [zi (zeP e : Int), zi (zbi (zeR e)), zi (zbi (zeL e)), zi (zeK e : Int), zi (zeT e : Int), zi (zeV e), zi (zeO e : Int), zi (zeA e), zi (zeB e)]))) (H_25_v : h (25, v) = some (.inr (0, 8, zI hd))) (P_ver : zAL h 38 v cap2 (zNm Vs))
    (k1 : (lm < (zeT e : Int)) → zX (d + 4) 71 80 [(0, .inr (20, v)), (3, zi lm), (4, zi ((j : Int) + (-1)))] [] c s h Q)
    (k2 : ((zeT e : Int) ≤ lm) → (zvBest (zeK e) lm Vs = none) → ∀ h' : xH, h' (25, v) = some (.inr (0, 8, zI (zfi hd (zeK e) (hd (zeK e) + Int32.ofInt (-1))))) → zAL h' 38 v cap2 ((zNm Vs).eraseIdx j) → (∀ za zb : Nat, ¬ ((za = 25 ∧ zb = v) ∨ (38 ≤ za ∧ za < 38 + 2 ∧ zb % 8 = v % 8)) → h' (za, zb) = h (za, zb)) → zX (d + 4) 71 80 [(0, .inr (20, v)), (3, zi lm), (4, zi ((j : Int) + (-1)))] [] c s h' Q)
    (k3 : ((zeT e : Int) ≤ lm) → ∀ b1 : zE, (zvBest (zeK e) lm Vs = some b1) → ((8, zeN e) = (8, zeN b1)) → zX (d + 4) 71 80 [(0, .inr (20, v)), (3, zi lm), (4, zi ((j : Int) + (-1)))] [] c s h Q)
    (k4 : ((zeT e : Int) ≤ lm) → ∀ b1 : zE, (zvBest (zeK e) lm Vs = some b1) → (¬ (8, zeN e) = (8, zeN b1)) → ∀ h' : xH, h' (25, v) = some (.inr (0, 8, zI (zfi hd (zeK e) (hd (zeK e) + Int32.ofInt (-1))))) → zAL h' 38 v cap2 ((zNm Vs).eraseIdx j) → (∀ za zb : Nat, ¬ ((za = 25 ∧ zb = v) ∨ (38 ≤ za ∧ za < 38 + 2 ∧ zb % 8 = v % 8)) → h' (za, zb) = h (za, zb)) → zX (d + 4) 71 80 [(0, .inr (20, v)), (3, zi lm), (4, zi ((j : Int) + (-1)))] [] c s h' Q) :
    zX (d + 4) 71 80 [(0, .inr (20, v)), (3, zi lm), (4, zi (j : Int))] [] c s h Q := by
  refine zX.sn 1 (pc2 := 82) (l2 := [(0, .inr (20, v)), (3, zi lm), (4, zi (j : Int))]) (st2 := [zi (j : Int)]) rfl ?_
  refine zX.icmp0 (tgt := 153) ⟨rfl, rfl⟩ rfl (by omega) (fun (zz : (j : Int) < 0) => absurd zz (by omega)) (fun (e1 : 0 ≤ (j : Int)) => ?_)
  refine zX.sn 1 (pc2 := 86) (l2 := [(0, .inr (20, v)), (3, zi lm), (4, zi (j : Int))]) (st2 := [.inr (20, v)]) rfl ?_
  refine zX.getf ⟨rfl, rfl⟩ H_20_v rfl rfl ?_
  refine zX.sn 1 (pc2 := 91) (l2 := [(0, .inr (20, v)), (3, zi lm), (4, zi (j : Int))]) (st2 := [zi (j : Int), .inr (38, v)]) rfl ?_
  refine zX.call (mid2 := 153) (as := [.inr (38, v), zi (j : Int)]) (rest := []) ⟨rfl, rfl⟩ (fun _ => rfl) (zX.invA rfl P_ver rfl rfl) ⟨Nat.le_of_ble_eq_true rfl, Nat.le_of_ble_eq_true rfl⟩ ?_
  refine s_get (j := j) (x := (8, zeN e)) rfl (by omega) P_ver hx ?_
  show zX _ 71 94 [(0, .inr (20, v)), (3, zi lm), (4, zi (j : Int))] [.inr (8, zeN e)] c s _ _
  refine zX.cast ⟨rfl, rfl⟩ H_8_zeN_e rfl ?_
  refine zX.sn 1 (pc2 := 99) (l2 := [(5, .inr (8, zeN e)), (0, .inr (20, v)), (3, zi lm), (4, zi (j : Int))]) (st2 := []) rfl ?_
  refine zX.sn 1 (pc2 := 101) (l2 := [(5, .inr (8, zeN e)), (0, .inr (20, v)), (3, zi lm), (4, zi (j : Int))]) (st2 := [.inr (8, zeN e)]) rfl ?_
  refine zX.getf ⟨rfl, rfl⟩ H_8_zeN_e rfl rfl ?_
  refine zX.sn 1 (pc2 := 105) (l2 := [(5, .inr (8, zeN e)), (0, .inr (20, v)), (3, zi lm), (4, zi (j : Int))]) (st2 := [zi lm, zi (zeT e : Int)]) rfl ?_
  refine zX.icmp (tgt := 147) ⟨rfl, rfl⟩ rfl (by omega) (by omega) (fun (e2 : lm < (zeT e : Int)) => ?_) (fun (e2 : (zeT e : Int) ≤ lm) => ?_)
  · refine zX.s1 (pc2 := 150) (l2 := [(4, zi ((j : Int) + (-1))), (5, .inr (8, zeN e)), (0, .inr (20, v)), (3, zi lm)]) (st2 := []) ⟨rfl, rfl⟩ (by rw [show (zi ((j : Int) + (-1)) : xV) = .inl (.int (Int32.ofInt (j : Int) + (-1))) from congrArg (fun z => (.inl (.int z) : xV)) (Int32.ofInt_add _ _)]; rfl) ?_
    refine zX.sn 1 (pc2 := 80) (l2 := [(4, zi ((j : Int) + (-1))), (5, .inr (8, zeN e)), (0, .inr (20, v)), (3, zi lm)]) (st2 := []) rfl ?_
    refine zX.re [(0, .inr (20, v)), (3, zi lm), (4, zi ((j : Int) + (-1)))] [2, 3, 0] [4, 5, 0, 3] rfl rfl (by decide) ?_
    exact k1 e2
  · refine zX.sn 1 (pc2 := 110) (l2 := [(5, .inr (8, zeN e)), (0, .inr (20, v)), (3, zi lm), (4, zi (j : Int))]) (st2 := [.inr (8, zeN e)]) rfl ?_
    refine zX.sn 1 (pc2 := 111) (l2 := [(5, .inr (8, zeN e)), (0, .inr (20, v)), (3, zi lm), (4, zi (j : Int))]) (st2 := [.inr (20, v), .inr (8, zeN e)]) rfl ?_
    refine zX.sn 1 (pc2 := 112) (l2 := [(5, .inr (8, zeN e)), (0, .inr (20, v)), (3, zi lm), (4, zi (j : Int))]) (st2 := [.inr (20, v), .inr (20, v), .inr (8, zeN e)]) rfl ?_
    refine zX.getf ⟨rfl, rfl⟩ H_20_v rfl rfl ?_
    refine zX.sn 1 (pc2 := 117) (l2 := [(5, .inr (8, zeN e)), (0, .inr (20, v)), (3, zi lm), (4, zi (j : Int))]) (st2 := [.inr (8, zeN e), .inr (38, v), .inr (20, v), .inr (8, zeN e)]) rfl ?_
    refine zX.getf ⟨rfl, rfl⟩ H_8_zeN_e rfl rfl ?_
    refine zX.sn 1 (pc2 := 121) (l2 := [(5, .inr (8, zeN e)), (0, .inr (20, v)), (3, zi lm), (4, zi (j : Int))]) (st2 := [zi lm, zi (zeK e : Int), .inr (38, v), .inr (20, v), .inr (8, zeN e)]) rfl ?_
    refine zX.call (mid2 := 62) (as := [.inr (20, v), .inr (38, v), zi (zeK e : Int), zi lm]) (rest := [.inr (8, zeN e)]) ⟨rfl, rfl⟩ (fun _ => rfl) (zX.inv rfl H_20_v rfl rfl) ⟨Nat.le_of_ble_eq_true rfl, Nat.le_of_ble_eq_true rfl⟩ ?_
    refine s_best (K := Vs) (k := (zeK e)) hvr (by omega) (by omega) (by omega) hKl (show zVo _ 8 v true fi sz gr _ [.inr (36, v), .inr (38, v), .inr (40, v)] from H_20_v) P_ver hkV (fun eb1 => ?_) (fun b1 eb1 hEb1 hnb1 => ?_)
    · show zX _ 71 124 [(5, .inr (8, zeN e)), (0, .inr (20, v)), (3, zi lm), (4, zi (j : Int))] [.inl .null, .inr (8, zeN e)] c s _ _
      refine zX.s2 [] (pc2 := 127) (l2 := [(5, .inr (8, zeN e)), (0, .inr (20, v)), (3, zi lm), (4, zi (j : Int))]) (st2 := []) ⟨rfl, rfl⟩ (fun _ => rfl) rfl (fun _ => rfl) ?_
      refine zX.sn 1 (pc2 := 128) (l2 := [(5, .inr (8, zeN e)), (0, .inr (20, v)), (3, zi lm), (4, zi (j : Int))]) (st2 := [.inr (20, v)]) rfl ?_
      refine zX.getf ⟨rfl, rfl⟩ H_20_v rfl rfl ?_
      refine zX.sn 1 (pc2 := 133) (l2 := [(5, .inr (8, zeN e)), (0, .inr (20, v)), (3, zi lm), (4, zi (j : Int))]) (st2 := [zi (j : Int), .inr (38, v)]) rfl ?_
      refine zX.call (mid2 := 156) (as := [.inr (38, v), zi (j : Int)]) (rest := []) ⟨rfl, rfl⟩ (fun _ => rfl) (zX.invA rfl P_ver rfl rfl) ⟨Nat.le_of_ble_eq_true rfl, Nat.le_of_ble_eq_true rfl⟩ ?_
      refine s_rem (j := j) (x := (8, zeN e)) rfl (by omega) (by omega) P_ver (zKs.el hkV (by omega)) hx  (fun h2 hv2 hF2 => ?_)
      show zX _ 71 136 [(5, .inr (8, zeN e)), (0, .inr (20, v)), (3, zi lm), (4, zi (j : Int))] [.inr (8, zeN e)] c s _ _
      refine zX.sn 1 (pc2 := 137) (l2 := [(5, .inr (8, zeN e)), (0, .inr (20, v)), (3, zi lm), (4, zi (j : Int))]) (st2 := []) rfl ?_
      refine zX.sn 1 (pc2 := 138) (l2 := [(5, .inr (8, zeN e)), (0, .inr (20, v)), (3, zi lm), (4, zi (j : Int))]) (st2 := [.inr (20, v)]) rfl ?_
      refine zX.sn 1 (pc2 := 140) (l2 := [(5, .inr (8, zeN e)), (0, .inr (20, v)), (3, zi lm), (4, zi (j : Int))]) (st2 := [.inr (8, zeN e), .inr (20, v)]) rfl ?_
      refine zX.getf ⟨rfl, rfl⟩ ((hF2 8 (zeN e) (by omega)).trans H_8_zeN_e) rfl rfl ?_
      refine zX.sn 1 (pc2 := 144) (l2 := [(5, .inr (8, zeN e)), (0, .inr (20, v)), (3, zi lm), (4, zi (j : Int))]) (st2 := [zi (-1), zi (zeK e : Int), .inr (20, v)]) rfl ?_
      refine zX.call (mid2 := 81) (as := [.inr (20, v), zi (zeK e : Int), zi (-1)]) (rest := []) ⟨rfl, rfl⟩ (fun _ => rfl) (zX.inv rfl ((hF2 20 v (by omega)).trans H_20_v) rfl rfl) ⟨Nat.le_of_ble_eq_true rfl, Nat.le_of_ble_eq_true rfl⟩ ?_
      refine s_hold (ci := 8) (k := zeK e) rfl (by omega) hvr (by omega) (show zVo _ 8 v true fi sz gr _ _ from ((hF2 20 v (by omega)).trans H_20_v)) ((hF2 25 v (by omega)).trans H_25_v) (fun h3 hv3 hF3 => ?_)
      show zX _ 71 147 [(5, .inr (8, zeN e)), (0, .inr (20, v)), (3, zi lm), (4, zi (j : Int))] [] c s _ _
      refine zX.s1 (pc2 := 150) (l2 := [(4, zi ((j : Int) + (-1))), (5, .inr (8, zeN e)), (0, .inr (20, v)), (3, zi lm)]) (st2 := []) ⟨rfl, rfl⟩ (by rw [show (zi ((j : Int) + (-1)) : xV) = .inl (.int (Int32.ofInt (j : Int) + (-1))) from congrArg (fun z => (.inl (.int z) : xV)) (Int32.ofInt_add _ _)]; rfl) ?_
      refine zX.sn 1 (pc2 := 80) (l2 := [(4, zi ((j : Int) + (-1))), (5, .inr (8, zeN e)), (0, .inr (20, v)), (3, zi lm)]) (st2 := []) rfl ?_
      refine zX.re [(0, .inr (20, v)), (3, zi lm), (4, zi ((j : Int) + (-1)))] [2, 3, 0] [4, 5, 0, 3] rfl rfl (by decide) ?_
      exact k2 e2 eb1 _ hv3 (zAL.fr hv2 (fun za zb hi => ((hF3 za zb (by omega)).trans rfl))) (fun za zb hn => ((hF3 za zb (by omega)).trans ((hF2 za zb (by omega)).trans rfl)))
    · obtain ⟨i1b1, i2b1, i3b1, i4b1, i5b1, i6b1⟩ := id hEb1
      show zX _ 71 124 [(5, .inr (8, zeN e)), (0, .inr (20, v)), (3, zi lm), (4, zi (j : Int))] [.inr (8, zeN b1), .inr (8, zeN e)] c s _ _
      refine zX.aceq (tgt := 147) ⟨rfl, rfl⟩ rfl (fun (e3 : (8, zeN e) = (8, zeN b1)) => ?_) (fun (e3 : ¬ (8, zeN e) = (8, zeN b1)) => ?_)
      · refine zX.s1 (pc2 := 150) (l2 := [(4, zi ((j : Int) + (-1))), (5, .inr (8, zeN e)), (0, .inr (20, v)), (3, zi lm)]) (st2 := []) ⟨rfl, rfl⟩ (by rw [show (zi ((j : Int) + (-1)) : xV) = .inl (.int (Int32.ofInt (j : Int) + (-1))) from congrArg (fun z => (.inl (.int z) : xV)) (Int32.ofInt_add _ _)]; rfl) ?_
        refine zX.sn 1 (pc2 := 80) (l2 := [(4, zi ((j : Int) + (-1))), (5, .inr (8, zeN e)), (0, .inr (20, v)), (3, zi lm)]) (st2 := []) rfl ?_
        refine zX.re [(0, .inr (20, v)), (3, zi lm), (4, zi ((j : Int) + (-1)))] [2, 3, 0] [4, 5, 0, 3] rfl rfl (by decide) ?_
        exact k3 e2 b1 eb1 e3
      · refine zX.sn 1 (pc2 := 128) (l2 := [(5, .inr (8, zeN e)), (0, .inr (20, v)), (3, zi lm), (4, zi (j : Int))]) (st2 := [.inr (20, v)]) rfl ?_
        refine zX.getf ⟨rfl, rfl⟩ H_20_v rfl rfl ?_
        refine zX.sn 1 (pc2 := 133) (l2 := [(5, .inr (8, zeN e)), (0, .inr (20, v)), (3, zi lm), (4, zi (j : Int))]) (st2 := [zi (j : Int), .inr (38, v)]) rfl ?_
        refine zX.call (mid2 := 156) (as := [.inr (38, v), zi (j : Int)]) (rest := []) ⟨rfl, rfl⟩ (fun _ => rfl) (zX.invA rfl (zAL.fr P_ver (fun za zb hi => rfl)) rfl rfl) ⟨Nat.le_of_ble_eq_true rfl, Nat.le_of_ble_eq_true rfl⟩ ?_
        refine s_rem (j := j) (x := (8, zeN e)) rfl (by omega) (by omega) (zAL.fr P_ver (fun za zb hi => rfl)) (zKs.el hkV (by omega)) hx  (fun h4 hv4 hF4 => ?_)
        show zX _ 71 136 [(5, .inr (8, zeN e)), (0, .inr (20, v)), (3, zi lm), (4, zi (j : Int))] [.inr (8, zeN e)] c s _ _
        refine zX.sn 1 (pc2 := 137) (l2 := [(5, .inr (8, zeN e)), (0, .inr (20, v)), (3, zi lm), (4, zi (j : Int))]) (st2 := []) rfl ?_
        refine zX.sn 1 (pc2 := 138) (l2 := [(5, .inr (8, zeN e)), (0, .inr (20, v)), (3, zi lm), (4, zi (j : Int))]) (st2 := [.inr (20, v)]) rfl ?_
        refine zX.sn 1 (pc2 := 140) (l2 := [(5, .inr (8, zeN e)), (0, .inr (20, v)), (3, zi lm), (4, zi (j : Int))]) (st2 := [.inr (8, zeN e), .inr (20, v)]) rfl ?_
        refine zX.getf ⟨rfl, rfl⟩ ((hF4 8 (zeN e) (by omega)).trans H_8_zeN_e) rfl rfl ?_
        refine zX.sn 1 (pc2 := 144) (l2 := [(5, .inr (8, zeN e)), (0, .inr (20, v)), (3, zi lm), (4, zi (j : Int))]) (st2 := [zi (-1), zi (zeK e : Int), .inr (20, v)]) rfl ?_
        refine zX.call (mid2 := 81) (as := [.inr (20, v), zi (zeK e : Int), zi (-1)]) (rest := []) ⟨rfl, rfl⟩ (fun _ => rfl) (zX.inv rfl ((hF4 20 v (by omega)).trans H_20_v) rfl rfl) ⟨Nat.le_of_ble_eq_true rfl, Nat.le_of_ble_eq_true rfl⟩ ?_
        refine s_hold (ci := 8) (k := zeK e) rfl (by omega) hvr (by omega) (show zVo _ 8 v true fi sz gr _ _ from ((hF4 20 v (by omega)).trans H_20_v)) ((hF4 25 v (by omega)).trans H_25_v) (fun h5 hv5 hF5 => ?_)
        show zX _ 71 147 [(5, .inr (8, zeN e)), (0, .inr (20, v)), (3, zi lm), (4, zi (j : Int))] [] c s _ _
        refine zX.s1 (pc2 := 150) (l2 := [(4, zi ((j : Int) + (-1))), (5, .inr (8, zeN e)), (0, .inr (20, v)), (3, zi lm)]) (st2 := []) ⟨rfl, rfl⟩ (by rw [show (zi ((j : Int) + (-1)) : xV) = .inl (.int (Int32.ofInt (j : Int) + (-1))) from congrArg (fun z => (.inl (.int z) : xV)) (Int32.ofInt_add _ _)]; rfl) ?_
        refine zX.sn 1 (pc2 := 80) (l2 := [(4, zi ((j : Int) + (-1))), (5, .inr (8, zeN e)), (0, .inr (20, v)), (3, zi lm)]) (st2 := []) rfl ?_
        refine zX.re [(0, .inr (20, v)), (3, zi lm), (4, zi ((j : Int) + (-1)))] [2, 3, 0] [4, 5, 0, 3] rfl rfl (by decide) ?_
        exact k4 e2 b1 eb1 e3 _ hv5 (zAL.fr hv4 (fun za zb hi => ((hF5 za zb (by omega)).trans rfl))) (fun za zb hn => ((hF5 za zb (by omega)).trans ((hF4 za zb (by omega)).trans rfl)))

set_option maxHeartbeats 4000000 in
theorem r_vf0 {d c s : Nat} {h : xH} {Q : xR → Nat → Nat → xH → Prop} {v sz gr : Nat} {fi : Int} {dr : Int32} {cap cap3 : Nat} {J Ag : List zE} {m : Int} (hvr : zVr v fi sz gr) (hv : v < 5) (hsz : 1 ≤ sz ∧ sz ≤ 200) (hgr : gr ≤ 200) (H_20_v : h (20, v) = some (.inl (8, [zi (v : Int), zi (zbi true), zi fi, zi (sz : Int), zi (gr : Int), .inr (2, 0), .inr (21, v), .inr (23, v), .inr (25, v), .inl (.int dr), .inr (36, v), .inr (38, v), .inr (40, v)]))) (P_aga : zAL h 40 v cap3 (zNm Ag))
    (k1 : ∀ h' : xH, zAL h' 40 v cap3 ([]) → (∀ za zb : Nat, ¬ ((40 ≤ za ∧ za < 40 + 2 ∧ zb % 8 = v % 8)) → h' (za, zb) = h (za, zb)) → zX (d + 1) 72 9 [(0, .inr (20, v)), (1, .inr (15, 0)), (2, zi m), (3, zi 0)] [] c s h' Q) :
    zX (d + 1) 72 0 [(0, .inr (20, v)), (1, .inr (15, 0)), (2, zi m)] [] c s h Q := by
  refine zX.sn 1 (pc2 := 1) (l2 := [(0, .inr (20, v)), (1, .inr (15, 0)), (2, zi m)]) (st2 := [.inr (20, v)]) rfl ?_
  refine zX.getf ⟨rfl, rfl⟩ H_20_v rfl rfl ?_
  refine zX.call (mid2 := 158) (as := [.inr (40, v)]) (rest := []) ⟨rfl, rfl⟩ (fun _ => rfl) (zX.invA rfl P_aga rfl rfl) ⟨Nat.le_of_ble_eq_true rfl, Nat.le_of_ble_eq_true rfl⟩ ?_
  refine s_clear (by omega) (by omega) P_aga (fun h1 hv1 hF1 => ?_)
  show zX _ 72 7 [(0, .inr (20, v)), (1, .inr (15, 0)), (2, zi m)] [] c s _ _
  refine zX.sn 1 (pc2 := 8) (l2 := [(0, .inr (20, v)), (1, .inr (15, 0)), (2, zi m)]) (st2 := [zi 0]) rfl ?_
  refine zX.sn 1 (pc2 := 9) (l2 := [(3, zi 0), (0, .inr (20, v)), (1, .inr (15, 0)), (2, zi m)]) (st2 := []) rfl ?_
  refine zX.re [(0, .inr (20, v)), (1, .inr (15, 0)), (2, zi m), (3, zi 0)] [1, 2, 3, 0] [3, 0, 1, 2] rfl rfl (by decide) ?_
  exact k1 _ hv1 (fun za zb hn => ((hF1 za zb (by omega)).trans rfl))

set_option maxHeartbeats 4000000 in
theorem r_vf1e {d c s : Nat} {h : xH} {Q : xR → Nat → Nat → xH → Prop} {v sz gr : Nat} {fi : Int} {dr : Int32} {cap cap3 : Nat} {J Ag : List zE} {m : Int} {j : Nat} (hvr : zVr v fi sz gr) (hv : v < 5) (hsz : 1 ≤ sz ∧ sz ≤ 200) (hgr : gr ≤ 200) (hj : j = (zNm J).length) (hll : (zNm J).length ≤ 240) (H_20_v : h (20, v) = some (.inl (8, [zi (v : Int), zi (zbi true), zi fi, zi (sz : Int), zi (gr : Int), .inr (2, 0), .inr (21, v), .inr (23, v), .inr (25, v), .inl (.int dr), .inr (36, v), .inr (38, v), .inr (40, v)]))) (P_jr : zAL h 15 0 cap (zNm J))
    (k1 : zX (d + 1) 72 76 [(0, .inr (20, v)), (1, .inr (15, 0)), (2, zi m), (3, zi 0)] [] c s h Q) :
    zX (d + 1) 72 9 [(0, .inr (20, v)), (1, .inr (15, 0)), (2, zi m), (3, zi (j : Int))] [] c s h Q := by
  refine zX.sn 1 (pc2 := 10) (l2 := [(0, .inr (20, v)), (1, .inr (15, 0)), (2, zi m), (3, zi (j : Int))]) (st2 := [zi (j : Int)]) rfl ?_
  refine zX.sn 1 (pc2 := 11) (l2 := [(0, .inr (20, v)), (1, .inr (15, 0)), (2, zi m), (3, zi (j : Int))]) (st2 := [.inr (15, 0), zi (j : Int)]) rfl ?_
  refine zX.call (mid2 := 150) (as := [.inr (15, 0)]) (rest := [zi (j : Int)]) ⟨rfl, rfl⟩ (fun _ => rfl) (zX.invA rfl P_jr rfl rfl) ⟨Nat.le_of_ble_eq_true rfl, Nat.le_of_ble_eq_true rfl⟩ ?_
  refine s_size P_jr ?_
  show zX _ 72 14 [(0, .inr (20, v)), (1, .inr (15, 0)), (2, zi m), (3, zi (j : Int))] [zi ((zNm J).length : Int), zi (j : Int)] c s _ _
  refine zX.icmp (tgt := 74) ⟨rfl, rfl⟩ rfl (by omega) (by omega) (fun (e1 : ((zNm J).length : Int) ≤ (j : Int)) => ?_) (fun (zz : (j : Int) < ((zNm J).length : Int)) => absurd zz (by omega))
  refine zX.sn 1 (pc2 := 75) (l2 := [(0, .inr (20, v)), (1, .inr (15, 0)), (2, zi m), (3, zi (j : Int))]) (st2 := [zi 0]) rfl ?_
  refine zX.sn 1 (pc2 := 76) (l2 := [(3, zi 0), (0, .inr (20, v)), (1, .inr (15, 0)), (2, zi m)]) (st2 := []) rfl ?_
  refine zX.re [(0, .inr (20, v)), (1, .inr (15, 0)), (2, zi m), (3, zi 0)] [1, 2, 3, 0] [3, 0, 1, 2] rfl rfl (by decide) ?_
  exact k1

set_option maxHeartbeats 4000000 in
theorem r_vf1 {d c s : Nat} {h : xH} {Q : xR → Nat → Nat → xH → Prop} {v sz gr : Nat} {fi : Int} {dr : Int32} {cap cap3 : Nat} {J Ag : List zE} {e : zE} {m : Int} {j : Nat} (hvr : zVr v fi sz gr) (hv : v < 5) (hsz : 1 ≤ sz ∧ sz ≤ 200) (hgr : gr ≤ 200) (hEe : zEr e) (hkye : zeK e < 8) (htme : zeT e < 1000) (hvae : -99 ≤ zeV e ∧ zeV e ≤ 99) (hahe : -1 ≤ zeA e ∧ zeA e < 1000) (hode : zeO e < 240) (hire : 0 ≤ zbi (zeR e) ∧ zbi (zeR e) ≤ 1) (hile : 0 ≤ zbi (zeL e) ∧ zbi (zeL e) ≤ 1) (hj : j < (zNm J).length) (hAl : (zNm Ag).length ≤ 72) (hkA : zKs h Ag) (hll : (zNm J).length ≤ 240) (hx : (zNm J)[j]? = some (8, zeN e)) (H_20_v : h (20, v) = some (.inl (8, [zi (v : Int), zi (zbi true), zi fi, zi (sz : Int), zi (gr : Int), .inr (2, 0), .inr (21, v), .inr (23, v), .inr (25, v), .inl (.int dr), .inr (36, v), .inr (38, v), .inr (40, v)]))) (H_8_zeN_e : h (8, zeN e) = some (.inl (1, [zi (zeP e : Int), zi (zbi (zeR e)), zi (zbi (zeL e)), zi (zeK e : Int), zi (zeT e : Int), zi (zeV e), zi (zeO e : Int), zi (zeA e), zi (zeB e)]))) (P_jr : zAL h 15 0 cap (zNm J)) (P_aga : zAL h 40 v cap3 (zNm Ag))
    (k1 : (zLet true fi e = false) → zX (d + 7) 72 9 [(0, .inr (20, v)), (1, .inr (15, 0)), (2, zi m), (3, zi ((j : Int) + 1))] [] c s h Q)
    (k2 : (zLet true fi e = true) → (¬ zbi (zeL e) = 0) → zX (d + 7) 72 9 [(0, .inr (20, v)), (1, .inr (15, 0)), (2, zi m), (3, zi ((j : Int) + 1))] [] c s h Q)
    (k3 : (zLet true fi e = true) → (zbi (zeL e) = 0) → (zeA e ≤ ((zeT e : Int) + (gr : Int))) → ∀ cq3 : Nat, ∀ c3 : Nat, ∀ s3 : Nat, (cap3 ≤ cq3 ∧ c3 + cap3 ≤ c + cq3 ∧ s3 + 4 * cap3 ≤ s + 4 * cq3) → ∀ h' : xH, zAL h' 40 v cq3 ((zNm Ag) ++ [(8, zeN e)]) → (∀ za zb : Nat, ¬ ((40 ≤ za ∧ za < 40 + 2 ∧ zb % 8 = v % 8)) → h' (za, zb) = h (za, zb)) → zX (d + 7) 72 9 [(0, .inr (20, v)), (1, .inr (15, 0)), (2, zi m), (3, zi ((j : Int) + 1))] [] c3 s3 h' Q)
    (k4 : (zLet true fi e = true) → (zbi (zeL e) = 0) → (((zeT e : Int) + (gr : Int)) < zeA e) → zX (d + 7) 72 9 [(0, .inr (20, v)), (1, .inr (15, 0)), (2, zi m), (3, zi ((j : Int) + 1))] [] c s h Q) :
    zX (d + 7) 72 9 [(0, .inr (20, v)), (1, .inr (15, 0)), (2, zi m), (3, zi (j : Int))] [] c s h Q := by
  refine zX.sn 1 (pc2 := 10) (l2 := [(0, .inr (20, v)), (1, .inr (15, 0)), (2, zi m), (3, zi (j : Int))]) (st2 := [zi (j : Int)]) rfl ?_
  refine zX.sn 1 (pc2 := 11) (l2 := [(0, .inr (20, v)), (1, .inr (15, 0)), (2, zi m), (3, zi (j : Int))]) (st2 := [.inr (15, 0), zi (j : Int)]) rfl ?_
  refine zX.call (mid2 := 150) (as := [.inr (15, 0)]) (rest := [zi (j : Int)]) ⟨rfl, rfl⟩ (fun _ => rfl) (zX.invA rfl P_jr rfl rfl) ⟨Nat.le_of_ble_eq_true rfl, Nat.le_of_ble_eq_true rfl⟩ ?_
  refine s_size P_jr ?_
  show zX _ 72 14 [(0, .inr (20, v)), (1, .inr (15, 0)), (2, zi m), (3, zi (j : Int))] [zi ((zNm J).length : Int), zi (j : Int)] c s _ _
  refine zX.icmp (tgt := 74) ⟨rfl, rfl⟩ rfl (by omega) (by omega) (fun (zz : ((zNm J).length : Int) ≤ (j : Int)) => absurd zz (by omega)) (fun (e1 : (j : Int) < ((zNm J).length : Int)) => ?_)
  refine zX.sn 1 (pc2 := 18) (l2 := [(0, .inr (20, v)), (1, .inr (15, 0)), (2, zi m), (3, zi (j : Int))]) (st2 := [.inr (15, 0)]) rfl ?_
  refine zX.sn 1 (pc2 := 19) (l2 := [(0, .inr (20, v)), (1, .inr (15, 0)), (2, zi m), (3, zi (j : Int))]) (st2 := [zi (j : Int), .inr (15, 0)]) rfl ?_
  refine zX.call (mid2 := 153) (as := [.inr (15, 0), zi (j : Int)]) (rest := []) ⟨rfl, rfl⟩ (fun _ => rfl) (zX.invA rfl P_jr rfl rfl) ⟨Nat.le_of_ble_eq_true rfl, Nat.le_of_ble_eq_true rfl⟩ ?_
  refine s_get (j := j) (x := (8, zeN e)) rfl (by omega) P_jr hx ?_
  show zX _ 72 22 [(0, .inr (20, v)), (1, .inr (15, 0)), (2, zi m), (3, zi (j : Int))] [.inr (8, zeN e)] c s _ _
  refine zX.cast ⟨rfl, rfl⟩ H_8_zeN_e rfl ?_
  refine zX.sn 1 (pc2 := 27) (l2 := [(4, .inr (8, zeN e)), (0, .inr (20, v)), (1, .inr (15, 0)), (2, zi m), (3, zi (j : Int))]) (st2 := []) rfl ?_
  refine zX.sn 1 (pc2 := 28) (l2 := [(4, .inr (8, zeN e)), (0, .inr (20, v)), (1, .inr (15, 0)), (2, zi m), (3, zi (j : Int))]) (st2 := [.inr (20, v)]) rfl ?_
  refine zX.sn 1 (pc2 := 30) (l2 := [(4, .inr (8, zeN e)), (0, .inr (20, v)), (1, .inr (15, 0)), (2, zi m), (3, zi (j : Int))]) (st2 := [.inr (8, zeN e), .inr (20, v)]) rfl ?_
  refine zX.call (mid2 := 75) (as := [.inr (20, v), .inr (8, zeN e)]) (rest := []) ⟨rfl, rfl⟩ (fun _ => rfl) (zX.inv rfl H_20_v rfl rfl) ⟨Nat.le_of_ble_eq_true rfl, Nat.le_of_ble_eq_true rfl⟩ ?_
  refine s_lets (ci := 8) (bs := true) hvr (by omega) hEe (show zVo _ 8 v true fi sz gr _ _ from H_20_v) (show zEn _ e from H_8_zeN_e)  (fun (e2 : zLet true fi e = false) => ?_) (fun (e2 : zLet true fi e = true) => ?_)
  · show zX _ 72 33 [(4, .inr (8, zeN e)), (0, .inr (20, v)), (1, .inr (15, 0)), (2, zi m), (3, zi (j : Int))] [zi 0] c s _ _
    refine zX.icmp0 (tgt := 68) ⟨rfl, rfl⟩ rfl (by omega) (fun (e3 : 0 = 0) => ?_) (fun (zz : ¬ 0 = 0) => absurd zz (by omega))
    refine zX.s1 (pc2 := 71) (l2 := [(3, zi ((j : Int) + 1)), (4, .inr (8, zeN e)), (0, .inr (20, v)), (1, .inr (15, 0)), (2, zi m)]) (st2 := []) ⟨rfl, rfl⟩ (by rw [show (zi ((j : Int) + 1) : xV) = .inl (.int (Int32.ofInt (j : Int) + 1)) from congrArg (fun z => (.inl (.int z) : xV)) (Int32.ofInt_add _ _)]; rfl) ?_
    refine zX.sn 1 (pc2 := 9) (l2 := [(3, zi ((j : Int) + 1)), (4, .inr (8, zeN e)), (0, .inr (20, v)), (1, .inr (15, 0)), (2, zi m)]) (st2 := []) rfl ?_
    refine zX.re [(0, .inr (20, v)), (1, .inr (15, 0)), (2, zi m), (3, zi ((j : Int) + 1))] [2, 3, 4, 0] [3, 4, 0, 1, 2] rfl rfl (by decide) ?_
    exact k1 e2
  · show zX _ 72 33 [(4, .inr (8, zeN e)), (0, .inr (20, v)), (1, .inr (15, 0)), (2, zi m), (3, zi (j : Int))] [zi 1] c s _ _
    refine zX.icmp0 (tgt := 68) ⟨rfl, rfl⟩ rfl (by omega) (fun (zz : 1 = 0) => absurd zz (by omega)) (fun (e4 : ¬ 1 = 0) => ?_)
    refine zX.sn 1 (pc2 := 38) (l2 := [(4, .inr (8, zeN e)), (0, .inr (20, v)), (1, .inr (15, 0)), (2, zi m), (3, zi (j : Int))]) (st2 := [.inr (8, zeN e)]) rfl ?_
    refine zX.getf ⟨rfl, rfl⟩ H_8_zeN_e rfl rfl ?_
    refine zX.icmp0 (tgt := 68) ⟨rfl, rfl⟩ rfl (by omega) (fun (e5 : ¬ zbi (zeL e) = 0) => ?_) (fun (e5 : zbi (zeL e) = 0) => ?_)
    · refine zX.s1 (pc2 := 71) (l2 := [(3, zi ((j : Int) + 1)), (4, .inr (8, zeN e)), (0, .inr (20, v)), (1, .inr (15, 0)), (2, zi m)]) (st2 := []) ⟨rfl, rfl⟩ (by rw [show (zi ((j : Int) + 1) : xV) = .inl (.int (Int32.ofInt (j : Int) + 1)) from congrArg (fun z => (.inl (.int z) : xV)) (Int32.ofInt_add _ _)]; rfl) ?_
      refine zX.sn 1 (pc2 := 9) (l2 := [(3, zi ((j : Int) + 1)), (4, .inr (8, zeN e)), (0, .inr (20, v)), (1, .inr (15, 0)), (2, zi m)]) (st2 := []) rfl ?_
      refine zX.re [(0, .inr (20, v)), (1, .inr (15, 0)), (2, zi m), (3, zi ((j : Int) + 1))] [2, 3, 4, 0] [3, 4, 0, 1, 2] rfl rfl (by decide) ?_
      exact k2 e2 e5
    · refine zX.sn 1 (pc2 := 45) (l2 := [(4, .inr (8, zeN e)), (0, .inr (20, v)), (1, .inr (15, 0)), (2, zi m), (3, zi (j : Int))]) (st2 := [.inr (20, v)]) rfl ?_
      refine zX.sn 1 (pc2 := 47) (l2 := [(4, .inr (8, zeN e)), (0, .inr (20, v)), (1, .inr (15, 0)), (2, zi m), (3, zi (j : Int))]) (st2 := [.inr (8, zeN e), .inr (20, v)]) rfl ?_
      refine zX.sn 1 (pc2 := 49) (l2 := [(4, .inr (8, zeN e)), (0, .inr (20, v)), (1, .inr (15, 0)), (2, zi m), (3, zi (j : Int))]) (st2 := [.inr (8, zeN e), .inr (8, zeN e), .inr (20, v)]) rfl ?_
      refine zX.getf ⟨rfl, rfl⟩ H_8_zeN_e rfl rfl ?_
      refine zX.call (mid2 := 61) (as := [.inr (20, v), .inr (8, zeN e), zi (zeA e)]) (rest := []) ⟨rfl, rfl⟩ (fun _ => rfl) (zX.inv rfl H_20_v rfl rfl) ⟨Nat.le_of_ble_eq_true rfl, Nat.le_of_ble_eq_true rfl⟩ ?_
      show zX _ 61 0 [(0, .inr (20, v)), (1, .inr (8, zeN e)), (2, zi (zeA e))] [] c s _ _
      refine zX.sn 1 (pc2 := 1) (l2 := [(0, .inr (20, v)), (1, .inr (8, zeN e)), (2, zi (zeA e))]) (st2 := [zi (zeA e)]) rfl ?_
      refine zX.sn 1 (pc2 := 2) (l2 := [(0, .inr (20, v)), (1, .inr (8, zeN e)), (2, zi (zeA e))]) (st2 := [.inr (8, zeN e), zi (zeA e)]) rfl ?_
      refine zX.getf ⟨rfl, rfl⟩ H_8_zeN_e rfl rfl ?_
      refine zX.sn 1 (pc2 := 6) (l2 := [(0, .inr (20, v)), (1, .inr (8, zeN e)), (2, zi (zeA e))]) (st2 := [.inr (20, v), zi (zeT e : Int), zi (zeA e)]) rfl ?_
      refine zX.getf ⟨rfl, rfl⟩ H_20_v rfl rfl ?_
      refine zX.iadd ⟨rfl, rfl⟩ ?_
      refine zX.icmp (tgt := 17) ⟨rfl, rfl⟩ rfl (by omega) (by omega) (fun (e6 : zeA e ≤ ((zeT e : Int) + (gr : Int))) => ?_) (fun (e6 : ((zeT e : Int) + (gr : Int)) < zeA e) => ?_)
      · refine zX.sn 1 (pc2 := 18) (l2 := [(0, .inr (20, v)), (1, .inr (8, zeN e)), (2, zi (zeA e))]) (st2 := [zi 0]) rfl ?_
        refine zX.ret rfl (zret_z rfl (by decide)) ?_
        show zX _ 72 55 [(4, .inr (8, zeN e)), (0, .inr (20, v)), (1, .inr (15, 0)), (2, zi m), (3, zi (j : Int))] [zi 0] c s _ _
        refine zX.icmp0 (tgt := 68) ⟨rfl, rfl⟩ rfl (by omega) (fun (zz : ¬ 0 = 0) => absurd zz (by omega)) (fun (e7 : 0 = 0) => ?_)
        refine zX.sn 1 (pc2 := 59) (l2 := [(4, .inr (8, zeN e)), (0, .inr (20, v)), (1, .inr (15, 0)), (2, zi m), (3, zi (j : Int))]) (st2 := [.inr (20, v)]) rfl ?_
        refine zX.getf ⟨rfl, rfl⟩ H_20_v rfl rfl ?_
        refine zX.sn 1 (pc2 := 64) (l2 := [(4, .inr (8, zeN e)), (0, .inr (20, v)), (1, .inr (15, 0)), (2, zi m), (3, zi (j : Int))]) (st2 := [.inr (8, zeN e), .inr (40, v)]) rfl ?_
        refine zX.call (mid2 := 155) (as := [.inr (40, v), .inr (8, zeN e)]) (rest := []) ⟨rfl, rfl⟩ (fun _ => rfl) (zX.invA rfl P_aga rfl rfl) ⟨Nat.le_of_ble_eq_true rfl, Nat.le_of_ble_eq_true rfl⟩ ?_
        refine s_add (x := (8, zeN e)) (by omega) (by omega) P_aga (by first | assumption | omega) (zKs.el hkA (by omega)) (by first | omega | (dsimp only; omega)) H_8_zeN_e rfl  (fun h3 cq3 c3 s3 hv3 hF3 hb3 => ?_)
        show zX _ 72 67 [(4, .inr (8, zeN e)), (0, .inr (20, v)), (1, .inr (15, 0)), (2, zi m), (3, zi (j : Int))] [zi 1] c3 s3 _ _
        refine zX.sn 1 (pc2 := 68) (l2 := [(4, .inr (8, zeN e)), (0, .inr (20, v)), (1, .inr (15, 0)), (2, zi m), (3, zi (j : Int))]) (st2 := []) rfl ?_
        refine zX.s1 (pc2 := 71) (l2 := [(3, zi ((j : Int) + 1)), (4, .inr (8, zeN e)), (0, .inr (20, v)), (1, .inr (15, 0)), (2, zi m)]) (st2 := []) ⟨rfl, rfl⟩ (by rw [show (zi ((j : Int) + 1) : xV) = .inl (.int (Int32.ofInt (j : Int) + 1)) from congrArg (fun z => (.inl (.int z) : xV)) (Int32.ofInt_add _ _)]; rfl) ?_
        refine zX.sn 1 (pc2 := 9) (l2 := [(3, zi ((j : Int) + 1)), (4, .inr (8, zeN e)), (0, .inr (20, v)), (1, .inr (15, 0)), (2, zi m)]) (st2 := []) rfl ?_
        refine zX.re [(0, .inr (20, v)), (1, .inr (15, 0)), (2, zi m), (3, zi ((j : Int) + 1))] [2, 3, 4, 0] [3, 4, 0, 1, 2] rfl rfl (by decide) ?_
        exact k3 e2 e5 e6 cq3 c3 s3 hb3 _ hv3 (fun za zb hn => ((hF3 za zb (by omega)).trans rfl))
      · refine zX.sn 1 (pc2 := 14) (l2 := [(0, .inr (20, v)), (1, .inr (8, zeN e)), (2, zi (zeA e))]) (st2 := [zi 1]) rfl ?_
        refine zX.sn 1 (pc2 := 18) (l2 := [(0, .inr (20, v)), (1, .inr (8, zeN e)), (2, zi (zeA e))]) (st2 := [zi 1]) rfl ?_
        refine zX.ret rfl (zret_z rfl (by decide)) ?_
        show zX _ 72 55 [(4, .inr (8, zeN e)), (0, .inr (20, v)), (1, .inr (15, 0)), (2, zi m), (3, zi (j : Int))] [zi 1] c s _ _
        refine zX.icmp0 (tgt := 68) ⟨rfl, rfl⟩ rfl (by omega) (fun (e8 : ¬ 1 = 0) => ?_) (fun (zz : 1 = 0) => absurd zz (by omega))
        refine zX.s1 (pc2 := 71) (l2 := [(3, zi ((j : Int) + 1)), (4, .inr (8, zeN e)), (0, .inr (20, v)), (1, .inr (15, 0)), (2, zi m)]) (st2 := []) ⟨rfl, rfl⟩ (by rw [show (zi ((j : Int) + 1) : xV) = .inl (.int (Int32.ofInt (j : Int) + 1)) from congrArg (fun z => (.inl (.int z) : xV)) (Int32.ofInt_add _ _)]; rfl) ?_
        refine zX.sn 1 (pc2 := 9) (l2 := [(3, zi ((j : Int) + 1)), (4, .inr (8, zeN e)), (0, .inr (20, v)), (1, .inr (15, 0)), (2, zi m)]) (st2 := []) rfl ?_
        refine zX.re [(0, .inr (20, v)), (1, .inr (15, 0)), (2, zi m), (3, zi ((j : Int) + 1))] [2, 3, 4, 0] [3, 4, 0, 1, 2] rfl rfl (by decide) ?_
        exact k4 e2 e5 e6

set_option maxHeartbeats 4000000 in
theorem r_vf2e {d c s : Nat} {h : xH} {Q : xR → Nat → Nat → xH → Prop} {v sz gr : Nat} {fi : Int} {dr : Int32} {cap cap3 : Nat} {J Ag : List zE} {m : Int} {j : Nat} (hvr : zVr v fi sz gr) (hv : v < 5) (hsz : 1 ≤ sz ∧ sz ≤ 200) (hgr : gr ≤ 200) (hj : j = (zNm J).length) (hll : (zNm J).length ≤ 240) (H_20_v : h (20, v) = some (.inl (8, [zi (v : Int), zi (zbi true), zi fi, zi (sz : Int), zi (gr : Int), .inr (2, 0), .inr (21, v), .inr (23, v), .inr (25, v), .inl (.int dr), .inr (36, v), .inr (38, v), .inr (40, v)]))) (P_jr : zAL h 15 0 cap (zNm J))
    (k1 : Q (.inl none) c s h) :
    zX (d + 1) 72 76 [(0, .inr (20, v)), (1, .inr (15, 0)), (2, zi m), (3, zi (j : Int))] [] c s h Q := by
  refine zX.sn 1 (pc2 := 77) (l2 := [(0, .inr (20, v)), (1, .inr (15, 0)), (2, zi m), (3, zi (j : Int))]) (st2 := [zi (j : Int)]) rfl ?_
  refine zX.sn 1 (pc2 := 78) (l2 := [(0, .inr (20, v)), (1, .inr (15, 0)), (2, zi m), (3, zi (j : Int))]) (st2 := [.inr (15, 0), zi (j : Int)]) rfl ?_
  refine zX.call (mid2 := 150) (as := [.inr (15, 0)]) (rest := [zi (j : Int)]) ⟨rfl, rfl⟩ (fun _ => rfl) (zX.invA rfl P_jr rfl rfl) ⟨Nat.le_of_ble_eq_true rfl, Nat.le_of_ble_eq_true rfl⟩ ?_
  refine s_size P_jr ?_
  show zX _ 72 81 [(0, .inr (20, v)), (1, .inr (15, 0)), (2, zi m), (3, zi (j : Int))] [zi ((zNm J).length : Int), zi (j : Int)] c s _ _
  refine zX.icmp (tgt := 162) ⟨rfl, rfl⟩ rfl (by omega) (by omega) (fun (e1 : ((zNm J).length : Int) ≤ (j : Int)) => ?_) (fun (zz : (j : Int) < ((zNm J).length : Int)) => absurd zz (by omega))
  refine zX.ret rfl rfl ?_
  exact k1

set_option maxHeartbeats 4000000 in
theorem r_vf2 {d c s : Nat} {h : xH} {Q : xR → Nat → Nat → xH → Prop} {v sz gr : Nat} {fi : Int} {dr : Int32} {cap cap3 : Nat} {J Ag : List zE} {e : zE} {m : Int} {j : Nat} {fb : Nat → Int64} (hvr : zVr v fi sz gr) (hv : v < 5) (hsz : 1 ≤ sz ∧ sz ≤ 200) (hgr : gr ≤ 200) (hEe : zEr e) (hkye : zeK e < 8) (htme : zeT e < 1000) (hvae : -99 ≤ zeV e ∧ zeV e ≤ 99) (hahe : -1 ≤ zeA e ∧ zeA e < 1000) (hode : zeO e < 240) (hire : 0 ≤ zbi (zeR e) ∧ zbi (zeR e) ≤ 1) (hile : 0 ≤ zbi (zeL e) ∧ zbi (zeL e) ≤ 1) (hm : -1 ≤ m ∧ m < 1000) (hj : j < (zNm J).length) (hKl : Ag.length ≤ 240) (hkA : zKs h Ag) (hll : (zNm J).length ≤ 240) (hx : (zNm J)[j]? = some (8, zeN e)) (H_20_v : h (20, v) = some (.inl (8, [zi (v : Int), zi (zbi true), zi fi, zi (sz : Int), zi (gr : Int), .inr (2, 0), .inr (21, v), .inr (23, v), .inr (25, v), .inl (.int dr), .inr (36, v), .inr (38, v), .inr (40, v)]))) (H_8_zeN_e : h (8, zeN e) = some (.inl (1, [zi (zeP e : Int), zi (zbi (zeR e)), zi (zbi (zeL e)), zi (zeK e : Int), zi (zeT e : Int), zi (zeV e), zi (zeO e : Int), zi (zeA e), zi (zeB e)]))) (P_jr : zAL h 15 0 cap (zNm J)) (P_aga : zAL h 40 v cap3 (zNm Ag)) (P_found : zRes h 23 v 240 fb)
    (k1 : (zLet true fi e = false) → zX (d + 5) 72 76 [(0, .inr (20, v)), (1, .inr (15, 0)), (2, zi m), (3, zi ((j : Int) + 1))] [] c s h Q)
    (k2 : (zLet true fi e = true) → (zbi (zeL e) = 0) → zX (d + 5) 72 76 [(0, .inr (20, v)), (1, .inr (15, 0)), (2, zi m), (3, zi ((j : Int) + 1))] [] c s h Q)
    (k3 : (zLet true fi e = true) → (¬ zbi (zeL e) = 0) → (zeA e ≤ ((zeT e : Int) + (gr : Int))) → (m ≤ (zeT e : Int)) → zX (d + 5) 72 76 [(0, .inr (20, v)), (1, .inr (15, 0)), (2, zi m), (3, zi ((j : Int) + 1))] [] c s h Q)
    (k4 : (zLet true fi e = true) → (¬ zbi (zeL e) = 0) → (zeA e ≤ ((zeT e : Int) + (gr : Int))) → ((zeT e : Int) < m) → ∀ h' : xH, zRes h' 23 v 240 (zfi fb (zeO e) (zvRes v Ag e)) → (∀ za zb : Nat, ¬ ((23 ≤ za ∧ za < 23 + 2 ∧ zb = v)) → h' (za, zb) = h (za, zb)) → zX (d + 5) 72 76 [(0, .inr (20, v)), (1, .inr (15, 0)), (2, zi m), (3, zi ((j : Int) + 1))] [] c s h' Q)
    (k5 : (zLet true fi e = true) → (¬ zbi (zeL e) = 0) → (((zeT e : Int) + (gr : Int)) < zeA e) → zX (d + 5) 72 76 [(0, .inr (20, v)), (1, .inr (15, 0)), (2, zi m), (3, zi ((j : Int) + 1))] [] c s h Q) :
    zX (d + 5) 72 76 [(0, .inr (20, v)), (1, .inr (15, 0)), (2, zi m), (3, zi (j : Int))] [] c s h Q := by
  refine zX.sn 1 (pc2 := 77) (l2 := [(0, .inr (20, v)), (1, .inr (15, 0)), (2, zi m), (3, zi (j : Int))]) (st2 := [zi (j : Int)]) rfl ?_
  refine zX.sn 1 (pc2 := 78) (l2 := [(0, .inr (20, v)), (1, .inr (15, 0)), (2, zi m), (3, zi (j : Int))]) (st2 := [.inr (15, 0), zi (j : Int)]) rfl ?_
  refine zX.call (mid2 := 150) (as := [.inr (15, 0)]) (rest := [zi (j : Int)]) ⟨rfl, rfl⟩ (fun _ => rfl) (zX.invA rfl P_jr rfl rfl) ⟨Nat.le_of_ble_eq_true rfl, Nat.le_of_ble_eq_true rfl⟩ ?_
  refine s_size P_jr ?_
  show zX _ 72 81 [(0, .inr (20, v)), (1, .inr (15, 0)), (2, zi m), (3, zi (j : Int))] [zi ((zNm J).length : Int), zi (j : Int)] c s _ _
  refine zX.icmp (tgt := 162) ⟨rfl, rfl⟩ rfl (by omega) (by omega) (fun (zz : ((zNm J).length : Int) ≤ (j : Int)) => absurd zz (by omega)) (fun (e1 : (j : Int) < ((zNm J).length : Int)) => ?_)
  refine zX.sn 1 (pc2 := 85) (l2 := [(0, .inr (20, v)), (1, .inr (15, 0)), (2, zi m), (3, zi (j : Int))]) (st2 := [.inr (15, 0)]) rfl ?_
  refine zX.sn 1 (pc2 := 86) (l2 := [(0, .inr (20, v)), (1, .inr (15, 0)), (2, zi m), (3, zi (j : Int))]) (st2 := [zi (j : Int), .inr (15, 0)]) rfl ?_
  refine zX.call (mid2 := 153) (as := [.inr (15, 0), zi (j : Int)]) (rest := []) ⟨rfl, rfl⟩ (fun _ => rfl) (zX.invA rfl P_jr rfl rfl) ⟨Nat.le_of_ble_eq_true rfl, Nat.le_of_ble_eq_true rfl⟩ ?_
  refine s_get (j := j) (x := (8, zeN e)) rfl (by omega) P_jr hx ?_
  show zX _ 72 89 [(0, .inr (20, v)), (1, .inr (15, 0)), (2, zi m), (3, zi (j : Int))] [.inr (8, zeN e)] c s _ _
  refine zX.cast ⟨rfl, rfl⟩ H_8_zeN_e rfl ?_
  refine zX.sn 1 (pc2 := 94) (l2 := [(4, .inr (8, zeN e)), (0, .inr (20, v)), (1, .inr (15, 0)), (2, zi m), (3, zi (j : Int))]) (st2 := []) rfl ?_
  refine zX.sn 1 (pc2 := 95) (l2 := [(4, .inr (8, zeN e)), (0, .inr (20, v)), (1, .inr (15, 0)), (2, zi m), (3, zi (j : Int))]) (st2 := [.inr (20, v)]) rfl ?_
  refine zX.sn 1 (pc2 := 97) (l2 := [(4, .inr (8, zeN e)), (0, .inr (20, v)), (1, .inr (15, 0)), (2, zi m), (3, zi (j : Int))]) (st2 := [.inr (8, zeN e), .inr (20, v)]) rfl ?_
  refine zX.call (mid2 := 75) (as := [.inr (20, v), .inr (8, zeN e)]) (rest := []) ⟨rfl, rfl⟩ (fun _ => rfl) (zX.inv rfl H_20_v rfl rfl) ⟨Nat.le_of_ble_eq_true rfl, Nat.le_of_ble_eq_true rfl⟩ ?_
  refine s_lets (ci := 8) (bs := true) hvr (by omega) hEe (show zVo _ 8 v true fi sz gr _ _ from H_20_v) (show zEn _ e from H_8_zeN_e)  (fun (e2 : zLet true fi e = false) => ?_) (fun (e2 : zLet true fi e = true) => ?_)
  · show zX _ 72 100 [(4, .inr (8, zeN e)), (0, .inr (20, v)), (1, .inr (15, 0)), (2, zi m), (3, zi (j : Int))] [zi 0] c s _ _
    refine zX.icmp0 (tgt := 156) ⟨rfl, rfl⟩ rfl (by omega) (fun (e3 : 0 = 0) => ?_) (fun (zz : ¬ 0 = 0) => absurd zz (by omega))
    refine zX.s1 (pc2 := 159) (l2 := [(3, zi ((j : Int) + 1)), (4, .inr (8, zeN e)), (0, .inr (20, v)), (1, .inr (15, 0)), (2, zi m)]) (st2 := []) ⟨rfl, rfl⟩ (by rw [show (zi ((j : Int) + 1) : xV) = .inl (.int (Int32.ofInt (j : Int) + 1)) from congrArg (fun z => (.inl (.int z) : xV)) (Int32.ofInt_add _ _)]; rfl) ?_
    refine zX.sn 1 (pc2 := 76) (l2 := [(3, zi ((j : Int) + 1)), (4, .inr (8, zeN e)), (0, .inr (20, v)), (1, .inr (15, 0)), (2, zi m)]) (st2 := []) rfl ?_
    refine zX.re [(0, .inr (20, v)), (1, .inr (15, 0)), (2, zi m), (3, zi ((j : Int) + 1))] [2, 3, 4, 0] [3, 4, 0, 1, 2] rfl rfl (by decide) ?_
    exact k1 e2
  · show zX _ 72 100 [(4, .inr (8, zeN e)), (0, .inr (20, v)), (1, .inr (15, 0)), (2, zi m), (3, zi (j : Int))] [zi 1] c s _ _
    refine zX.icmp0 (tgt := 156) ⟨rfl, rfl⟩ rfl (by omega) (fun (zz : 1 = 0) => absurd zz (by omega)) (fun (e4 : ¬ 1 = 0) => ?_)
    refine zX.sn 1 (pc2 := 105) (l2 := [(4, .inr (8, zeN e)), (0, .inr (20, v)), (1, .inr (15, 0)), (2, zi m), (3, zi (j : Int))]) (st2 := [.inr (8, zeN e)]) rfl ?_
    refine zX.getf ⟨rfl, rfl⟩ H_8_zeN_e rfl rfl ?_
    refine zX.icmp0 (tgt := 156) ⟨rfl, rfl⟩ rfl (by omega) (fun (e5 : zbi (zeL e) = 0) => ?_) (fun (e5 : ¬ zbi (zeL e) = 0) => ?_)
    · refine zX.s1 (pc2 := 159) (l2 := [(3, zi ((j : Int) + 1)), (4, .inr (8, zeN e)), (0, .inr (20, v)), (1, .inr (15, 0)), (2, zi m)]) (st2 := []) ⟨rfl, rfl⟩ (by rw [show (zi ((j : Int) + 1) : xV) = .inl (.int (Int32.ofInt (j : Int) + 1)) from congrArg (fun z => (.inl (.int z) : xV)) (Int32.ofInt_add _ _)]; rfl) ?_
      refine zX.sn 1 (pc2 := 76) (l2 := [(3, zi ((j : Int) + 1)), (4, .inr (8, zeN e)), (0, .inr (20, v)), (1, .inr (15, 0)), (2, zi m)]) (st2 := []) rfl ?_
      refine zX.re [(0, .inr (20, v)), (1, .inr (15, 0)), (2, zi m), (3, zi ((j : Int) + 1))] [2, 3, 4, 0] [3, 4, 0, 1, 2] rfl rfl (by decide) ?_
      exact k2 e2 e5
    · refine zX.sn 1 (pc2 := 112) (l2 := [(4, .inr (8, zeN e)), (0, .inr (20, v)), (1, .inr (15, 0)), (2, zi m), (3, zi (j : Int))]) (st2 := [.inr (20, v)]) rfl ?_
      refine zX.sn 1 (pc2 := 114) (l2 := [(4, .inr (8, zeN e)), (0, .inr (20, v)), (1, .inr (15, 0)), (2, zi m), (3, zi (j : Int))]) (st2 := [.inr (8, zeN e), .inr (20, v)]) rfl ?_
      refine zX.sn 1 (pc2 := 116) (l2 := [(4, .inr (8, zeN e)), (0, .inr (20, v)), (1, .inr (15, 0)), (2, zi m), (3, zi (j : Int))]) (st2 := [.inr (8, zeN e), .inr (8, zeN e), .inr (20, v)]) rfl ?_
      refine zX.getf ⟨rfl, rfl⟩ H_8_zeN_e rfl rfl ?_
      refine zX.call (mid2 := 61) (as := [.inr (20, v), .inr (8, zeN e), zi (zeA e)]) (rest := []) ⟨rfl, rfl⟩ (fun _ => rfl) (zX.inv rfl H_20_v rfl rfl) ⟨Nat.le_of_ble_eq_true rfl, Nat.le_of_ble_eq_true rfl⟩ ?_
      show zX _ 61 0 [(0, .inr (20, v)), (1, .inr (8, zeN e)), (2, zi (zeA e))] [] c s _ _
      refine zX.sn 1 (pc2 := 1) (l2 := [(0, .inr (20, v)), (1, .inr (8, zeN e)), (2, zi (zeA e))]) (st2 := [zi (zeA e)]) rfl ?_
      refine zX.sn 1 (pc2 := 2) (l2 := [(0, .inr (20, v)), (1, .inr (8, zeN e)), (2, zi (zeA e))]) (st2 := [.inr (8, zeN e), zi (zeA e)]) rfl ?_
      refine zX.getf ⟨rfl, rfl⟩ H_8_zeN_e rfl rfl ?_
      refine zX.sn 1 (pc2 := 6) (l2 := [(0, .inr (20, v)), (1, .inr (8, zeN e)), (2, zi (zeA e))]) (st2 := [.inr (20, v), zi (zeT e : Int), zi (zeA e)]) rfl ?_
      refine zX.getf ⟨rfl, rfl⟩ H_20_v rfl rfl ?_
      refine zX.iadd ⟨rfl, rfl⟩ ?_
      refine zX.icmp (tgt := 17) ⟨rfl, rfl⟩ rfl (by omega) (by omega) (fun (e6 : zeA e ≤ ((zeT e : Int) + (gr : Int))) => ?_) (fun (e6 : ((zeT e : Int) + (gr : Int)) < zeA e) => ?_)
      · refine zX.sn 1 (pc2 := 18) (l2 := [(0, .inr (20, v)), (1, .inr (8, zeN e)), (2, zi (zeA e))]) (st2 := [zi 0]) rfl ?_
        refine zX.ret rfl (zret_z rfl (by decide)) ?_
        show zX _ 72 122 [(4, .inr (8, zeN e)), (0, .inr (20, v)), (1, .inr (15, 0)), (2, zi m), (3, zi (j : Int))] [zi 0] c s _ _
        refine zX.icmp0 (tgt := 156) ⟨rfl, rfl⟩ rfl (by omega) (fun (zz : ¬ 0 = 0) => absurd zz (by omega)) (fun (e7 : 0 = 0) => ?_)
        refine zX.sn 1 (pc2 := 126) (l2 := [(4, .inr (8, zeN e)), (0, .inr (20, v)), (1, .inr (15, 0)), (2, zi m), (3, zi (j : Int))]) (st2 := [zi m]) rfl ?_
        refine zX.sn 1 (pc2 := 128) (l2 := [(4, .inr (8, zeN e)), (0, .inr (20, v)), (1, .inr (15, 0)), (2, zi m), (3, zi (j : Int))]) (st2 := [.inr (8, zeN e), zi m]) rfl ?_
        refine zX.getf ⟨rfl, rfl⟩ H_8_zeN_e rfl rfl ?_
        refine zX.icmp (tgt := 156) ⟨rfl, rfl⟩ rfl (by omega) (by omega) (fun (e8 : m ≤ (zeT e : Int)) => ?_) (fun (e8 : (zeT e : Int) < m) => ?_)
        · refine zX.s1 (pc2 := 159) (l2 := [(3, zi ((j : Int) + 1)), (4, .inr (8, zeN e)), (0, .inr (20, v)), (1, .inr (15, 0)), (2, zi m)]) (st2 := []) ⟨rfl, rfl⟩ (by rw [show (zi ((j : Int) + 1) : xV) = .inl (.int (Int32.ofInt (j : Int) + 1)) from congrArg (fun z => (.inl (.int z) : xV)) (Int32.ofInt_add _ _)]; rfl) ?_
          refine zX.sn 1 (pc2 := 76) (l2 := [(3, zi ((j : Int) + 1)), (4, .inr (8, zeN e)), (0, .inr (20, v)), (1, .inr (15, 0)), (2, zi m)]) (st2 := []) rfl ?_
          refine zX.re [(0, .inr (20, v)), (1, .inr (15, 0)), (2, zi m), (3, zi ((j : Int) + 1))] [2, 3, 4, 0] [3, 4, 0, 1, 2] rfl rfl (by decide) ?_
          exact k3 e2 e5 e6 e8
        · refine zX.sn 1 (pc2 := 135) (l2 := [(4, .inr (8, zeN e)), (0, .inr (20, v)), (1, .inr (15, 0)), (2, zi m), (3, zi (j : Int))]) (st2 := [.inr (20, v)]) rfl ?_
          refine zX.getf ⟨rfl, rfl⟩ H_20_v rfl rfl ?_
          refine zX.sn 1 (pc2 := 140) (l2 := [(4, .inr (8, zeN e)), (0, .inr (20, v)), (1, .inr (15, 0)), (2, zi m), (3, zi (j : Int))]) (st2 := [.inr (8, zeN e), .inr (23, v)]) rfl ?_
          refine zX.getf ⟨rfl, rfl⟩ H_8_zeN_e rfl rfl ?_
          refine zX.sn 1 (pc2 := 144) (l2 := [(4, .inr (8, zeN e)), (0, .inr (20, v)), (1, .inr (15, 0)), (2, zi m), (3, zi (j : Int))]) (st2 := [.inr (20, v), zi (zeO e : Int), .inr (23, v)]) rfl ?_
          refine zX.sn 1 (pc2 := 146) (l2 := [(4, .inr (8, zeN e)), (0, .inr (20, v)), (1, .inr (15, 0)), (2, zi m), (3, zi (j : Int))]) (st2 := [.inr (8, zeN e), .inr (20, v), zi (zeO e : Int), .inr (23, v)]) rfl ?_
          refine zX.sn 1 (pc2 := 147) (l2 := [(4, .inr (8, zeN e)), (0, .inr (20, v)), (1, .inr (15, 0)), (2, zi m), (3, zi (j : Int))]) (st2 := [.inr (20, v), .inr (8, zeN e), .inr (20, v), zi (zeO e : Int), .inr (23, v)]) rfl ?_
          refine zX.getf ⟨rfl, rfl⟩ H_20_v rfl rfl ?_
          refine zX.call (mid2 := 64) (as := [.inr (20, v), .inr (8, zeN e), .inr (40, v)]) (rest := [zi (zeO e : Int), .inr (23, v)]) ⟨rfl, rfl⟩ (fun _ => rfl) (zX.inv rfl H_20_v rfl rfl) ⟨Nat.le_of_ble_eq_true rfl, Nat.le_of_ble_eq_true rfl⟩ ?_
          refine s_vres (K := Ag) hvr (by omega) hKl hEe (show zEn _ e from H_8_zeN_e) (show zVo _ 8 v true fi sz gr _ [.inr (36, v), .inr (38, v), .inr (40, v)] from H_20_v) P_aga hkA  ?_
          show zX _ 72 153 [(4, .inr (8, zeN e)), (0, .inr (20, v)), (1, .inr (15, 0)), (2, zi m), (3, zi (j : Int))] [.inl (.long (zvRes v Ag e)), zi (zeO e : Int), .inr (23, v)] c s _ _
          refine zX.call (mid2 := 24) (as := [.inr (23, v), zi (zeO e : Int), .inl (.long (zvRes v Ag e))]) (rest := []) ⟨rfl, rfl⟩ (fun _ => rfl) (zX.inv rfl (P_found.1) rfl rfl) ⟨Nat.le_of_ble_eq_true rfl, Nat.le_of_ble_eq_true rfl⟩ ?_
          refine s_put (k := zeO e) rfl (by omega) (by omega) (by omega) zvRes_nz P_found (fun h4 hv4 hF4 => ?_)
          show zX _ 72 156 [(4, .inr (8, zeN e)), (0, .inr (20, v)), (1, .inr (15, 0)), (2, zi m), (3, zi (j : Int))] [] c s _ _
          refine zX.s1 (pc2 := 159) (l2 := [(3, zi ((j : Int) + 1)), (4, .inr (8, zeN e)), (0, .inr (20, v)), (1, .inr (15, 0)), (2, zi m)]) (st2 := []) ⟨rfl, rfl⟩ (by rw [show (zi ((j : Int) + 1) : xV) = .inl (.int (Int32.ofInt (j : Int) + 1)) from congrArg (fun z => (.inl (.int z) : xV)) (Int32.ofInt_add _ _)]; rfl) ?_
          refine zX.sn 1 (pc2 := 76) (l2 := [(3, zi ((j : Int) + 1)), (4, .inr (8, zeN e)), (0, .inr (20, v)), (1, .inr (15, 0)), (2, zi m)]) (st2 := []) rfl ?_
          refine zX.re [(0, .inr (20, v)), (1, .inr (15, 0)), (2, zi m), (3, zi ((j : Int) + 1))] [2, 3, 4, 0] [3, 4, 0, 1, 2] rfl rfl (by decide) ?_
          exact k4 e2 e5 e6 e8 _ hv4 (fun za zb hn => ((hF4 za zb (by omega)).trans rfl))
      · refine zX.sn 1 (pc2 := 14) (l2 := [(0, .inr (20, v)), (1, .inr (8, zeN e)), (2, zi (zeA e))]) (st2 := [zi 1]) rfl ?_
        refine zX.sn 1 (pc2 := 18) (l2 := [(0, .inr (20, v)), (1, .inr (8, zeN e)), (2, zi (zeA e))]) (st2 := [zi 1]) rfl ?_
        refine zX.ret rfl (zret_z rfl (by decide)) ?_
        show zX _ 72 122 [(4, .inr (8, zeN e)), (0, .inr (20, v)), (1, .inr (15, 0)), (2, zi m), (3, zi (j : Int))] [zi 1] c s _ _
        refine zX.icmp0 (tgt := 156) ⟨rfl, rfl⟩ rfl (by omega) (fun (e9 : ¬ 1 = 0) => ?_) (fun (zz : 1 = 0) => absurd zz (by omega))
        refine zX.s1 (pc2 := 159) (l2 := [(3, zi ((j : Int) + 1)), (4, .inr (8, zeN e)), (0, .inr (20, v)), (1, .inr (15, 0)), (2, zi m)]) (st2 := []) ⟨rfl, rfl⟩ (by rw [show (zi ((j : Int) + 1) : xV) = .inl (.int (Int32.ofInt (j : Int) + 1)) from congrArg (fun z => (.inl (.int z) : xV)) (Int32.ofInt_add _ _)]; rfl) ?_
        refine zX.sn 1 (pc2 := 76) (l2 := [(3, zi ((j : Int) + 1)), (4, .inr (8, zeN e)), (0, .inr (20, v)), (1, .inr (15, 0)), (2, zi m)]) (st2 := []) rfl ?_
        refine zX.re [(0, .inr (20, v)), (1, .inr (15, 0)), (2, zi m), (3, zi ((j : Int) + 1))] [2, 3, 4, 0] [3, 4, 0, 1, 2] rfl rfl (by decide) ?_
        exact k5 e2 e5 e6

end ZR78
