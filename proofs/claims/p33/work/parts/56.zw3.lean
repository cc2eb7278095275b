set_option maxRecDepth 100000
section ZR56
set_option maxHeartbeats 4000000 in
theorem r_fe {d c s : Nat} {h : xH} {Q : xR → Nat → Nat → xH → Prop} {v sz gr sp wi L : Nat} {fi me : Int} {dr : Int32} {t : Int} (hv : v < 5) (hsz : 1 ≤ sz ∧ sz ≤ 200) (hgr : gr ≤ 200) (hsp : 1 ≤ sp ∧ sp ≤ 200) (ht : -100000 ≤ t ∧ t ≤ 100000) (H_20_v : h (20, v) = some (.inl (9, [zi (v : Int), zi (zbi false), zi fi, zi (sz : Int), zi (gr : Int), .inr (2, 0), .inr (21, v), .inr (23, v), .inr (25, v), .inl (.int dr), zi me, zi (sp : Int), zi (wi : Int), .inr (26, v), .inr (30, v)])))
    (k1 : (t < (sz : Int)) → Q (.inl (some (zi 0))) c s h)
    (k2 : ((sz : Int) ≤ t) → Q (.inl (some (zi (((t - (sz : Int)) / (sp : Int)) + 1)))) c s h) :
    zX d 88 0 [(0, .inr (20, v)), (1, zi t)] [] c s h Q := by
  refine zX.sn 1 (pc2 := 1) (l2 := [(0, .inr (20, v)), (1, zi t)]) (st2 := [zi t]) rfl ?_
  refine zX.sn 1 (pc2 := 2) (l2 := [(0, .inr (20, v)), (1, zi t)]) (st2 := [.inr (20, v), zi t]) rfl ?_
  refine zX.getf ⟨rfl, rfl⟩ H_20_v rfl rfl ?_
  refine zX.icmp (tgt := 15) ⟨rfl, rfl⟩ rfl (by omega) (by omega) (fun (e1 : t < (sz : Int)) => ?_) (fun (e1 : (sz : Int) ≤ t) => ?_)
  · refine zX.sn 1 (pc2 := 16) (l2 := [(0, .inr (20, v)), (1, zi t)]) (st2 := [zi 0]) rfl ?_
    refine zX.sn 1 (pc2 := 32) (l2 := [(0, .inr (20, v)), (1, zi t)]) (st2 := [zi 0]) rfl ?_
    refine zX.ret rfl rfl ?_
    exact k1 e1
  · refine zX.sn 1 (pc2 := 9) (l2 := [(0, .inr (20, v)), (1, zi t)]) (st2 := [.inr (20, v)]) rfl ?_
    refine zX.getf ⟨rfl, rfl⟩ H_20_v rfl rfl ?_
    refine zX.icmp0 (tgt := 19) ⟨rfl, rfl⟩ rfl (by omega) (fun (e2 : 0 < (sp : Int)) => ?_) (fun (zz : (sp : Int) ≤ 0) => absurd zz (by omega))
    refine zX.sn 1 (pc2 := 20) (l2 := [(0, .inr (20, v)), (1, zi t)]) (st2 := [zi t]) rfl ?_
    refine zX.sn 1 (pc2 := 21) (l2 := [(0, .inr (20, v)), (1, zi t)]) (st2 := [.inr (20, v), zi t]) rfl ?_
    refine zX.getf ⟨rfl, rfl⟩ H_20_v rfl rfl ?_
    refine zX.isub ⟨rfl, rfl⟩ ?_
    refine zX.sn 1 (pc2 := 26) (l2 := [(0, .inr (20, v)), (1, zi t)]) (st2 := [.inr (20, v), zi (t - (sz : Int))]) rfl ?_
    refine zX.getf ⟨rfl, rfl⟩ H_20_v rfl rfl ?_
    refine zX.idiv ⟨rfl, rfl⟩ (by omega) (by omega) ?_
    refine zX.sn 1 (pc2 := 31) (l2 := [(0, .inr (20, v)), (1, zi t)]) (st2 := [zi 1, zi ((t - (sz : Int)) / (sp : Int))]) rfl ?_
    refine zX.iadd ⟨rfl, rfl⟩ ?_
    refine zX.ret rfl rfl ?_
    exact k2 e1

theorem s_fe {d c s v sz gr sp wi : Nat} {h : xH} {Q : xR → Nat → Nat → xH → Prop} {fi me t : Int} {dr : Int32} (hv : v < 5 ∧ gr ≤ 200 ∧ 1 ≤ sz ∧ sz ≤ 200) (hsp : 1 ≤ sp ∧ sp ≤ 200) (ht : -100000 ≤ t ∧ t ≤ 100000) (H : h (20, v) = some (.inl (9, [zi (v : Int), zi (zbi false), zi fi, zi (sz : Int), zi (gr : Int), .inr (2, 0), .inr (21, v), .inr (23, v), .inr (25, v), .inl (.int dr), zi me, zi (sp : Int), zi (wi : Int), .inr (26, v), .inr (30, v)]))) (q : Q (.inl (some (zi (zfe sz sp t : Int)))) c s h) : zX d 88 0 [(0, .inr (20, v)), (1, zi t)] [] c s h Q := by
  unfold zfe at q
  refine r_fe (L := 0) hv.1 hv.2.2 hv.2.1 hsp ht H (fun e => ?_) (fun e => ?_)
  · rw [if_pos e] at q
    exact q
  · rw [if_neg (by omega)] at q
    have h0 : 0 ≤ (t - (sz : Int)) / (sp : Int) := Int.ediv_nonneg (by omega) (by omega)
    rw [show (((t - (sz : Int)) / (sp : Int)).toNat + 1 : Nat) = (((((t - (sz : Int)) / (sp : Int)).toNat + 1 : Nat)) : Nat) from rfl] at q
    have e1 : (((((t - (sz : Int)) / (sp : Int)).toNat + 1 : Nat)) : Int) = (t - (sz : Int)) / (sp : Int) + 1 := by
      rw [Int.natCast_add, Int.toNat_of_nonneg h0]
      rfl
    rw [e1] at q
    exact q
set_option maxHeartbeats 4000000 in
theorem r_wtake0 {d c s : Nat} {h : xH} {Q : xR → Nat → Nat → xH → Prop} {v sz gr sp wi L : Nat} {fi me : Int} {dr : Int32} {e : zE} (hvr : zVr v fi sz gr) (hv : v < 5) (hsz : 1 ≤ sz ∧ sz ≤ 200) (hgr : gr ≤ 200) (hsp : 1 ≤ sp ∧ sp ≤ 200) (hL : L = wi * 8) (hwi : wi ≤ 1000) (hme : me = 99 ∨ me = 115 ∨ me = 109) (hEe : zEr e) (hkye : zeK e < 8) (htme : zeT e < 1000) (hvae : -99 ≤ zeV e ∧ zeV e ≤ 99) (hahe : -1 ≤ zeA e ∧ zeA e < 1000) (hode : zeO e < 240) (hire : 0 ≤ zbi (zeR e) ∧ zbi (zeR e) ≤ 1) (hile : 0 ≤ zbi (zeL e) ∧ zbi (zeL e) ≤ 1) (H_20_v : h (20, v) = some (.inl (9, [zi (v : Int), zi (zbi false), zi fi, zi (sz : Int), zi (gr : Int), .inr (2, 0), .inr (21, v), .inr (23, v), .inr (25, v), .inl (.int dr), zi me, zi (sp : Int), zi (wi : Int), .inr (26, v), .inr (30, v)]))) (H_8_zeN_e : h (8, zeN e) = some (.inl (1, [zi (zeP e : Int), zi (zbi (zeR e)), zi (zbi (zeL e)), zi (zeK e : Int), zi (zeT e : Int), zi (zeV e), zi (zeO e : Int), zi (zeA e), zi (zeB e)])))
    (k1 : zX (d + 1) 92 18 [(0, .inr (20, v)), (1, .inr (8, zeN e)), (2, zi ((zeT e : Int) / (sp : Int))), (3, zi (zfe sz sp (zeT e : Int) : Int))] [] c s h Q) :
    zX (d + 1) 92 0 [(0, .inr (20, v)), (1, .inr (8, zeN e))] [] c s h Q := by
  refine zX.sn 1 (pc2 := 1) (l2 := [(0, .inr (20, v)), (1, .inr (8, zeN e))]) (st2 := [.inr (20, v)]) rfl ?_
  refine zX.sn 1 (pc2 := 2) (l2 := [(0, .inr (20, v)), (1, .inr (8, zeN e))]) (st2 := [.inr (8, zeN e), .inr (20, v)]) rfl ?_
  refine zX.getf ⟨rfl, rfl⟩ H_8_zeN_e rfl rfl ?_
  refine zX.call (mid2 := 89) (as := [.inr (20, v), zi (zeT e : Int)]) (rest := []) ⟨rfl, rfl⟩ (fun _ => rfl) (zX.inv rfl H_20_v rfl rfl) ⟨Nat.le_of_ble_eq_true rfl, Nat.le_of_ble_eq_true rfl⟩ ?_
  show zX _ 89 0 [(0, .inr (20, v)), (1, zi (zeT e : Int))] [] c s _ _
  refine zX.sn 1 (pc2 := 1) (l2 := [(0, .inr (20, v)), (1, zi (zeT e : Int))]) (st2 := [.inr (20, v)]) rfl ?_
  refine zX.getf ⟨rfl, rfl⟩ H_20_v rfl rfl ?_
  refine zX.icmp0 (tgt := 16) ⟨rfl, rfl⟩ rfl (by omega) (fun (zz : (sp : Int) ≤ 0) => absurd zz (by omega)) (fun (e1 : 0 < (sp : Int)) => ?_)
  refine zX.sn 1 (pc2 := 8) (l2 := [(0, .inr (20, v)), (1, zi (zeT e : Int))]) (st2 := [zi (zeT e : Int)]) rfl ?_
  refine zX.sn 1 (pc2 := 9) (l2 := [(0, .inr (20, v)), (1, zi (zeT e : Int))]) (st2 := [.inr (20, v), zi (zeT e : Int)]) rfl ?_
  refine zX.getf ⟨rfl, rfl⟩ H_20_v rfl rfl ?_
  refine zX.idiv ⟨rfl, rfl⟩ (by omega) (by omega) ?_
  refine zX.sn 1 (pc2 := 17) (l2 := [(0, .inr (20, v)), (1, zi (zeT e : Int))]) (st2 := [zi ((zeT e : Int) / (sp : Int))]) rfl ?_
  refine zX.ret rfl rfl ?_
  show zX _ 92 8 [(0, .inr (20, v)), (1, .inr (8, zeN e))] [zi ((zeT e : Int) / (sp : Int))] c s _ _
  refine zX.sn 1 (pc2 := 9) (l2 := [(2, zi ((zeT e : Int) / (sp : Int))), (0, .inr (20, v)), (1, .inr (8, zeN e))]) (st2 := []) rfl ?_
  refine zX.sn 1 (pc2 := 10) (l2 := [(2, zi ((zeT e : Int) / (sp : Int))), (0, .inr (20, v)), (1, .inr (8, zeN e))]) (st2 := [.inr (20, v)]) rfl ?_
  refine zX.sn 1 (pc2 := 11) (l2 := [(2, zi ((zeT e : Int) / (sp : Int))), (0, .inr (20, v)), (1, .inr (8, zeN e))]) (st2 := [.inr (8, zeN e), .inr (20, v)]) rfl ?_
  refine zX.getf ⟨rfl, rfl⟩ H_8_zeN_e rfl rfl ?_
  refine zX.call (mid2 := 88) (as := [.inr (20, v), zi (zeT e : Int)]) (rest := []) ⟨rfl, rfl⟩ (fun _ => rfl) (zX.inv rfl H_20_v rfl rfl) ⟨Nat.le_of_ble_eq_true rfl, Nat.le_of_ble_eq_true rfl⟩ ?_
  refine s_fe (by omega) (by omega) (by omega) H_20_v  ?_
  show zX _ 92 17 [(2, zi ((zeT e : Int) / (sp : Int))), (0, .inr (20, v)), (1, .inr (8, zeN e))] [zi (zfe sz sp (zeT e : Int) : Int)] c s _ _
  refine zX.sn 1 (pc2 := 18) (l2 := [(3, zi (zfe sz sp (zeT e : Int) : Int)), (2, zi ((zeT e : Int) / (sp : Int))), (0, .inr (20, v)), (1, .inr (8, zeN e))]) (st2 := []) rfl ?_
  refine zX.re [(0, .inr (20, v)), (1, .inr (8, zeN e)), (2, zi ((zeT e : Int) / (sp : Int))), (3, zi (zfe sz sp (zeT e : Int) : Int))] [2, 3, 1, 0] [3, 2, 0, 1] rfl rfl (by decide) ?_
  exact k1

set_option maxHeartbeats 4000000 in
theorem r_wtk3 {d c s : Nat} {h : xH} {Q : xR → Nat → Nat → xH → Prop} {v sz gr sp wi L : Nat} {fi me : Int} {dr : Int32} {e : zE} {w : Nat} {la : Int} (hvr : zVr v fi sz gr) (hv : v < 5) (hsz : 1 ≤ sz ∧ sz ≤ 200) (hgr : gr ≤ 200) (hsp : 1 ≤ sp ∧ sp ≤ 200) (hL : L = wi * 8) (hwi : wi ≤ 1000) (hme : me = 99 ∨ me = 115 ∨ me = 109) (hEe : zEr e) (hkye : zeK e < 8) (htme : zeT e < 1000) (hvae : -99 ≤ zeV e ∧ zeV e ≤ 99) (hahe : -1 ≤ zeA e ∧ zeA e < 1000) (hode : zeO e < 240) (hire : 0 ≤ zbi (zeR e) ∧ zbi (zeR e) ≤ 1) (hile : 0 ≤ zbi (zeL e) ∧ zbi (zeL e) ≤ 1) (hw : w ≤ 2000) (hla : 0 ≤ la ∧ la ≤ 1000) (hx : la < w) (H_20_v : h (20, v) = some (.inl (9, [zi (v : Int), zi (zbi false), zi fi, zi (sz : Int), zi (gr : Int), .inr (2, 0), .inr (21, v), .inr (23, v), .inr (25, v), .inl (.int dr), zi me, zi (sp : Int), zi (wi : Int), .inr (26, v), .inr (30, v)]))) (H_8_zeN_e : h (8, zeN e) = some (.inl (1, [zi (zeP e : Int), zi (zbi (zeR e)), zi (zbi (zeL e)), zi (zeK e : Int), zi (zeT e : Int), zi (zeV e), zi (zeO e : Int), zi (zeA e), zi (zeB e)])))
    (k1 : Q (.inl none) c s h) :
    zX d 92 18 [(0, .inr (20, v)), (1, .inr (8, zeN e)), (2, zi la), (3, zi (w : Int))] [] c s h Q := by
  refine zX.sn 1 (pc2 := 19) (l2 := [(0, .inr (20, v)), (1, .inr (8, zeN e)), (2, zi la), (3, zi (w : Int))]) (st2 := [zi (w : Int)]) rfl ?_
  refine zX.sn 1 (pc2 := 20) (l2 := [(0, .inr (20, v)), (1, .inr (8, zeN e)), (2, zi la), (3, zi (w : Int))]) (st2 := [zi la, zi (w : Int)]) rfl ?_
  refine zX.icmp (tgt := 57) ⟨rfl, rfl⟩ rfl (by omega) (by omega) (fun (e1 : la < (w : Int)) => ?_) (fun (zz : (w : Int) ≤ la) => absurd zz (by omega))
  refine zX.ret rfl rfl ?_
  exact k1

set_option maxHeartbeats 4000000 in
theorem r_wtk1 {d c s : Nat} {h : xH} {Q : xR → Nat → Nat → xH → Prop} {v sz gr sp wi L : Nat} {fi me : Int} {dr : Int32} {e : zE} {w : Nat} {la : Int} (hvr : zVr v fi sz gr) (hv : v < 5) (hsz : 1 ≤ sz ∧ sz ≤ 200) (hgr : gr ≤ 200) (hsp : 1 ≤ sp ∧ sp ≤ 200) (hL : L = wi * 8) (hwi : wi ≤ 1000) (hme : me = 99 ∨ me = 115 ∨ me = 109) (hEe : zEr e) (hkye : zeK e < 8) (htme : zeT e < 1000) (hvae : -99 ≤ zeV e ∧ zeV e ≤ 99) (hahe : -1 ≤ zeA e ∧ zeA e < 1000) (hode : zeO e < 240) (hire : 0 ≤ zbi (zeR e) ∧ zbi (zeR e) ≤ 1) (hile : 0 ≤ zbi (zeL e) ∧ zbi (zeL e) ≤ 1) (hw : w ≤ 2000) (hla : 0 ≤ la ∧ la ≤ 1000) (hx : w ≤ la) (hp : (w : Int) * (sp : Int) ≤ 1000) (hp0 : 0 ≤ (w : Int) * (sp : Int)) (hlt : (w : Int) * (sp : Int) + sz + gr ≤ zeA e) (H_20_v : h (20, v) = some (.inl (9, [zi (v : Int), zi (zbi false), zi fi, zi (sz : Int), zi (gr : Int), .inr (2, 0), .inr (21, v), .inr (23, v), .inr (25, v), .inl (.int dr), zi me, zi (sp : Int), zi (wi : Int), .inr (26, v), .inr (30, v)]))) (H_8_zeN_e : h (8, zeN e) = some (.inl (1, [zi (zeP e : Int), zi (zbi (zeR e)), zi (zbi (zeL e)), zi (zeK e : Int), zi (zeT e : Int), zi (zeV e), zi (zeO e : Int), zi (zeA e), zi (zeB e)])))
    (k1 : ∀ h' : xH, h' (20, v) = some (.inl (9, [zi (v : Int), zi (zbi false), zi fi, zi (sz : Int), zi (gr : Int), .inr (2, 0), .inr (21, v), .inr (23, v), .inr (25, v), .inl (.int (dr + (Int32.ofInt 1))), zi me, zi (sp : Int), zi (wi : Int), .inr (26, v), .inr (30, v)])) → (∀ za zb : Nat, ¬ ((za = 20 ∧ zb = v)) → h' (za, zb) = h (za, zb)) → zX (d + 2) 92 18 [(0, .inr (20, v)), (1, .inr (8, zeN e)), (2, zi la), (3, zi ((w : Int) + 1))] [] c s h' Q) :
    zX (d + 2) 92 18 [(0, .inr (20, v)), (1, .inr (8, zeN e)), (2, zi la), (3, zi (w : Int))] [] c s h Q := by
  refine zX.sn 1 (pc2 := 19) (l2 := [(0, .inr (20, v)), (1, .inr (8, zeN e)), (2, zi la), (3, zi (w : Int))]) (st2 := [zi (w : Int)]) rfl ?_
  refine zX.sn 1 (pc2 := 20) (l2 := [(0, .inr (20, v)), (1, .inr (8, zeN e)), (2, zi la), (3, zi (w : Int))]) (st2 := [zi la, zi (w : Int)]) rfl ?_
  refine zX.icmp (tgt := 57) ⟨rfl, rfl⟩ rfl (by omega) (by omega) (fun (zz : la < (w : Int)) => absurd zz (by omega)) (fun (e1 : (w : Int) ≤ la) => ?_)
  refine zX.sn 1 (pc2 := 24) (l2 := [(0, .inr (20, v)), (1, .inr (8, zeN e)), (2, zi la), (3, zi (w : Int))]) (st2 := [.inr (20, v)]) rfl ?_
  refine zX.sn 1 (pc2 := 25) (l2 := [(0, .inr (20, v)), (1, .inr (8, zeN e)), (2, zi la), (3, zi (w : Int))]) (st2 := [zi (w : Int), .inr (20, v)]) rfl ?_
  refine zX.sn 1 (pc2 := 26) (l2 := [(0, .inr (20, v)), (1, .inr (8, zeN e)), (2, zi la), (3, zi (w : Int))]) (st2 := [.inr (8, zeN e), zi (w : Int), .inr (20, v)]) rfl ?_
  refine zX.call (mid2 := 90) (as := [.inr (20, v), zi (w : Int), .inr (8, zeN e)]) (rest := []) ⟨rfl, rfl⟩ (fun _ => rfl) (zX.inv rfl H_20_v rfl rfl) ⟨Nat.le_of_ble_eq_true rfl, Nat.le_of_ble_eq_true rfl⟩ ?_
  show zX _ 90 0 [(0, .inr (20, v)), (1, zi (w : Int)), (2, .inr (8, zeN e))] [] c s _ _
  refine zX.sn 1 (pc2 := 1) (l2 := [(0, .inr (20, v)), (1, zi (w : Int)), (2, .inr (8, zeN e))]) (st2 := [.inr (8, zeN e)]) rfl ?_
  refine zX.getf ⟨rfl, rfl⟩ H_8_zeN_e rfl rfl ?_
  refine zX.sn 1 (pc2 := 5) (l2 := [(0, .inr (20, v)), (1, zi (w : Int)), (2, .inr (8, zeN e))]) (st2 := [.inr (20, v), zi (zeA e)]) rfl ?_
  refine zX.sn 1 (pc2 := 6) (l2 := [(0, .inr (20, v)), (1, zi (w : Int)), (2, .inr (8, zeN e))]) (st2 := [zi (w : Int), .inr (20, v), zi (zeA e)]) rfl ?_
  refine zX.call (mid2 := 87) (as := [.inr (20, v), zi (w : Int)]) (rest := [zi (zeA e)]) ⟨rfl, rfl⟩ (fun _ => rfl) (zX.inv rfl H_20_v rfl rfl) ⟨Nat.le_of_ble_eq_true rfl, Nat.le_of_ble_eq_true rfl⟩ ?_
  show zX _ 87 0 [(0, .inr (20, v)), (1, zi (w : Int))] [] c s _ _
  refine zX.sn 1 (pc2 := 1) (l2 := [(0, .inr (20, v)), (1, zi (w : Int))]) (st2 := [zi (w : Int)]) rfl ?_
  refine zX.sn 1 (pc2 := 2) (l2 := [(0, .inr (20, v)), (1, zi (w : Int))]) (st2 := [.inr (20, v), zi (w : Int)]) rfl ?_
  refine zX.getf ⟨rfl, rfl⟩ H_20_v rfl rfl ?_
  refine zX.imul ⟨rfl, rfl⟩ ?_
  refine zX.sn 1 (pc2 := 7) (l2 := [(0, .inr (20, v)), (1, zi (w : Int))]) (st2 := [.inr (20, v), zi ((w : Int) * (sp : Int))]) rfl ?_
  refine zX.getf ⟨rfl, rfl⟩ H_20_v rfl rfl ?_
  refine zX.iadd ⟨rfl, rfl⟩ ?_
  refine zX.ret rfl rfl ?_
  show zX _ 90 9 [(0, .inr (20, v)), (1, zi (w : Int)), (2, .inr (8, zeN e))] [zi (((w : Int) * (sp : Int)) + (sz : Int)), zi (zeA e)] c s _ _
  refine zX.sn 1 (pc2 := 10) (l2 := [(0, .inr (20, v)), (1, zi (w : Int)), (2, .inr (8, zeN e))]) (st2 := [.inr (20, v), zi (((w : Int) * (sp : Int)) + (sz : Int)), zi (zeA e)]) rfl ?_
  refine zX.getf ⟨rfl, rfl⟩ H_20_v rfl rfl ?_
  refine zX.iadd ⟨rfl, rfl⟩ ?_
  refine zX.icmp (tgt := 21) ⟨rfl, rfl⟩ rfl (by omega) (by omega) (fun (zz : zeA e < ((((w : Int) * (sp : Int)) + (sz : Int)) + (gr : Int))) => absurd zz (by omega)) (fun (e2 : ((((w : Int) * (sp : Int)) + (sz : Int)) + (gr : Int)) ≤ zeA e) => ?_)
  refine zX.sn 1 (pc2 := 18) (l2 := [(0, .inr (20, v)), (1, zi (w : Int)), (2, .inr (8, zeN e))]) (st2 := [zi 1]) rfl ?_
  refine zX.sn 1 (pc2 := 22) (l2 := [(0, .inr (20, v)), (1, zi (w : Int)), (2, .inr (8, zeN e))]) (st2 := [zi 1]) rfl ?_
  refine zX.ret rfl (zret_z rfl (by decide)) ?_
  show zX _ 92 29 [(0, .inr (20, v)), (1, .inr (8, zeN e)), (2, zi la), (3, zi (w : Int))] [zi 1] c s _ _
  refine zX.icmp0 (tgt := 45) ⟨rfl, rfl⟩ rfl (by omega) (fun (zz : 1 = 0) => absurd zz (by omega)) (fun (e3 : ¬ 1 = 0) => ?_)
  refine zX.sn 1 (pc2 := 33) (l2 := [(0, .inr (20, v)), (1, .inr (8, zeN e)), (2, zi la), (3, zi (w : Int))]) (st2 := [.inr (20, v)]) rfl ?_
  refine zX.sn 1 (pc2 := 34) (l2 := [(0, .inr (20, v)), (1, .inr (8, zeN e)), (2, zi la), (3, zi (w : Int))]) (st2 := [.inr (20, v), .inr (20, v)]) rfl ?_
  refine zX.getf ⟨rfl, rfl⟩ H_20_v rfl rfl ?_
  refine zX.sn 1 (pc2 := 38) (l2 := [(0, .inr (20, v)), (1, .inr (8, zeN e)), (2, zi la), (3, zi (w : Int))]) (st2 := [zi 1, .inl (.int dr), .inr (20, v)]) rfl ?_
  refine zX.sn 1 (pc2 := 39) (l2 := [(0, .inr (20, v)), (1, .inr (8, zeN e)), (2, zi la), (3, zi (w : Int))]) (st2 := [.inl (.int (dr + (Int32.ofInt 1))), .inr (20, v)]) rfl ?_
  refine zX.putf ⟨rfl, rfl⟩ H_20_v rfl (by omega) rfl ?_
  show zX _ 92 42 [(0, .inr (20, v)), (1, .inr (8, zeN e)), (2, zi la), (3, zi (w : Int))] [] c s (xup h (20, v) (.inl (9, [zi (v : Int), zi (zbi false), zi fi, zi (sz : Int), zi (gr : Int), .inr (2, 0), .inr (21, v), .inr (23, v), .inr (25, v), .inl (.int (dr + (Int32.ofInt 1))), zi me, zi (sp : Int), zi (wi : Int), .inr (26, v), .inr (30, v)]))) _
  refine zX.sn 1 (pc2 := 51) (l2 := [(0, .inr (20, v)), (1, .inr (8, zeN e)), (2, zi la), (3, zi (w : Int))]) (st2 := []) rfl ?_
  refine zX.s1 (pc2 := 54) (l2 := [(3, zi ((w : Int) + 1)), (0, .inr (20, v)), (1, .inr (8, zeN e)), (2, zi la)]) (st2 := []) ⟨rfl, rfl⟩ (by rw [show (zi ((w : Int) + 1) : xV) = .inl (.int (Int32.ofInt (w : Int) + 1)) from congrArg (fun z => (.inl (.int z) : xV)) (Int32.ofInt_add _ _)]; rfl) ?_
  refine zX.sn 1 (pc2 := 18) (l2 := [(3, zi ((w : Int) + 1)), (0, .inr (20, v)), (1, .inr (8, zeN e)), (2, zi la)]) (st2 := []) rfl ?_
  refine zX.re [(0, .inr (20, v)), (1, .inr (8, zeN e)), (2, zi la), (3, zi ((w : Int) + 1))] [1, 2, 3, 0] [3, 0, 1, 2] rfl rfl (by decide) ?_
  exact k1 _ zup_s (fun za zb hn => (zup_n (zn (by omega)) rfl))

set_option maxHeartbeats 4000000 in
theorem r_wtk2 {d c s : Nat} {h : xH} {Q : xR → Nat → Nat → xH → Prop} {v sz gr sp wi L : Nat} {fi me : Int} {dr : Int32} {e : zE} {N w : Nat} {la : Int} {X : zWX} (hr : zWr v fi sz gr me sp) (hvr : zVr v fi sz gr) (hv : v < 5) (hsz : 1 ≤ sz ∧ sz ≤ 200) (hgr : gr ≤ 200) (hsp : 1 ≤ sp ∧ sp ≤ 200) (hL : L = wi * 8) (hwi : wi ≤ 1000) (hme : me = 99 ∨ me = 115 ∨ me = 109) (hEe : zEr e) (hkye : zeK e < 8) (htme : zeT e < 1000) (hvae : -99 ≤ zeV e ∧ zeV e ≤ 99) (hahe : -1 ≤ zeA e ∧ zeA e < 1000) (hode : zeO e < 240) (hire : 0 ≤ zbi (zeR e) ∧ zbi (zeR e) ≤ 1) (hile : 0 ≤ zbi (zeL e) ∧ zbi (zeL e) ≤ 1) (hw : w ≤ 2000) (hla : 0 ≤ la ∧ la ≤ 1000) (hx : w ≤ la) (hp : (w : Int) * (sp : Int) ≤ 1000) (hp0 : 0 ≤ (w : Int) * (sp : Int)) (hlt : zeA e < (w : Int) * (sp : Int) + sz + gr) (hwz : w < zwi sp) (ho : X.2.2.2.2.2.length + 2 < 200000) (H_8_zeN_e : h (8, zeN e) = some (.inl (1, [zi (zeP e : Int), zi (zbi (zeR e)), zi (zbi (zeL e)), zi (zeK e : Int), zi (zeT e : Int), zi (zeV e), zi (zeO e : Int), zi (zeA e), zi (zeB e)]))) (P_vw : zVW h N v fi sz gr me sp X)
    (k1 : ∀ N1 : Nat, ∀ c1 : Nat, ∀ s1 : Nat, (zCo N c s N1 c1 s1) → ∀ h' : xH, zVW h' N1 v fi sz gr me sp (zwInto v sz sp me e w X) → (∀ za zb : Nat, ¬ (((20 ≤ za ∧ za < 60 ∧ zb % 8 = v) ∨ (2 ≤ za ∧ za < 4))) → h' (za, zb) = h (za, zb)) → zX (d + 5) 92 18 [(0, .inr (20, v)), (1, .inr (8, zeN e)), (2, zi la), (3, zi ((w : Int) + 1))] [] c1 s1 h' Q) :
    zX (d + 5) 92 18 [(0, .inr (20, v)), (1, .inr (8, zeN e)), (2, zi la), (3, zi (w : Int))] [] c s h Q := by
  refine zX.sn 1 (pc2 := 19) (l2 := [(0, .inr (20, v)), (1, .inr (8, zeN e)), (2, zi la), (3, zi (w : Int))]) (st2 := [zi (w : Int)]) rfl ?_
  refine zX.sn 1 (pc2 := 20) (l2 := [(0, .inr (20, v)), (1, .inr (8, zeN e)), (2, zi la), (3, zi (w : Int))]) (st2 := [zi la, zi (w : Int)]) rfl ?_
  refine zX.icmp (tgt := 57) ⟨rfl, rfl⟩ rfl (by omega) (by omega) (fun (zz : la < (w : Int)) => absurd zz (by omega)) (fun (e1 : (w : Int) ≤ la) => ?_)
  refine zX.sn 1 (pc2 := 24) (l2 := [(0, .inr (20, v)), (1, .inr (8, zeN e)), (2, zi la), (3, zi (w : Int))]) (st2 := [.inr (20, v)]) rfl ?_
  refine zX.sn 1 (pc2 := 25) (l2 := [(0, .inr (20, v)), (1, .inr (8, zeN e)), (2, zi la), (3, zi (w : Int))]) (st2 := [zi (w : Int), .inr (20, v)]) rfl ?_
  refine zX.sn 1 (pc2 := 26) (l2 := [(0, .inr (20, v)), (1, .inr (8, zeN e)), (2, zi la), (3, zi (w : Int))]) (st2 := [.inr (8, zeN e), zi (w : Int), .inr (20, v)]) rfl ?_
  refine zX.call (mid2 := 90) (as := [.inr (20, v), zi (w : Int), .inr (8, zeN e)]) (rest := []) ⟨rfl, rfl⟩ (fun _ => rfl) (zX.inv rfl (P_vw.1) rfl rfl) ⟨Nat.le_of_ble_eq_true rfl, Nat.le_of_ble_eq_true rfl⟩ ?_
  show zX _ 90 0 [(0, .inr (20, v)), (1, zi (w : Int)), (2, .inr (8, zeN e))] [] c s _ _
  refine zX.sn 1 (pc2 := 1) (l2 := [(0, .inr (20, v)), (1, zi (w : Int)), (2, .inr (8, zeN e))]) (st2 := [.inr (8, zeN e)]) rfl ?_
  refine zX.getf ⟨rfl, rfl⟩ H_8_zeN_e rfl rfl ?_
  refine zX.sn 1 (pc2 := 5) (l2 := [(0, .inr (20, v)), (1, zi (w : Int)), (2, .inr (8, zeN e))]) (st2 := [.inr (20, v), zi (zeA e)]) rfl ?_
  refine zX.sn 1 (pc2 := 6) (l2 := [(0, .inr (20, v)), (1, zi (w : Int)), (2, .inr (8, zeN e))]) (st2 := [zi (w : Int), .inr (20, v), zi (zeA e)]) rfl ?_
  refine zX.call (mid2 := 87) (as := [.inr (20, v), zi (w : Int)]) (rest := [zi (zeA e)]) ⟨rfl, rfl⟩ (fun _ => rfl) (zX.inv rfl (P_vw.1) rfl rfl) ⟨Nat.le_of_ble_eq_true rfl, Nat.le_of_ble_eq_true rfl⟩ ?_
  show zX _ 87 0 [(0, .inr (20, v)), (1, zi (w : Int))] [] c s _ _
  refine zX.sn 1 (pc2 := 1) (l2 := [(0, .inr (20, v)), (1, zi (w : Int))]) (st2 := [zi (w : Int)]) rfl ?_
  refine zX.sn 1 (pc2 := 2) (l2 := [(0, .inr (20, v)), (1, zi (w : Int))]) (st2 := [.inr (20, v), zi (w : Int)]) rfl ?_
  refine zX.getf ⟨rfl, rfl⟩ (P_vw.1) rfl rfl ?_
  refine zX.imul ⟨rfl, rfl⟩ ?_
  refine zX.sn 1 (pc2 := 7) (l2 := [(0, .inr (20, v)), (1, zi (w : Int))]) (st2 := [.inr (20, v), zi ((w : Int) * (sp : Int))]) rfl ?_
  refine zX.getf ⟨rfl, rfl⟩ (P_vw.1) rfl rfl ?_
  refine zX.iadd ⟨rfl, rfl⟩ ?_
  refine zX.ret rfl rfl ?_
  show zX _ 90 9 [(0, .inr (20, v)), (1, zi (w : Int)), (2, .inr (8, zeN e))] [zi (((w : Int) * (sp : Int)) + (sz : Int)), zi (zeA e)] c s _ _
  refine zX.sn 1 (pc2 := 10) (l2 := [(0, .inr (20, v)), (1, zi (w : Int)), (2, .inr (8, zeN e))]) (st2 := [.inr (20, v), zi (((w : Int) * (sp : Int)) + (sz : Int)), zi (zeA e)]) rfl ?_
  refine zX.getf ⟨rfl, rfl⟩ (P_vw.1) rfl rfl ?_
  refine zX.iadd ⟨rfl, rfl⟩ ?_
  refine zX.icmp (tgt := 21) ⟨rfl, rfl⟩ rfl (by omega) (by omega) (fun (e2 : zeA e < ((((w : Int) * (sp : Int)) + (sz : Int)) + (gr : Int))) => ?_) (fun (zz : ((((w : Int) * (sp : Int)) + (sz : Int)) + (gr : Int)) ≤ zeA e) => absurd zz (by omega))
  refine zX.sn 1 (pc2 := 22) (l2 := [(0, .inr (20, v)), (1, zi (w : Int)), (2, .inr (8, zeN e))]) (st2 := [zi 0]) rfl ?_
  refine zX.ret rfl (zret_z rfl (by decide)) ?_
  show zX _ 92 29 [(0, .inr (20, v)), (1, .inr (8, zeN e)), (2, zi la), (3, zi (w : Int))] [zi 0] c s _ _
  refine zX.icmp0 (tgt := 45) ⟨rfl, rfl⟩ rfl (by omega) (fun (e3 : 0 = 0) => ?_) (fun (zz : ¬ 0 = 0) => absurd zz (by omega))
  refine zX.sn 1 (pc2 := 46) (l2 := [(0, .inr (20, v)), (1, .inr (8, zeN e)), (2, zi la), (3, zi (w : Int))]) (st2 := [.inr (20, v)]) rfl ?_
  refine zX.sn 1 (pc2 := 47) (l2 := [(0, .inr (20, v)), (1, .inr (8, zeN e)), (2, zi la), (3, zi (w : Int))]) (st2 := [zi (w : Int), .inr (20, v)]) rfl ?_
  refine zX.sn 1 (pc2 := 48) (l2 := [(0, .inr (20, v)), (1, .inr (8, zeN e)), (2, zi la), (3, zi (w : Int))]) (st2 := [.inr (8, zeN e), zi (w : Int), .inr (20, v)]) rfl ?_
  refine zX.call (mid2 := 93) (as := [.inr (20, v), zi (w : Int), .inr (8, zeN e)]) (rest := []) ⟨rfl, rfl⟩ (fun _ => rfl) (zX.inv rfl (P_vw.1) rfl rfl) ⟨Nat.le_of_ble_eq_true rfl, Nat.le_of_ble_eq_true rfl⟩ ?_
  refine s_winto (w := w) hr hEe hwz ho P_vw (show zEn _ e from H_8_zeN_e)  (fun h1 N1 c1 s1 hv1 hF1 hb1 => ?_)
  show zX _ 92 51 [(0, .inr (20, v)), (1, .inr (8, zeN e)), (2, zi la), (3, zi (w : Int))] [] c1 s1 _ _
  refine zX.s1 (pc2 := 54) (l2 := [(3, zi ((w : Int) + 1)), (0, .inr (20, v)), (1, .inr (8, zeN e)), (2, zi la)]) (st2 := []) ⟨rfl, rfl⟩ (by rw [show (zi ((w : Int) + 1) : xV) = .inl (.int (Int32.ofInt (w : Int) + 1)) from congrArg (fun z => (.inl (.int z) : xV)) (Int32.ofInt_add _ _)]; rfl) ?_
  refine zX.sn 1 (pc2 := 18) (l2 := [(3, zi ((w : Int) + 1)), (0, .inr (20, v)), (1, .inr (8, zeN e)), (2, zi la)]) (st2 := []) rfl ?_
  refine zX.re [(0, .inr (20, v)), (1, .inr (8, zeN e)), (2, zi la), (3, zi ((w : Int) + 1))] [1, 2, 3, 0] [3, 0, 1, 2] rfl rfl (by decide) ?_
  exact k1 N1 c1 s1 hb1 _ hv1 (fun za zb hn => ((hF1 za zb (by omega)).trans rfl))

set_option maxHeartbeats 4000000 in
theorem r_wtd0 {d c s : Nat} {h : xH} {Q : xR → Nat → Nat → xH → Prop} {v sz gr sp wi L : Nat} {fi me : Int} {dr : Int32} {b m : Int} (hvr : zVr v fi sz gr) (hv : v < 5) (hsz : 1 ≤ sz ∧ sz ≤ 200) (hgr : gr ≤ 200) (hsp : 1 ≤ sp ∧ sp ≤ 200) (hL : L = wi * 8) (hwi : wi ≤ 1000) (hme : me = 99 ∨ me = 115 ∨ me = 109) (hb : -1 ≤ b ∧ b < 1000) (hm : -1 ≤ m ∧ m < 1000) (H_20_v : h (20, v) = some (.inl (9, [zi (v : Int), zi (zbi false), zi fi, zi (sz : Int), zi (gr : Int), .inr (2, 0), .inr (21, v), .inr (23, v), .inr (25, v), .inl (.int dr), zi me, zi (sp : Int), zi (wi : Int), .inr (26, v), .inr (30, v)])))
    (k1 : zX (d + 1) 94 6 [(0, .inr (20, v)), (1, zi b), (2, zi m), (3, zi (zfe sz sp b : Int))] [] c s h Q) :
    zX (d + 1) 94 0 [(0, .inr (20, v)), (1, zi b), (2, zi m)] [] c s h Q := by
  refine zX.sn 1 (pc2 := 1) (l2 := [(0, .inr (20, v)), (1, zi b), (2, zi m)]) (st2 := [.inr (20, v)]) rfl ?_
  refine zX.sn 1 (pc2 := 2) (l2 := [(0, .inr (20, v)), (1, zi b), (2, zi m)]) (st2 := [zi b, .inr (20, v)]) rfl ?_
  refine zX.call (mid2 := 88) (as := [.inr (20, v), zi b]) (rest := []) ⟨rfl, rfl⟩ (fun _ => rfl) (zX.inv rfl H_20_v rfl rfl) ⟨Nat.le_of_ble_eq_true rfl, Nat.le_of_ble_eq_true rfl⟩ ?_
  refine s_fe (by omega) (by omega) (by omega) H_20_v  ?_
  show zX _ 94 5 [(0, .inr (20, v)), (1, zi b), (2, zi m)] [zi (zfe sz sp b : Int)] c s _ _
  refine zX.sn 1 (pc2 := 6) (l2 := [(3, zi (zfe sz sp b : Int)), (0, .inr (20, v)), (1, zi b), (2, zi m)]) (st2 := []) rfl ?_
  refine zX.re [(0, .inr (20, v)), (1, zi b), (2, zi m), (3, zi (zfe sz sp b : Int))] [1, 2, 3, 0] [3, 0, 1, 2] rfl rfl (by decide) ?_
  exact k1

set_option maxHeartbeats 4000000 in
theorem r_wtd1 {d c s : Nat} {h : xH} {Q : xR → Nat → Nat → xH → Prop} {v sz gr sp wi L : Nat} {fi me : Int} {dr : Int32} {b m : Int} {w : Nat} (hvr : zVr v fi sz gr) (hv : v < 5) (hsz : 1 ≤ sz ∧ sz ≤ 200) (hgr : gr ≤ 200) (hsp : 1 ≤ sp ∧ sp ≤ 200) (hL : L = wi * 8) (hwi : wi ≤ 1000) (hme : me = 99 ∨ me = 115 ∨ me = 109) (hb : -1 ≤ b ∧ b < 1000) (hm : -1 ≤ m ∧ m < 1000) (hw : w ≤ 2000) (hp : (w : Int) * (sp : Int) ≤ 400000) (hp0 : 0 ≤ (w : Int) * (sp : Int)) (H_20_v : h (20, v) = some (.inl (9, [zi (v : Int), zi (zbi false), zi fi, zi (sz : Int), zi (gr : Int), .inr (2, 0), .inr (21, v), .inr (23, v), .inr (25, v), .inl (.int dr), zi me, zi (sp : Int), zi (wi : Int), .inr (26, v), .inr (30, v)])))
    (k1 : ((wi : Int) ≤ (w : Int)) → Q (.inl none) c s h)
    (k2 : ((w : Int) < (wi : Int)) → (m < (((w : Int) * (sp : Int)) + (sz : Int))) → Q (.inl none) c s h)
    (k3 : ((w : Int) < (wi : Int)) → ((((w : Int) * (sp : Int)) + (sz : Int)) ≤ m) → zX (d + 1) 94 26 [(0, .inr (20, v)), (1, zi b), (2, zi m), (3, zi (w : Int)), (4, zi 0)] [] c s h Q) :
    zX (d + 1) 94 6 [(0, .inr (20, v)), (1, zi b), (2, zi m), (3, zi (w : Int))] [] c s h Q := by
  refine zX.sn 1 (pc2 := 7) (l2 := [(0, .inr (20, v)), (1, zi b), (2, zi m), (3, zi (w : Int))]) (st2 := [zi (w : Int)]) rfl ?_
  refine zX.sn 1 (pc2 := 8) (l2 := [(0, .inr (20, v)), (1, zi b), (2, zi m), (3, zi (w : Int))]) (st2 := [.inr (20, v), zi (w : Int)]) rfl ?_
  refine zX.getf ⟨rfl, rfl⟩ H_20_v rfl rfl ?_
  refine zX.icmp (tgt := 85) ⟨rfl, rfl⟩ rfl (by omega) (by omega) (fun (e1 : (wi : Int) ≤ (w : Int)) => ?_) (fun (e1 : (w : Int) < (wi : Int)) => ?_)
  · refine zX.ret rfl rfl ?_
    exact k1 e1
  · refine zX.sn 1 (pc2 := 15) (l2 := [(0, .inr (20, v)), (1, zi b), (2, zi m), (3, zi (w : Int))]) (st2 := [.inr (20, v)]) rfl ?_
    refine zX.sn 1 (pc2 := 16) (l2 := [(0, .inr (20, v)), (1, zi b), (2, zi m), (3, zi (w : Int))]) (st2 := [zi (w : Int), .inr (20, v)]) rfl ?_
    refine zX.call (mid2 := 87) (as := [.inr (20, v), zi (w : Int)]) (rest := []) ⟨rfl, rfl⟩ (fun _ => rfl) (zX.inv rfl H_20_v rfl rfl) ⟨Nat.le_of_ble_eq_true rfl, Nat.le_of_ble_eq_true rfl⟩ ?_
    show zX _ 87 0 [(0, .inr (20, v)), (1, zi (w : Int))] [] c s _ _
    refine zX.sn 1 (pc2 := 1) (l2 := [(0, .inr (20, v)), (1, zi (w : Int))]) (st2 := [zi (w : Int)]) rfl ?_
    refine zX.sn 1 (pc2 := 2) (l2 := [(0, .inr (20, v)), (1, zi (w : Int))]) (st2 := [.inr (20, v), zi (w : Int)]) rfl ?_
    refine zX.getf ⟨rfl, rfl⟩ H_20_v rfl rfl ?_
    refine zX.imul ⟨rfl, rfl⟩ ?_
    refine zX.sn 1 (pc2 := 7) (l2 := [(0, .inr (20, v)), (1, zi (w : Int))]) (st2 := [.inr (20, v), zi ((w : Int) * (sp : Int))]) rfl ?_
    refine zX.getf ⟨rfl, rfl⟩ H_20_v rfl rfl ?_
    refine zX.iadd ⟨rfl, rfl⟩ ?_
    refine zX.ret rfl rfl ?_
    show zX _ 94 19 [(0, .inr (20, v)), (1, zi b), (2, zi m), (3, zi (w : Int))] [zi (((w : Int) * (sp : Int)) + (sz : Int))] c s _ _
    refine zX.sn 1 (pc2 := 20) (l2 := [(0, .inr (20, v)), (1, zi b), (2, zi m), (3, zi (w : Int))]) (st2 := [zi m, zi (((w : Int) * (sp : Int)) + (sz : Int))]) rfl ?_
    refine zX.icmp (tgt := 85) ⟨rfl, rfl⟩ rfl (by omega) (by omega) (fun (e2 : m < (((w : Int) * (sp : Int)) + (sz : Int))) => ?_) (fun (e2 : (((w : Int) * (sp : Int)) + (sz : Int)) ≤ m) => ?_)
    · refine zX.ret rfl rfl ?_
      exact k2 e1 e2
    · refine zX.sn 1 (pc2 := 24) (l2 := [(0, .inr (20, v)), (1, zi b), (2, zi m), (3, zi (w : Int))]) (st2 := [zi 0]) rfl ?_
      refine zX.sn 1 (pc2 := 26) (l2 := [(4, zi 0), (0, .inr (20, v)), (1, zi b), (2, zi m), (3, zi (w : Int))]) (st2 := []) rfl ?_
      refine zX.re [(0, .inr (20, v)), (1, zi b), (2, zi m), (3, zi (w : Int)), (4, zi 0)] [1, 2, 3, 4, 0] [4, 0, 1, 2, 3] rfl rfl (by decide) ?_
      exact k3 e1 e2

set_option maxHeartbeats 4000000 in
theorem r_wtd2 {d c s : Nat} {h : xH} {Q : xR → Nat → Nat → xH → Prop} {v sz gr sp wi L : Nat} {fi me : Int} {dr : Int32} {b m : Int} {w k N : Nat} {fa : Nat → Int64} {fn fs fg : Nat → Int32} {out : List Int64} (hvr : zVr v fi sz gr) (hv : v < 5) (hsz : 1 ≤ sz ∧ sz ≤ 200) (hgr : gr ≤ 200) (hsp : 1 ≤ sp ∧ sp ≤ 200) (hL : L = wi * 8) (hwi : wi ≤ 1000) (hme : me = 99 ∨ me = 115 ∨ me = 109) (hb : -1 ≤ b ∧ b < 1000) (hm : -1 ≤ m ∧ m < 1000) (hw : w ≤ 2000) (hp : (w : Int) * (sp : Int) ≤ 1000) (hp0 : 0 ≤ (w : Int) * (sp : Int)) (hk : k ≤ 8) (hwz : w < wi) (ho : out.length + 2 < 200000) (H_20_v : h (20, v) = some (.inl (9, [zi (v : Int), zi (zbi false), zi fi, zi (sz : Int), zi (gr : Int), .inr (2, 0), .inr (21, v), .inr (23, v), .inr (25, v), .inl (.int dr), zi me, zi (sp : Int), zi (wi : Int), .inr (26, v), .inr (30, v)]))) (P_told : zRes h 21 v L fa) (P_out : zOut h N out) (P_rows : zTal h 26 v L fn fs fg)
    (k1 : (8 ≤ (k : Int)) → zX (d + 4) 94 6 [(0, .inr (20, v)), (1, zi b), (2, zi m), (3, zi ((w : Int) + 1))] [] c s h Q)
    (k2 : ((k : Int) < 8) → (¬ 0 < fn ((w * 8) + k)) → zX (d + 4) 94 26 [(0, .inr (20, v)), (1, zi b), (2, zi m), (3, zi (w : Int)), (4, zi ((k : Int) + 1))] [] c s h Q)
    (k3 : ((k : Int) < 8) → (0 < fn ((w * 8) + k)) → ∀ N3 : Nat, ∀ c3 : Nat, ∀ s3 : Nat, (zCo N c s N3 c3 s3) → ∀ h' : xH, zRes h' 21 v L (zanF fa ((w * 8) + k) ((w * 8) + k) (zro (v : Int) (k : Int) ((w : Int) * (sp : Int)) (((w : Int) * (sp : Int)) + (sz : Int)) (zme me (fn ((w * 8) + k)) (fs ((w * 8) + k))))) → zOut h' N3 (out ++ zanL fa ((w * 8) + k) (zro (v : Int) (k : Int) ((w : Int) * (sp : Int)) (((w : Int) * (sp : Int)) + (sz : Int)) (zme me (fn ((w * 8) + k)) (fs ((w * 8) + k))))) → (∀ za zb : Nat, ¬ ((21 ≤ za ∧ za < 21 + 2 ∧ zb = v) ∨ (2 ≤ za ∧ za < 4)) → h' (za, zb) = h (za, zb)) → zX (d + 4) 94 26 [(0, .inr (20, v)), (1, zi b), (2, zi m), (3, zi (w : Int)), (4, zi ((k : Int) + 1))] [] c3 s3 h' Q) :
    zX (d + 4) 94 26 [(0, .inr (20, v)), (1, zi b), (2, zi m), (3, zi (w : Int)), (4, zi (k : Int))] [] c s h Q := by
  refine zX.sn 1 (pc2 := 28) (l2 := [(0, .inr (20, v)), (1, zi b), (2, zi m), (3, zi (w : Int)), (4, zi (k : Int))]) (st2 := [zi (k : Int)]) rfl ?_
  refine zX.sn 1 (pc2 := 30) (l2 := [(0, .inr (20, v)), (1, zi b), (2, zi m), (3, zi (w : Int)), (4, zi (k : Int))]) (st2 := [zi 8, zi (k : Int)]) rfl ?_
  refine zX.icmp (tgt := 79) ⟨rfl, rfl⟩ rfl (by omega) (by omega) (fun (e1 : 8 ≤ (k : Int)) => ?_) (fun (e1 : (k : Int) < 8) => ?_)
  · refine zX.s1 (pc2 := 82) (l2 := [(3, zi ((w : Int) + 1)), (0, .inr (20, v)), (1, zi b), (2, zi m), (4, zi (k : Int))]) (st2 := []) ⟨rfl, rfl⟩ (by rw [show (zi ((w : Int) + 1) : xV) = .inl (.int (Int32.ofInt (w : Int) + 1)) from congrArg (fun z => (.inl (.int z) : xV)) (Int32.ofInt_add _ _)]; rfl) ?_
    refine zX.sn 1 (pc2 := 6) (l2 := [(3, zi ((w : Int) + 1)), (0, .inr (20, v)), (1, zi b), (2, zi m), (4, zi (k : Int))]) (st2 := []) rfl ?_
    refine zX.re [(0, .inr (20, v)), (1, zi b), (2, zi m), (3, zi ((w : Int) + 1))] [1, 2, 3, 0] [3, 0, 1, 2, 4] rfl rfl (by decide) ?_
    exact k1 e1
  · refine zX.sn 1 (pc2 := 34) (l2 := [(0, .inr (20, v)), (1, zi b), (2, zi m), (3, zi (w : Int)), (4, zi (k : Int))]) (st2 := [zi (w : Int)]) rfl ?_
    refine zX.sn 1 (pc2 := 36) (l2 := [(0, .inr (20, v)), (1, zi b), (2, zi m), (3, zi (w : Int)), (4, zi (k : Int))]) (st2 := [zi 8, zi (w : Int)]) rfl ?_
    refine zX.imul ⟨rfl, rfl⟩ ?_
    refine zX.sn 1 (pc2 := 39) (l2 := [(0, .inr (20, v)), (1, zi b), (2, zi m), (3, zi (w : Int)), (4, zi (k : Int))]) (st2 := [zi (k : Int), zi ((w : Int) * 8)]) rfl ?_
    refine zX.iadd ⟨rfl, rfl⟩ ?_
    refine zX.sn 1 (pc2 := 42) (l2 := [(5, zi (((w : Int) * 8) + (k : Int))), (0, .inr (20, v)), (1, zi b), (2, zi m), (3, zi (w : Int)), (4, zi (k : Int))]) (st2 := []) rfl ?_
    refine zX.sn 1 (pc2 := 43) (l2 := [(5, zi (((w : Int) * 8) + (k : Int))), (0, .inr (20, v)), (1, zi b), (2, zi m), (3, zi (w : Int)), (4, zi (k : Int))]) (st2 := [.inr (20, v)]) rfl ?_
    refine zX.getf ⟨rfl, rfl⟩ H_20_v rfl rfl ?_
    refine zX.sn 1 (pc2 := 48) (l2 := [(5, zi (((w : Int) * 8) + (k : Int))), (0, .inr (20, v)), (1, zi b), (2, zi m), (3, zi (w : Int)), (4, zi (k : Int))]) (st2 := [zi (((w : Int) * 8) + (k : Int)), .inr (26, v)]) rfl ?_
    refine zX.call (mid2 := 53) (as := [.inr (26, v), zi (((w : Int) * 8) + (k : Int))]) (rest := []) ⟨rfl, rfl⟩ (fun _ => rfl) (zX.inv rfl (P_rows.1) rfl rfl) ⟨Nat.le_of_ble_eq_true rfl, Nat.le_of_ble_eq_true rfl⟩ ?_
    refine s_has (k := ((w * 8) + k)) (by omega) (by omega) (by omega) (by omega) P_rows (fun (e2 : ¬ 0 < fn ((w * 8) + k)) => ?_) (fun (e2 : 0 < fn ((w * 8) + k)) => ?_)
    · show zX _ 94 51 [(5, zi (((w : Int) * 8) + (k : Int))), (0, .inr (20, v)), (1, zi b), (2, zi m), (3, zi (w : Int)), (4, zi (k : Int))] [zi 0] c s _ _
      refine zX.icmp0 (tgt := 73) ⟨rfl, rfl⟩ rfl (by omega) (fun (e3 : 0 = 0) => ?_) (fun (zz : ¬ 0 = 0) => absurd zz (by omega))
      refine zX.s1 (pc2 := 76) (l2 := [(4, zi ((k : Int) + 1)), (5, zi (((w : Int) * 8) + (k : Int))), (0, .inr (20, v)), (1, zi b), (2, zi m), (3, zi (w : Int))]) (st2 := []) ⟨rfl, rfl⟩ (by rw [show (zi ((k : Int) + 1) : xV) = .inl (.int (Int32.ofInt (k : Int) + 1)) from congrArg (fun z => (.inl (.int z) : xV)) (Int32.ofInt_add _ _)]; rfl) ?_
      refine zX.sn 1 (pc2 := 26) (l2 := [(4, zi ((k : Int) + 1)), (5, zi (((w : Int) * 8) + (k : Int))), (0, .inr (20, v)), (1, zi b), (2, zi m), (3, zi (w : Int))]) (st2 := []) rfl ?_
      refine zX.re [(0, .inr (20, v)), (1, zi b), (2, zi m), (3, zi (w : Int)), (4, zi ((k : Int) + 1))] [2, 3, 4, 5, 0] [4, 5, 0, 1, 2, 3] rfl rfl (by decide) ?_
      exact k2 e1 e2
    · show zX _ 94 51 [(5, zi (((w : Int) * 8) + (k : Int))), (0, .inr (20, v)), (1, zi b), (2, zi m), (3, zi (w : Int)), (4, zi (k : Int))] [zi 1] c s _ _
      refine zX.icmp0 (tgt := 73) ⟨rfl, rfl⟩ rfl (by omega) (fun (zz : 1 = 0) => absurd zz (by omega)) (fun (e4 : ¬ 1 = 0) => ?_)
      refine zX.sn 1 (pc2 := 55) (l2 := [(5, zi (((w : Int) * 8) + (k : Int))), (0, .inr (20, v)), (1, zi b), (2, zi m), (3, zi (w : Int)), (4, zi (k : Int))]) (st2 := [.inr (20, v)]) rfl ?_
      refine zX.sn 1 (pc2 := 57) (l2 := [(5, zi (((w : Int) * 8) + (k : Int))), (0, .inr (20, v)), (1, zi b), (2, zi m), (3, zi (w : Int)), (4, zi (k : Int))]) (st2 := [zi (((w : Int) * 8) + (k : Int)), .inr (20, v)]) rfl ?_
      refine zX.sn 1 (pc2 := 59) (l2 := [(5, zi (((w : Int) * 8) + (k : Int))), (0, .inr (20, v)), (1, zi b), (2, zi m), (3, zi (w : Int)), (4, zi (k : Int))]) (st2 := [zi (((w : Int) * 8) + (k : Int)), zi (((w : Int) * 8) + (k : Int)), .inr (20, v)]) rfl ?_
      refine zX.sn 1 (pc2 := 60) (l2 := [(5, zi (((w : Int) * 8) + (k : Int))), (0, .inr (20, v)), (1, zi b), (2, zi m), (3, zi (w : Int)), (4, zi (k : Int))]) (st2 := [.inr (20, v), zi (((w : Int) * 8) + (k : Int)), zi (((w : Int) * 8) + (k : Int)), .inr (20, v)]) rfl ?_
      refine zX.sn 1 (pc2 := 61) (l2 := [(5, zi (((w : Int) * 8) + (k : Int))), (0, .inr (20, v)), (1, zi b), (2, zi m), (3, zi (w : Int)), (4, zi (k : Int))]) (st2 := [zi (w : Int), .inr (20, v), zi (((w : Int) * 8) + (k : Int)), zi (((w : Int) * 8) + (k : Int)), .inr (20, v)]) rfl ?_
      refine zX.sn 1 (pc2 := 63) (l2 := [(5, zi (((w : Int) * 8) + (k : Int))), (0, .inr (20, v)), (1, zi b), (2, zi m), (3, zi (w : Int)), (4, zi (k : Int))]) (st2 := [zi (k : Int), zi (w : Int), .inr (20, v), zi (((w : Int) * 8) + (k : Int)), zi (((w : Int) * 8) + (k : Int)), .inr (20, v)]) rfl ?_
      refine zX.sn 1 (pc2 := 64) (l2 := [(5, zi (((w : Int) * 8) + (k : Int))), (0, .inr (20, v)), (1, zi b), (2, zi m), (3, zi (w : Int)), (4, zi (k : Int))]) (st2 := [.inr (20, v), zi (k : Int), zi (w : Int), .inr (20, v), zi (((w : Int) * 8) + (k : Int)), zi (((w : Int) * 8) + (k : Int)), .inr (20, v)]) rfl ?_
      refine zX.getf ⟨rfl, rfl⟩ H_20_v rfl rfl ?_
      refine zX.call (mid2 := 91) (as := [.inr (20, v), zi (w : Int), zi (k : Int), .inr (26, v)]) (rest := [zi (((w : Int) * 8) + (k : Int)), zi (((w : Int) * 8) + (k : Int)), .inr (20, v)]) ⟨rfl, rfl⟩ (fun _ => rfl) (zX.inv rfl H_20_v rfl rfl) ⟨Nat.le_of_ble_eq_true rfl, Nat.le_of_ble_eq_true rfl⟩ ?_
      show zX _ 91 0 [(0, .inr (20, v)), (1, zi (w : Int)), (2, zi (k : Int)), (3, .inr (26, v))] [] c s _ _
      refine zX.sn 1 (pc2 := 1) (l2 := [(0, .inr (20, v)), (1, zi (w : Int)), (2, zi (k : Int)), (3, .inr (26, v))]) (st2 := [.inr (26, v)]) rfl ?_
      refine zX.sn 1 (pc2 := 2) (l2 := [(0, .inr (20, v)), (1, zi (w : Int)), (2, zi (k : Int)), (3, .inr (26, v))]) (st2 := [zi (w : Int), .inr (26, v)]) rfl ?_
      refine zX.sn 1 (pc2 := 4) (l2 := [(0, .inr (20, v)), (1, zi (w : Int)), (2, zi (k : Int)), (3, .inr (26, v))]) (st2 := [zi 8, zi (w : Int), .inr (26, v)]) rfl ?_
      refine zX.imul ⟨rfl, rfl⟩ ?_
      refine zX.sn 1 (pc2 := 6) (l2 := [(0, .inr (20, v)), (1, zi (w : Int)), (2, zi (k : Int)), (3, .inr (26, v))]) (st2 := [zi (k : Int), zi ((w : Int) * 8), .inr (26, v)]) rfl ?_
      refine zX.iadd ⟨rfl, rfl⟩ ?_
      refine zX.sn 1 (pc2 := 8) (l2 := [(0, .inr (20, v)), (1, zi (w : Int)), (2, zi (k : Int)), (3, .inr (26, v))]) (st2 := [.inr (20, v), zi (((w : Int) * 8) + (k : Int)), .inr (26, v)]) rfl ?_
      refine zX.getf ⟨rfl, rfl⟩ H_20_v rfl rfl ?_
      refine zX.call (mid2 := 58) (as := [.inr (26, v), zi (((w : Int) * 8) + (k : Int)), zi me]) (rest := []) ⟨rfl, rfl⟩ (fun _ => rfl) (zX.inv rfl (P_rows.1) rfl rfl) ⟨Nat.le_of_ble_eq_true rfl, Nat.le_of_ble_eq_true rfl⟩ ?_
      refine s_meas (k := ((w * 8) + k)) (by omega) (by omega) (by omega) (by omega) hme P_rows ?_
      show zX _ 91 14 [(0, .inr (20, v)), (1, zi (w : Int)), (2, zi (k : Int)), (3, .inr (26, v))] [.inl (.int (zme me (fn ((w * 8) + k)) (fs ((w * 8) + k))))] c s _ _
      refine zX.sn 1 (pc2 := 16) (l2 := [(4, .inl (.int (zme me (fn ((w * 8) + k)) (fs ((w * 8) + k))))), (0, .inr (20, v)), (1, zi (w : Int)), (2, zi (k : Int)), (3, .inr (26, v))]) (st2 := []) rfl ?_
      refine zX.sn 1 (pc2 := 17) (l2 := [(4, .inl (.int (zme me (fn ((w * 8) + k)) (fs ((w * 8) + k))))), (0, .inr (20, v)), (1, zi (w : Int)), (2, zi (k : Int)), (3, .inr (26, v))]) (st2 := [.inr (20, v)]) rfl ?_
      refine zX.getf ⟨rfl, rfl⟩ H_20_v rfl rfl ?_
      refine zX.sn 1 (pc2 := 21) (l2 := [(4, .inl (.int (zme me (fn ((w * 8) + k)) (fs ((w * 8) + k))))), (0, .inr (20, v)), (1, zi (w : Int)), (2, zi (k : Int)), (3, .inr (26, v))]) (st2 := [zi (k : Int), zi (v : Int)]) rfl ?_
      refine zX.sn 1 (pc2 := 22) (l2 := [(4, .inl (.int (zme me (fn ((w * 8) + k)) (fs ((w * 8) + k))))), (0, .inr (20, v)), (1, zi (w : Int)), (2, zi (k : Int)), (3, .inr (26, v))]) (st2 := [zi (w : Int), zi (k : Int), zi (v : Int)]) rfl ?_
      refine zX.sn 1 (pc2 := 23) (l2 := [(4, .inl (.int (zme me (fn ((w * 8) + k)) (fs ((w * 8) + k))))), (0, .inr (20, v)), (1, zi (w : Int)), (2, zi (k : Int)), (3, .inr (26, v))]) (st2 := [.inr (20, v), zi (w : Int), zi (k : Int), zi (v : Int)]) rfl ?_
      refine zX.getf ⟨rfl, rfl⟩ H_20_v rfl rfl ?_
      refine zX.imul ⟨rfl, rfl⟩ ?_
      refine zX.sn 1 (pc2 := 28) (l2 := [(4, .inl (.int (zme me (fn ((w * 8) + k)) (fs ((w * 8) + k))))), (0, .inr (20, v)), (1, zi (w : Int)), (2, zi (k : Int)), (3, .inr (26, v))]) (st2 := [.inr (20, v), zi ((w : Int) * (sp : Int)), zi (k : Int), zi (v : Int)]) rfl ?_
      refine zX.sn 1 (pc2 := 29) (l2 := [(4, .inl (.int (zme me (fn ((w * 8) + k)) (fs ((w * 8) + k))))), (0, .inr (20, v)), (1, zi (w : Int)), (2, zi (k : Int)), (3, .inr (26, v))]) (st2 := [zi (w : Int), .inr (20, v), zi ((w : Int) * (sp : Int)), zi (k : Int), zi (v : Int)]) rfl ?_
      refine zX.call (mid2 := 87) (as := [.inr (20, v), zi (w : Int)]) (rest := [zi ((w : Int) * (sp : Int)), zi (k : Int), zi (v : Int)]) ⟨rfl, rfl⟩ (fun _ => rfl) (zX.inv rfl H_20_v rfl rfl) ⟨Nat.le_of_ble_eq_true rfl, Nat.le_of_ble_eq_true rfl⟩ ?_
      show zX _ 87 0 [(0, .inr (20, v)), (1, zi (w : Int))] [] c s _ _
      refine zX.sn 1 (pc2 := 1) (l2 := [(0, .inr (20, v)), (1, zi (w : Int))]) (st2 := [zi (w : Int)]) rfl ?_
      refine zX.sn 1 (pc2 := 2) (l2 := [(0, .inr (20, v)), (1, zi (w : Int))]) (st2 := [.inr (20, v), zi (w : Int)]) rfl ?_
      refine zX.getf ⟨rfl, rfl⟩ H_20_v rfl rfl ?_
      refine zX.imul ⟨rfl, rfl⟩ ?_
      refine zX.sn 1 (pc2 := 7) (l2 := [(0, .inr (20, v)), (1, zi (w : Int))]) (st2 := [.inr (20, v), zi ((w : Int) * (sp : Int))]) rfl ?_
      refine zX.getf ⟨rfl, rfl⟩ H_20_v rfl rfl ?_
      refine zX.iadd ⟨rfl, rfl⟩ ?_
      refine zX.ret rfl rfl ?_
      show zX _ 91 32 [(4, .inl (.int (zme me (fn ((w * 8) + k)) (fs ((w * 8) + k))))), (0, .inr (20, v)), (1, zi (w : Int)), (2, zi (k : Int)), (3, .inr (26, v))] [zi (((w : Int) * (sp : Int)) + (sz : Int)), zi ((w : Int) * (sp : Int)), zi (k : Int), zi (v : Int)] c s _ _
      refine zX.sn 1 (pc2 := 34) (l2 := [(4, .inl (.int (zme me (fn ((w * 8) + k)) (fs ((w * 8) + k))))), (0, .inr (20, v)), (1, zi (w : Int)), (2, zi (k : Int)), (3, .inr (26, v))]) (st2 := [.inl (.int (zme me (fn ((w * 8) + k)) (fs ((w * 8) + k)))), zi (((w : Int) * (sp : Int)) + (sz : Int)), zi ((w : Int) * (sp : Int)), zi (k : Int), zi (v : Int)]) rfl ?_
      refine zX.call (mid2 := 14) (as := [zi (v : Int), zi (k : Int), zi ((w : Int) * (sp : Int)), zi (((w : Int) * (sp : Int)) + (sz : Int)), .inl (.int (zme me (fn ((w * 8) + k)) (fs ((w * 8) + k))))]) (rest := []) ⟨rfl, rfl⟩ (fun _ => rfl) rfl ⟨Nat.le_of_ble_eq_true rfl, Nat.le_of_ble_eq_true rfl⟩ ?_
      refine s_of  ?_
      show zX _ 91 37 [(4, .inl (.int (zme me (fn ((w * 8) + k)) (fs ((w * 8) + k))))), (0, .inr (20, v)), (1, zi (w : Int)), (2, zi (k : Int)), (3, .inr (26, v))] [.inl (.long (zro (v : Int) (k : Int) ((w : Int) * (sp : Int)) (((w : Int) * (sp : Int)) + (sz : Int)) (zme me (fn ((w * 8) + k)) (fs ((w * 8) + k)))))] c s _ _
      refine zX.ret rfl rfl ?_
      show zX _ 94 70 [(5, zi (((w : Int) * 8) + (k : Int))), (0, .inr (20, v)), (1, zi b), (2, zi m), (3, zi (w : Int)), (4, zi (k : Int))] [.inl (.long (zro (v : Int) (k : Int) ((w : Int) * (sp : Int)) (((w : Int) * (sp : Int)) + (sz : Int)) (zme me (fn ((w * 8) + k)) (fs ((w * 8) + k))))), zi (((w : Int) * 8) + (k : Int)), zi (((w : Int) * 8) + (k : Int)), .inr (20, v)] c s _ _
      refine zX.call (mid2 := 80) (as := [.inr (20, v), zi (((w : Int) * 8) + (k : Int)), zi (((w : Int) * 8) + (k : Int)), .inl (.long (zro (v : Int) (k : Int) ((w : Int) * (sp : Int)) (((w : Int) * (sp : Int)) + (sz : Int)) (zme me (fn ((w * 8) + k)) (fs ((w * 8) + k)))))]) (rest := []) ⟨rfl, rfl⟩ (fun _ => rfl) (zX.inv rfl H_20_v rfl rfl) ⟨Nat.le_of_ble_eq_true rfl, Nat.le_of_ble_eq_true rfl⟩ ?_
      refine s_tanew (ci := 9) (k := ((w * 8) + k)) (j := ((w * 8) + k)) (by omega) (by omega) (by omega) (by omega) zro_nz hvr (by omega) (by omega) (by first | omega | (simp only [List.length_append, List.length_cons, List.length_nil]; omega)) (show zVo _ 9 v false fi sz gr _ _ from H_20_v) P_told P_out  (fun h3 N3 c3 s3 hv3 ho3 hF3 hb3 => ?_)
      show zX _ 94 73 [(5, zi (((w : Int) * 8) + (k : Int))), (0, .inr (20, v)), (1, zi b), (2, zi m), (3, zi (w : Int)), (4, zi (k : Int))] [] c3 s3 _ _
      refine zX.s1 (pc2 := 76) (l2 := [(4, zi ((k : Int) + 1)), (5, zi (((w : Int) * 8) + (k : Int))), (0, .inr (20, v)), (1, zi b), (2, zi m), (3, zi (w : Int))]) (st2 := []) ⟨rfl, rfl⟩ (by rw [show (zi ((k : Int) + 1) : xV) = .inl (.int (Int32.ofInt (k : Int) + 1)) from congrArg (fun z => (.inl (.int z) : xV)) (Int32.ofInt_add _ _)]; rfl) ?_
      refine zX.sn 1 (pc2 := 26) (l2 := [(4, zi ((k : Int) + 1)), (5, zi (((w : Int) * 8) + (k : Int))), (0, .inr (20, v)), (1, zi b), (2, zi m), (3, zi (w : Int))]) (st2 := []) rfl ?_
      refine zX.re [(0, .inr (20, v)), (1, zi b), (2, zi m), (3, zi (w : Int)), (4, zi ((k : Int) + 1))] [2, 3, 4, 5, 0] [4, 5, 0, 1, 2, 3] rfl rfl (by decide) ?_
      exact k3 e1 e2 N3 c3 s3 hb3 _ hv3 ho3 (fun za zb hn => ((hF3 za zb (by omega)).trans rfl))

set_option maxHeartbeats 4000000 in
theorem r_wlg0 {d c s : Nat} {h : xH} {Q : xR → Nat → Nat → xH → Prop} {v sz gr sp wi L : Nat} {fi me : Int} {dr : Int32} {b m : Int} (hvr : zVr v fi sz gr) (hv : v < 5) (hsz : 1 ≤ sz ∧ sz ≤ 200) (hgr : gr ≤ 200) (hsp : 1 ≤ sp ∧ sp ≤ 200) (hL : L = wi * 8) (hwi : wi ≤ 1000) (hme : me = 99 ∨ me = 115 ∨ me = 109) (hb : -1 ≤ b ∧ b < 1000) (hm : -1 ≤ m ∧ m < 1000) (H_20_v : h (20, v) = some (.inl (9, [zi (v : Int), zi (zbi false), zi fi, zi (sz : Int), zi (gr : Int), .inr (2, 0), .inr (21, v), .inr (23, v), .inr (25, v), .inl (.int dr), zi me, zi (sp : Int), zi (wi : Int), .inr (26, v), .inr (30, v)])))
    (k1 : zX (d + 1) 95 14 [(0, .inr (20, v)), (2, zi m), (4, zi (zfe sz sp (b - (gr : Int)) : Int))] [] c s h Q) :
    zX (d + 1) 95 0 [(0, .inr (20, v)), (1, zi b), (2, zi m)] [] c s h Q := by
  refine zX.sn 1 (pc2 := 1) (l2 := [(0, .inr (20, v)), (1, zi b), (2, zi m)]) (st2 := [.inr (20, v)]) rfl ?_
  refine zX.sn 1 (pc2 := 2) (l2 := [(0, .inr (20, v)), (1, zi b), (2, zi m)]) (st2 := [zi b, .inr (20, v)]) rfl ?_
  refine zX.sn 1 (pc2 := 3) (l2 := [(0, .inr (20, v)), (1, zi b), (2, zi m)]) (st2 := [.inr (20, v), zi b, .inr (20, v)]) rfl ?_
  refine zX.getf ⟨rfl, rfl⟩ H_20_v rfl rfl ?_
  refine zX.isub ⟨rfl, rfl⟩ ?_
  refine zX.call (mid2 := 88) (as := [.inr (20, v), zi (b - (gr : Int))]) (rest := []) ⟨rfl, rfl⟩ (fun _ => rfl) (zX.inv rfl H_20_v rfl rfl) ⟨Nat.le_of_ble_eq_true rfl, Nat.le_of_ble_eq_true rfl⟩ ?_
  refine s_fe (by omega) (by omega) (by omega) H_20_v  ?_
  show zX _ 95 10 [(0, .inr (20, v)), (1, zi b), (2, zi m)] [zi (zfe sz sp (b - (gr : Int)) : Int)] c s _ _
  refine zX.sn 1 (pc2 := 11) (l2 := [(3, zi (zfe sz sp (b - (gr : Int)) : Int)), (0, .inr (20, v)), (1, zi b), (2, zi m)]) (st2 := []) rfl ?_
  refine zX.sn 1 (pc2 := 12) (l2 := [(3, zi (zfe sz sp (b - (gr : Int)) : Int)), (0, .inr (20, v)), (1, zi b), (2, zi m)]) (st2 := [zi (zfe sz sp (b - (gr : Int)) : Int)]) rfl ?_
  refine zX.sn 1 (pc2 := 14) (l2 := [(4, zi (zfe sz sp (b - (gr : Int)) : Int)), (3, zi (zfe sz sp (b - (gr : Int)) : Int)), (0, .inr (20, v)), (1, zi b), (2, zi m)]) (st2 := []) rfl ?_
  refine zX.re [(0, .inr (20, v)), (2, zi m), (4, zi (zfe sz sp (b - (gr : Int)) : Int))] [2, 4, 0] [4, 3, 0, 1, 2] rfl rfl (by decide) ?_
  exact k1

set_option maxHeartbeats 4000000 in
theorem r_wlg1 {d c s : Nat} {h : xH} {Q : xR → Nat → Nat → xH → Prop} {v sz gr sp wi L : Nat} {fi me : Int} {dr : Int32} {m : Int} {w : Nat} (hvr : zVr v fi sz gr) (hv : v < 5) (hsz : 1 ≤ sz ∧ sz ≤ 200) (hgr : gr ≤ 200) (hsp : 1 ≤ sp ∧ sp ≤ 200) (hL : L = wi * 8) (hwi : wi ≤ 1000) (hme : me = 99 ∨ me = 115 ∨ me = 109) (hm : -1 ≤ m ∧ m < 1000) (hw : w ≤ 2000) (hp : (w : Int) * (sp : Int) ≤ 400000) (hp0 : 0 ≤ (w : Int) * (sp : Int)) (H_20_v : h (20, v) = some (.inl (9, [zi (v : Int), zi (zbi false), zi fi, zi (sz : Int), zi (gr : Int), .inr (2, 0), .inr (21, v), .inr (23, v), .inr (25, v), .inl (.int dr), zi me, zi (sp : Int), zi (wi : Int), .inr (26, v), .inr (30, v)])))
    (k1 : ((wi : Int) ≤ (w : Int)) → Q (.inl none) c s h)
    (k2 : ((w : Int) < (wi : Int)) → (m < ((((w : Int) * (sp : Int)) + (sz : Int)) + (gr : Int))) → Q (.inl none) c s h)
    (k3 : ((w : Int) < (wi : Int)) → (((((w : Int) * (sp : Int)) + (sz : Int)) + (gr : Int)) ≤ m) → zX (d + 1) 95 41 [(0, .inr (20, v)), (2, zi m), (4, zi (w : Int)), (5, zi 0)] [] c s h Q) :
    zX (d + 1) 95 14 [(0, .inr (20, v)), (2, zi m), (4, zi (w : Int))] [] c s h Q := by
  refine zX.sn 1 (pc2 := 16) (l2 := [(0, .inr (20, v)), (2, zi m), (4, zi (w : Int))]) (st2 := [zi (w : Int)]) rfl ?_
  refine zX.sn 1 (pc2 := 17) (l2 := [(0, .inr (20, v)), (2, zi m), (4, zi (w : Int))]) (st2 := [.inr (20, v), zi (w : Int)]) rfl ?_
  refine zX.getf ⟨rfl, rfl⟩ H_20_v rfl rfl ?_
  refine zX.icmp (tgt := 85) ⟨rfl, rfl⟩ rfl (by omega) (by omega) (fun (e1 : (wi : Int) ≤ (w : Int)) => ?_) (fun (e1 : (w : Int) < (wi : Int)) => ?_)
  · refine zX.ret rfl rfl ?_
    exact k1 e1
  · refine zX.sn 1 (pc2 := 24) (l2 := [(0, .inr (20, v)), (2, zi m), (4, zi (w : Int))]) (st2 := [.inr (20, v)]) rfl ?_
    refine zX.sn 1 (pc2 := 26) (l2 := [(0, .inr (20, v)), (2, zi m), (4, zi (w : Int))]) (st2 := [zi (w : Int), .inr (20, v)]) rfl ?_
    refine zX.call (mid2 := 87) (as := [.inr (20, v), zi (w : Int)]) (rest := []) ⟨rfl, rfl⟩ (fun _ => rfl) (zX.inv rfl H_20_v rfl rfl) ⟨Nat.le_of_ble_eq_true rfl, Nat.le_of_ble_eq_true rfl⟩ ?_
    show zX _ 87 0 [(0, .inr (20, v)), (1, zi (w : Int))] [] c s _ _
    refine zX.sn 1 (pc2 := 1) (l2 := [(0, .inr (20, v)), (1, zi (w : Int))]) (st2 := [zi (w : Int)]) rfl ?_
    refine zX.sn 1 (pc2 := 2) (l2 := [(0, .inr (20, v)), (1, zi (w : Int))]) (st2 := [.inr (20, v), zi (w : Int)]) rfl ?_
    refine zX.getf ⟨rfl, rfl⟩ H_20_v rfl rfl ?_
    refine zX.imul ⟨rfl, rfl⟩ ?_
    refine zX.sn 1 (pc2 := 7) (l2 := [(0, .inr (20, v)), (1, zi (w : Int))]) (st2 := [.inr (20, v), zi ((w : Int) * (sp : Int))]) rfl ?_
    refine zX.getf ⟨rfl, rfl⟩ H_20_v rfl rfl ?_
    refine zX.iadd ⟨rfl, rfl⟩ ?_
    refine zX.ret rfl rfl ?_
    show zX _ 95 29 [(0, .inr (20, v)), (2, zi m), (4, zi (w : Int))] [zi (((w : Int) * (sp : Int)) + (sz : Int))] c s _ _
    refine zX.sn 1 (pc2 := 30) (l2 := [(0, .inr (20, v)), (2, zi m), (4, zi (w : Int))]) (st2 := [.inr (20, v), zi (((w : Int) * (sp : Int)) + (sz : Int))]) rfl ?_
    refine zX.getf ⟨rfl, rfl⟩ H_20_v rfl rfl ?_
    refine zX.iadd ⟨rfl, rfl⟩ ?_
    refine zX.sn 1 (pc2 := 35) (l2 := [(0, .inr (20, v)), (2, zi m), (4, zi (w : Int))]) (st2 := [zi m, zi ((((w : Int) * (sp : Int)) + (sz : Int)) + (gr : Int))]) rfl ?_
    refine zX.icmp (tgt := 85) ⟨rfl, rfl⟩ rfl (by omega) (by omega) (fun (e2 : m < ((((w : Int) * (sp : Int)) + (sz : Int)) + (gr : Int))) => ?_) (fun (e2 : ((((w : Int) * (sp : Int)) + (sz : Int)) + (gr : Int)) ≤ m) => ?_)
    · refine zX.ret rfl rfl ?_
      exact k2 e1 e2
    · refine zX.sn 1 (pc2 := 39) (l2 := [(0, .inr (20, v)), (2, zi m), (4, zi (w : Int))]) (st2 := [zi 0]) rfl ?_
      refine zX.sn 1 (pc2 := 41) (l2 := [(5, zi 0), (0, .inr (20, v)), (2, zi m), (4, zi (w : Int))]) (st2 := []) rfl ?_
      refine zX.re [(0, .inr (20, v)), (2, zi m), (4, zi (w : Int)), (5, zi 0)] [1, 2, 3, 0] [5, 0, 2, 4] rfl rfl (by decide) ?_
      exact k3 e1 e2

set_option maxHeartbeats 4000000 in
theorem r_wlg2 {d c s : Nat} {h : xH} {Q : xR → Nat → Nat → xH → Prop} {v sz gr sp wi L : Nat} {fi me : Int} {dr : Int32} {m : Int} {w k : Nat} {hd fn fs fg : Nat → Int32} (hvr : zVr v fi sz gr) (hv : v < 5) (hsz : 1 ≤ sz ∧ sz ≤ 200) (hgr : gr ≤ 200) (hsp : 1 ≤ sp ∧ sp ≤ 200) (hL : L = wi * 8) (hwi : wi ≤ 1000) (hme : me = 99 ∨ me = 115 ∨ me = 109) (hm : -1 ≤ m ∧ m < 1000) (hw : w ≤ 2000) (hp : (w : Int) * (sp : Int) ≤ 1000) (hp0 : 0 ≤ (w : Int) * (sp : Int)) (hk : k ≤ 8) (hwz : w < wi) (H_20_v : h (20, v) = some (.inl (9, [zi (v : Int), zi (zbi false), zi fi, zi (sz : Int), zi (gr : Int), .inr (2, 0), .inr (21, v), .inr (23, v), .inr (25, v), .inl (.int dr), zi me, zi (sp : Int), zi (wi : Int), .inr (26, v), .inr (30, v)]))) (H_25_v : h (25, v) = some (.inr (0, 8, zI hd))) (P_rows : zTal h 26 v L fn fs fg)
    (k1 : (8 ≤ (k : Int)) → zX (d + 2) 95 14 [(0, .inr (20, v)), (2, zi m), (4, zi ((w : Int) + 1))] [] c s h Q)
    (k2 : ((k : Int) < 8) → (¬ 0 < fn ((w * 8) + k)) → zX (d + 2) 95 41 [(0, .inr (20, v)), (2, zi m), (4, zi (w : Int)), (5, zi ((k : Int) + 1))] [] c s h Q)
    (k3 : ((k : Int) < 8) → (0 < fn ((w * 8) + k)) → ∀ h' : xH, h' (25, v) = some (.inr (0, 8, zI (zfi hd k (hd k + Int32.ofInt (-1))))) → (∀ za zb : Nat, ¬ ((za = 25 ∧ zb = v)) → h' (za, zb) = h (za, zb)) → zX (d + 2) 95 41 [(0, .inr (20, v)), (2, zi m), (4, zi (w : Int)), (5, zi ((k : Int) + 1))] [] c s h' Q) :
    zX (d + 2) 95 41 [(0, .inr (20, v)), (2, zi m), (4, zi (w : Int)), (5, zi (k : Int))] [] c s h Q := by
  refine zX.sn 1 (pc2 := 43) (l2 := [(0, .inr (20, v)), (2, zi m), (4, zi (w : Int)), (5, zi (k : Int))]) (st2 := [zi (k : Int)]) rfl ?_
  refine zX.sn 1 (pc2 := 45) (l2 := [(0, .inr (20, v)), (2, zi m), (4, zi (w : Int)), (5, zi (k : Int))]) (st2 := [zi 8, zi (k : Int)]) rfl ?_
  refine zX.icmp (tgt := 79) ⟨rfl, rfl⟩ rfl (by omega) (by omega) (fun (e1 : 8 ≤ (k : Int)) => ?_) (fun (e1 : (k : Int) < 8) => ?_)
  · refine zX.s1 (pc2 := 82) (l2 := [(4, zi ((w : Int) + 1)), (0, .inr (20, v)), (2, zi m), (5, zi (k : Int))]) (st2 := []) ⟨rfl, rfl⟩ (by rw [show (zi ((w : Int) + 1) : xV) = .inl (.int (Int32.ofInt (w : Int) + 1)) from congrArg (fun z => (.inl (.int z) : xV)) (Int32.ofInt_add _ _)]; rfl) ?_
    refine zX.sn 1 (pc2 := 14) (l2 := [(4, zi ((w : Int) + 1)), (0, .inr (20, v)), (2, zi m), (5, zi (k : Int))]) (st2 := []) rfl ?_
    refine zX.re [(0, .inr (20, v)), (2, zi m), (4, zi ((w : Int) + 1))] [1, 2, 0] [4, 0, 2, 5] rfl rfl (by decide) ?_
    exact k1 e1
  · refine zX.sn 1 (pc2 := 49) (l2 := [(0, .inr (20, v)), (2, zi m), (4, zi (w : Int)), (5, zi (k : Int))]) (st2 := [.inr (20, v)]) rfl ?_
    refine zX.getf ⟨rfl, rfl⟩ H_20_v rfl rfl ?_
    refine zX.sn 1 (pc2 := 54) (l2 := [(0, .inr (20, v)), (2, zi m), (4, zi (w : Int)), (5, zi (k : Int))]) (st2 := [zi (w : Int), .inr (26, v)]) rfl ?_
    refine zX.sn 1 (pc2 := 56) (l2 := [(0, .inr (20, v)), (2, zi m), (4, zi (w : Int)), (5, zi (k : Int))]) (st2 := [zi 8, zi (w : Int), .inr (26, v)]) rfl ?_
    refine zX.imul ⟨rfl, rfl⟩ ?_
    refine zX.sn 1 (pc2 := 59) (l2 := [(0, .inr (20, v)), (2, zi m), (4, zi (w : Int)), (5, zi (k : Int))]) (st2 := [zi (k : Int), zi ((w : Int) * 8), .inr (26, v)]) rfl ?_
    refine zX.iadd ⟨rfl, rfl⟩ ?_
    refine zX.call (mid2 := 53) (as := [.inr (26, v), zi (((w : Int) * 8) + (k : Int))]) (rest := []) ⟨rfl, rfl⟩ (fun _ => rfl) (zX.inv rfl (P_rows.1) rfl rfl) ⟨Nat.le_of_ble_eq_true rfl, Nat.le_of_ble_eq_true rfl⟩ ?_
    refine s_has (k := ((w * 8) + k)) (by omega) (by omega) (by omega) (by omega) P_rows (fun (e2 : ¬ 0 < fn ((w * 8) + k)) => ?_) (fun (e2 : 0 < fn ((w * 8) + k)) => ?_)
    · show zX _ 95 63 [(0, .inr (20, v)), (2, zi m), (4, zi (w : Int)), (5, zi (k : Int))] [zi 0] c s _ _
      refine zX.icmp0 (tgt := 73) ⟨rfl, rfl⟩ rfl (by omega) (fun (e3 : 0 = 0) => ?_) (fun (zz : ¬ 0 = 0) => absurd zz (by omega))
      refine zX.s1 (pc2 := 76) (l2 := [(5, zi ((k : Int) + 1)), (0, .inr (20, v)), (2, zi m), (4, zi (w : Int))]) (st2 := []) ⟨rfl, rfl⟩ (by rw [show (zi ((k : Int) + 1) : xV) = .inl (.int (Int32.ofInt (k : Int) + 1)) from congrArg (fun z => (.inl (.int z) : xV)) (Int32.ofInt_add _ _)]; rfl) ?_
      refine zX.sn 1 (pc2 := 41) (l2 := [(5, zi ((k : Int) + 1)), (0, .inr (20, v)), (2, zi m), (4, zi (w : Int))]) (st2 := []) rfl ?_
      refine zX.re [(0, .inr (20, v)), (2, zi m), (4, zi (w : Int)), (5, zi ((k : Int) + 1))] [1, 2, 3, 0] [5, 0, 2, 4] rfl rfl (by decide) ?_
      exact k2 e1 e2
    · show zX _ 95 63 [(0, .inr (20, v)), (2, zi m), (4, zi (w : Int)), (5, zi (k : Int))] [zi 1] c s _ _
      refine zX.icmp0 (tgt := 73) ⟨rfl, rfl⟩ rfl (by omega) (fun (zz : 1 = 0) => absurd zz (by omega)) (fun (e4 : ¬ 1 = 0) => ?_)
      refine zX.sn 1 (pc2 := 67) (l2 := [(0, .inr (20, v)), (2, zi m), (4, zi (w : Int)), (5, zi (k : Int))]) (st2 := [.inr (20, v)]) rfl ?_
      refine zX.sn 1 (pc2 := 69) (l2 := [(0, .inr (20, v)), (2, zi m), (4, zi (w : Int)), (5, zi (k : Int))]) (st2 := [zi (k : Int), .inr (20, v)]) rfl ?_
      refine zX.sn 1 (pc2 := 70) (l2 := [(0, .inr (20, v)), (2, zi m), (4, zi (w : Int)), (5, zi (k : Int))]) (st2 := [zi (-1), zi (k : Int), .inr (20, v)]) rfl ?_
      refine zX.call (mid2 := 81) (as := [.inr (20, v), zi (k : Int), zi (-1)]) (rest := []) ⟨rfl, rfl⟩ (fun _ => rfl) (zX.inv rfl H_20_v rfl rfl) ⟨Nat.le_of_ble_eq_true rfl, Nat.le_of_ble_eq_true rfl⟩ ?_
      refine s_hold (ci := 9) (k := k) rfl (by omega) hvr (by omega) (show zVo _ 9 v false fi sz gr _ _ from H_20_v) H_25_v (fun h1 hv1 hF1 => ?_)
      show zX _ 95 73 [(0, .inr (20, v)), (2, zi m), (4, zi (w : Int)), (5, zi (k : Int))] [] c s _ _
      refine zX.s1 (pc2 := 76) (l2 := [(5, zi ((k : Int) + 1)), (0, .inr (20, v)), (2, zi m), (4, zi (w : Int))]) (st2 := []) ⟨rfl, rfl⟩ (by rw [show (zi ((k : Int) + 1) : xV) = .inl (.int (Int32.ofInt (k : Int) + 1)) from congrArg (fun z => (.inl (.int z) : xV)) (Int32.ofInt_add _ _)]; rfl) ?_
      refine zX.sn 1 (pc2 := 41) (l2 := [(5, zi ((k : Int) + 1)), (0, .inr (20, v)), (2, zi m), (4, zi (w : Int))]) (st2 := []) rfl ?_
      refine zX.re [(0, .inr (20, v)), (2, zi m), (4, zi (w : Int)), (5, zi ((k : Int) + 1))] [1, 2, 3, 0] [5, 0, 2, 4] rfl rfl (by decide) ?_
      exact k3 e1 e2 _ hv1 (fun za zb hn => ((hF1 za zb (by omega)).trans rfl))

set_option maxHeartbeats 4000000 in
theorem r_wa0 {d c s : Nat} {h : xH} {Q : xR → Nat → Nat → xH → Prop} {v sz gr sp wi L : Nat} {fi me : Int} {dr : Int32} {e : zE} (hvr : zVr v fi sz gr) (hv : v < 5) (hsz : 1 ≤ sz ∧ sz ≤ 200) (hgr : gr ≤ 200) (hsp : 1 ≤ sp ∧ sp ≤ 200) (hL : L = wi * 8) (hwi : wi ≤ 1000) (hme : me = 99 ∨ me = 115 ∨ me = 109) (hEe : zEr e) (hkye : zeK e < 8) (htme : zeT e < 1000) (hvae : -99 ≤ zeV e ∧ zeV e ≤ 99) (hahe : -1 ≤ zeA e ∧ zeA e < 1000) (hode : zeO e < 240) (hire : 0 ≤ zbi (zeR e) ∧ zbi (zeR e) ≤ 1) (hile : 0 ≤ zbi (zeL e) ∧ zbi (zeL e) ≤ 1) (H_20_v : h (20, v) = some (.inl (9, [zi (v : Int), zi (zbi false), zi fi, zi (sz : Int), zi (gr : Int), .inr (2, 0), .inr (21, v), .inr (23, v), .inr (25, v), .inl (.int dr), zi me, zi (sp : Int), zi (wi : Int), .inr (26, v), .inr (30, v)]))) (H_8_zeN_e : h (8, zeN e) = some (.inl (1, [zi (zeP e : Int), zi (zbi (zeR e)), zi (zbi (zeL e)), zi (zeK e : Int), zi (zeT e : Int), zi (zeV e), zi (zeO e : Int), zi (zeA e), zi (zeB e)])))
    (k1 : zX (d + 1) 97 18 [(0, .inr (20, v)), (1, .inr (8, zeN e)), (2, zi ((zeT e : Int) / (sp : Int))), (3, zi (zfe sz sp (zeT e : Int) : Int))] [] c s h Q) :
    zX (d + 1) 97 0 [(0, .inr (20, v)), (1, .inr (8, zeN e))] [] c s h Q := by
  refine zX.sn 1 (pc2 := 1) (l2 := [(0, .inr (20, v)), (1, .inr (8, zeN e))]) (st2 := [.inr (20, v)]) rfl ?_
  refine zX.sn 1 (pc2 := 2) (l2 := [(0, .inr (20, v)), (1, .inr (8, zeN e))]) (st2 := [.inr (8, zeN e), .inr (20, v)]) rfl ?_
  refine zX.getf ⟨rfl, rfl⟩ H_8_zeN_e rfl rfl ?_
  refine zX.call (mid2 := 89) (as := [.inr (20, v), zi (zeT e : Int)]) (rest := []) ⟨rfl, rfl⟩ (fun _ => rfl) (zX.inv rfl H_20_v rfl rfl) ⟨Nat.le_of_ble_eq_true rfl, Nat.le_of_ble_eq_true rfl⟩ ?_
  show zX _ 89 0 [(0, .inr (20, v)), (1, zi (zeT e : Int))] [] c s _ _
  refine zX.sn 1 (pc2 := 1) (l2 := [(0, .inr (20, v)), (1, zi (zeT e : Int))]) (st2 := [.inr (20, v)]) rfl ?_
  refine zX.getf ⟨rfl, rfl⟩ H_20_v rfl rfl ?_
  refine zX.icmp0 (tgt := 16) ⟨rfl, rfl⟩ rfl (by omega) (fun (zz : (sp : Int) ≤ 0) => absurd zz (by omega)) (fun (e1 : 0 < (sp : Int)) => ?_)
  refine zX.sn 1 (pc2 := 8) (l2 := [(0, .inr (20, v)), (1, zi (zeT e : Int))]) (st2 := [zi (zeT e : Int)]) rfl ?_
  refine zX.sn 1 (pc2 := 9) (l2 := [(0, .inr (20, v)), (1, zi (zeT e : Int))]) (st2 := [.inr (20, v), zi (zeT e : Int)]) rfl ?_
  refine zX.getf ⟨rfl, rfl⟩ H_20_v rfl rfl ?_
  refine zX.idiv ⟨rfl, rfl⟩ (by omega) (by omega) ?_
  refine zX.sn 1 (pc2 := 17) (l2 := [(0, .inr (20, v)), (1, zi (zeT e : Int))]) (st2 := [zi ((zeT e : Int) / (sp : Int))]) rfl ?_
  refine zX.ret rfl rfl ?_
  show zX _ 97 8 [(0, .inr (20, v)), (1, .inr (8, zeN e))] [zi ((zeT e : Int) / (sp : Int))] c s _ _
  refine zX.sn 1 (pc2 := 9) (l2 := [(2, zi ((zeT e : Int) / (sp : Int))), (0, .inr (20, v)), (1, .inr (8, zeN e))]) (st2 := []) rfl ?_
  refine zX.sn 1 (pc2 := 10) (l2 := [(2, zi ((zeT e : Int) / (sp : Int))), (0, .inr (20, v)), (1, .inr (8, zeN e))]) (st2 := [.inr (20, v)]) rfl ?_
  refine zX.sn 1 (pc2 := 11) (l2 := [(2, zi ((zeT e : Int) / (sp : Int))), (0, .inr (20, v)), (1, .inr (8, zeN e))]) (st2 := [.inr (8, zeN e), .inr (20, v)]) rfl ?_
  refine zX.getf ⟨rfl, rfl⟩ H_8_zeN_e rfl rfl ?_
  refine zX.call (mid2 := 88) (as := [.inr (20, v), zi (zeT e : Int)]) (rest := []) ⟨rfl, rfl⟩ (fun _ => rfl) (zX.inv rfl H_20_v rfl rfl) ⟨Nat.le_of_ble_eq_true rfl, Nat.le_of_ble_eq_true rfl⟩ ?_
  refine s_fe (by omega) (by omega) (by omega) H_20_v  ?_
  show zX _ 97 17 [(2, zi ((zeT e : Int) / (sp : Int))), (0, .inr (20, v)), (1, .inr (8, zeN e))] [zi (zfe sz sp (zeT e : Int) : Int)] c s _ _
  refine zX.sn 1 (pc2 := 18) (l2 := [(3, zi (zfe sz sp (zeT e : Int) : Int)), (2, zi ((zeT e : Int) / (sp : Int))), (0, .inr (20, v)), (1, .inr (8, zeN e))]) (st2 := []) rfl ?_
  refine zX.re [(0, .inr (20, v)), (1, .inr (8, zeN e)), (2, zi ((zeT e : Int) / (sp : Int))), (3, zi (zfe sz sp (zeT e : Int) : Int))] [2, 3, 1, 0] [3, 2, 0, 1] rfl rfl (by decide) ?_
  exact k1

set_option maxHeartbeats 4000000 in
theorem r_wa1 {d c s : Nat} {h : xH} {Q : xR → Nat → Nat → xH → Prop} {v sz gr sp wi L : Nat} {fi me : Int} {dr : Int32} {e : zE} {w : Nat} {la : Int} {gn gs gg : Nat → Int32} (hvr : zVr v fi sz gr) (hv : v < 5) (hsz : 1 ≤ sz ∧ sz ≤ 200) (hgr : gr ≤ 200) (hsp : 1 ≤ sp ∧ sp ≤ 200) (hL : L = wi * 8) (hwi : wi ≤ 1000) (hme : me = 99 ∨ me = 115 ∨ me = 109) (hEe : zEr e) (hkye : zeK e < 8) (htme : zeT e < 1000) (hvae : -99 ≤ zeV e ∧ zeV e ≤ 99) (hahe : -1 ≤ zeA e ∧ zeA e < 1000) (hode : zeO e < 240) (hire : 0 ≤ zbi (zeR e) ∧ zbi (zeR e) ≤ 1) (hile : 0 ≤ zbi (zeL e) ∧ zbi (zeL e) ≤ 1) (hw : w ≤ 2000) (hla : 0 ≤ la ∧ la ≤ 1000) (hwz : w ≤ la → w < wi ∧ (w : Int) * (sp : Int) ≤ 1000) (hp0 : 0 ≤ (w : Int) * (sp : Int) ∧ (w : Int) * (sp : Int) ≤ 400000) (H_20_v : h (20, v) = some (.inl (9, [zi (v : Int), zi (zbi false), zi fi, zi (sz : Int), zi (gr : Int), .inr (2, 0), .inr (21, v), .inr (23, v), .inr (25, v), .inl (.int dr), zi me, zi (sp : Int), zi (wi : Int), .inr (26, v), .inr (30, v)]))) (H_8_zeN_e : h (8, zeN e) = some (.inl (1, [zi (zeP e : Int), zi (zbi (zeR e)), zi (zbi (zeL e)), zi (zeK e : Int), zi (zeT e : Int), zi (zeV e), zi (zeO e : Int), zi (zeA e), zi (zeB e)]))) (P_again : zTal h 30 v L gn gs gg)
    (k1 : (la < (w : Int)) → Q (.inl none) c s h)
    (k2 : ((w : Int) ≤ la) → (zeA e < ((((w : Int) * (sp : Int)) + (sz : Int)) + (gr : Int))) → ∀ h' : xH, zTal h' 30 v L (zfi gn ((w * 8) + zeK e) (gn ((w * 8) + zeK e) + 1)) (zfi gs ((w * 8) + zeK e) (gs ((w * 8) + zeK e) + Int32.ofInt (zeV e))) (zfi gg ((w * 8) + zeK e) (zgr (gg ((w * 8) + zeK e)) (Int32.ofInt (zeV e)) (gn ((w * 8) + zeK e)))) → (∀ za zb : Nat, ¬ ((30 ≤ za ∧ za < 30 + 4 ∧ zb = v)) → h' (za, zb) = h (za, zb)) → zX (d + 2) 97 18 [(0, .inr (20, v)), (1, .inr (8, zeN e)), (2, zi la), (3, zi ((w : Int) + 1))] [] c s h' Q)
    (k3 : ((w : Int) ≤ la) → (((((w : Int) * (sp : Int)) + (sz : Int)) + (gr : Int)) ≤ zeA e) → zX (d + 2) 97 18 [(0, .inr (20, v)), (1, .inr (8, zeN e)), (2, zi la), (3, zi ((w : Int) + 1))] [] c s h Q) :
    zX (d + 2) 97 18 [(0, .inr (20, v)), (1, .inr (8, zeN e)), (2, zi la), (3, zi (w : Int))] [] c s h Q := by
  refine zX.sn 1 (pc2 := 19) (l2 := [(0, .inr (20, v)), (1, .inr (8, zeN e)), (2, zi la), (3, zi (w : Int))]) (st2 := [zi (w : Int)]) rfl ?_
  refine zX.sn 1 (pc2 := 20) (l2 := [(0, .inr (20, v)), (1, .inr (8, zeN e)), (2, zi la), (3, zi (w : Int))]) (st2 := [zi la, zi (w : Int)]) rfl ?_
  refine zX.icmp (tgt := 58) ⟨rfl, rfl⟩ rfl (by omega) (by omega) (fun (e1 : la < (w : Int)) => ?_) (fun (e1 : (w : Int) ≤ la) => ?_)
  · refine zX.ret rfl rfl ?_
    exact k1 e1
  · refine zX.sn 1 (pc2 := 24) (l2 := [(0, .inr (20, v)), (1, .inr (8, zeN e)), (2, zi la), (3, zi (w : Int))]) (st2 := [.inr (20, v)]) rfl ?_
    refine zX.sn 1 (pc2 := 25) (l2 := [(0, .inr (20, v)), (1, .inr (8, zeN e)), (2, zi la), (3, zi (w : Int))]) (st2 := [zi (w : Int), .inr (20, v)]) rfl ?_
    refine zX.sn 1 (pc2 := 26) (l2 := [(0, .inr (20, v)), (1, .inr (8, zeN e)), (2, zi la), (3, zi (w : Int))]) (st2 := [.inr (8, zeN e), zi (w : Int), .inr (20, v)]) rfl ?_
    refine zX.call (mid2 := 90) (as := [.inr (20, v), zi (w : Int), .inr (8, zeN e)]) (rest := []) ⟨rfl, rfl⟩ (fun _ => rfl) (zX.inv rfl H_20_v rfl rfl) ⟨Nat.le_of_ble_eq_true rfl, Nat.le_of_ble_eq_true rfl⟩ ?_
    show zX _ 90 0 [(0, .inr (20, v)), (1, zi (w : Int)), (2, .inr (8, zeN e))] [] c s _ _
    refine zX.sn 1 (pc2 := 1) (l2 := [(0, .inr (20, v)), (1, zi (w : Int)), (2, .inr (8, zeN e))]) (st2 := [.inr (8, zeN e)]) rfl ?_
    refine zX.getf ⟨rfl, rfl⟩ H_8_zeN_e rfl rfl ?_
    refine zX.sn 1 (pc2 := 5) (l2 := [(0, .inr (20, v)), (1, zi (w : Int)), (2, .inr (8, zeN e))]) (st2 := [.inr (20, v), zi (zeA e)]) rfl ?_
    refine zX.sn 1 (pc2 := 6) (l2 := [(0, .inr (20, v)), (1, zi (w : Int)), (2, .inr (8, zeN e))]) (st2 := [zi (w : Int), .inr (20, v), zi (zeA e)]) rfl ?_
    refine zX.call (mid2 := 87) (as := [.inr (20, v), zi (w : Int)]) (rest := [zi (zeA e)]) ⟨rfl, rfl⟩ (fun _ => rfl) (zX.inv rfl H_20_v rfl rfl) ⟨Nat.le_of_ble_eq_true rfl, Nat.le_of_ble_eq_true rfl⟩ ?_
    show zX _ 87 0 [(0, .inr (20, v)), (1, zi (w : Int))] [] c s _ _
    refine zX.sn 1 (pc2 := 1) (l2 := [(0, .inr (20, v)), (1, zi (w : Int))]) (st2 := [zi (w : Int)]) rfl ?_
    refine zX.sn 1 (pc2 := 2) (l2 := [(0, .inr (20, v)), (1, zi (w : Int))]) (st2 := [.inr (20, v), zi (w : Int)]) rfl ?_
    refine zX.getf ⟨rfl, rfl⟩ H_20_v rfl rfl ?_
    refine zX.imul ⟨rfl, rfl⟩ ?_
    refine zX.sn 1 (pc2 := 7) (l2 := [(0, .inr (20, v)), (1, zi (w : Int))]) (st2 := [.inr (20, v), zi ((w : Int) * (sp : Int))]) rfl ?_
    refine zX.getf ⟨rfl, rfl⟩ H_20_v rfl rfl ?_
    refine zX.iadd ⟨rfl, rfl⟩ ?_
    refine zX.ret rfl rfl ?_
    show zX _ 90 9 [(0, .inr (20, v)), (1, zi (w : Int)), (2, .inr (8, zeN e))] [zi (((w : Int) * (sp : Int)) + (sz : Int)), zi (zeA e)] c s _ _
    refine zX.sn 1 (pc2 := 10) (l2 := [(0, .inr (20, v)), (1, zi (w : Int)), (2, .inr (8, zeN e))]) (st2 := [.inr (20, v), zi (((w : Int) * (sp : Int)) + (sz : Int)), zi (zeA e)]) rfl ?_
    refine zX.getf ⟨rfl, rfl⟩ H_20_v rfl rfl ?_
    refine zX.iadd ⟨rfl, rfl⟩ ?_
    refine zX.icmp (tgt := 21) ⟨rfl, rfl⟩ rfl (by omega) (by omega) (fun (e2 : zeA e < ((((w : Int) * (sp : Int)) + (sz : Int)) + (gr : Int))) => ?_) (fun (e2 : ((((w : Int) * (sp : Int)) + (sz : Int)) + (gr : Int)) ≤ zeA e) => ?_)
    · refine zX.sn 1 (pc2 := 22) (l2 := [(0, .inr (20, v)), (1, zi (w : Int)), (2, .inr (8, zeN e))]) (st2 := [zi 0]) rfl ?_
      refine zX.ret rfl (zret_z rfl (by decide)) ?_
      show zX _ 97 29 [(0, .inr (20, v)), (1, .inr (8, zeN e)), (2, zi la), (3, zi (w : Int))] [zi 0] c s _ _
      refine zX.icmp0 (tgt := 52) ⟨rfl, rfl⟩ rfl (by omega) (fun (zz : ¬ 0 = 0) => absurd zz (by omega)) (fun (e3 : 0 = 0) => ?_)
      refine zX.sn 1 (pc2 := 33) (l2 := [(0, .inr (20, v)), (1, .inr (8, zeN e)), (2, zi la), (3, zi (w : Int))]) (st2 := [.inr (20, v)]) rfl ?_
      refine zX.getf ⟨rfl, rfl⟩ H_20_v rfl rfl ?_
      refine zX.sn 1 (pc2 := 37) (l2 := [(0, .inr (20, v)), (1, .inr (8, zeN e)), (2, zi la), (3, zi (w : Int))]) (st2 := [zi (w : Int), .inr (30, v)]) rfl ?_
      refine zX.sn 1 (pc2 := 39) (l2 := [(0, .inr (20, v)), (1, .inr (8, zeN e)), (2, zi la), (3, zi (w : Int))]) (st2 := [zi 8, zi (w : Int), .inr (30, v)]) rfl ?_
      refine zX.imul ⟨rfl, rfl⟩ ?_
      refine zX.sn 1 (pc2 := 41) (l2 := [(0, .inr (20, v)), (1, .inr (8, zeN e)), (2, zi la), (3, zi (w : Int))]) (st2 := [.inr (8, zeN e), zi ((w : Int) * 8), .inr (30, v)]) rfl ?_
      refine zX.getf ⟨rfl, rfl⟩ H_8_zeN_e rfl rfl ?_
      refine zX.iadd ⟨rfl, rfl⟩ ?_
      refine zX.sn 1 (pc2 := 46) (l2 := [(0, .inr (20, v)), (1, .inr (8, zeN e)), (2, zi la), (3, zi (w : Int))]) (st2 := [.inr (8, zeN e), zi (((w : Int) * 8) + (zeK e : Int)), .inr (30, v)]) rfl ?_
      refine zX.getf ⟨rfl, rfl⟩ H_8_zeN_e rfl rfl ?_
      refine zX.call (mid2 := 54) (as := [.inr (30, v), zi (((w : Int) * 8) + (zeK e : Int)), zi (zeV e)]) (rest := []) ⟨rfl, rfl⟩ (fun _ => rfl) (zX.inv rfl (P_again.1) rfl rfl) ⟨Nat.le_of_ble_eq_true rfl, Nat.le_of_ble_eq_true rfl⟩ ?_
      refine s_tadd (k := ((w * 8) + zeK e)) (by omega) (by omega) (by omega) (by omega) P_again (fun h1 hv1 hF1 => ?_)
      show zX _ 97 52 [(0, .inr (20, v)), (1, .inr (8, zeN e)), (2, zi la), (3, zi (w : Int))] [] c s _ _
      refine zX.s1 (pc2 := 55) (l2 := [(3, zi ((w : Int) + 1)), (0, .inr (20, v)), (1, .inr (8, zeN e)), (2, zi la)]) (st2 := []) ⟨rfl, rfl⟩ (by rw [show (zi ((w : Int) + 1) : xV) = .inl (.int (Int32.ofInt (w : Int) + 1)) from congrArg (fun z => (.inl (.int z) : xV)) (Int32.ofInt_add _ _)]; rfl) ?_
      refine zX.sn 1 (pc2 := 18) (l2 := [(3, zi ((w : Int) + 1)), (0, .inr (20, v)), (1, .inr (8, zeN e)), (2, zi la)]) (st2 := []) rfl ?_
      refine zX.re [(0, .inr (20, v)), (1, .inr (8, zeN e)), (2, zi la), (3, zi ((w : Int) + 1))] [1, 2, 3, 0] [3, 0, 1, 2] rfl rfl (by decide) ?_
      exact k2 e1 e2 _ hv1 (fun za zb hn => ((hF1 za zb (by omega)).trans rfl))
    · refine zX.sn 1 (pc2 := 18) (l2 := [(0, .inr (20, v)), (1, zi (w : Int)), (2, .inr (8, zeN e))]) (st2 := [zi 1]) rfl ?_
      refine zX.sn 1 (pc2 := 22) (l2 := [(0, .inr (20, v)), (1, zi (w : Int)), (2, .inr (8, zeN e))]) (st2 := [zi 1]) rfl ?_
      refine zX.ret rfl (zret_z rfl (by decide)) ?_
      show zX _ 97 29 [(0, .inr (20, v)), (1, .inr (8, zeN e)), (2, zi la), (3, zi (w : Int))] [zi 1] c s _ _
      refine zX.icmp0 (tgt := 52) ⟨rfl, rfl⟩ rfl (by omega) (fun (e4 : ¬ 1 = 0) => ?_) (fun (zz : 1 = 0) => absurd zz (by omega))
      refine zX.s1 (pc2 := 55) (l2 := [(3, zi ((w : Int) + 1)), (0, .inr (20, v)), (1, .inr (8, zeN e)), (2, zi la)]) (st2 := []) ⟨rfl, rfl⟩ (by rw [show (zi ((w : Int) + 1) : xV) = .inl (.int (Int32.ofInt (w : Int) + 1)) from congrArg (fun z => (.inl (.int z) : xV)) (Int32.ofInt_add _ _)]; rfl) ?_
      refine zX.sn 1 (pc2 := 18) (l2 := [(3, zi ((w : Int) + 1)), (0, .inr (20, v)), (1, .inr (8, zeN e)), (2, zi la)]) (st2 := []) rfl ?_
      refine zX.re [(0, .inr (20, v)), (1, .inr (8, zeN e)), (2, zi la), (3, zi ((w : Int) + 1))] [1, 2, 3, 0] [3, 0, 1, 2] rfl rfl (by decide) ?_
      exact k3 e1 e2

end ZR56
