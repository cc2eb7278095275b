set_option maxRecDepth 100000
section ZR62
set_option maxHeartbeats 4000000 in
theorem r_sre {d c s : Nat} {h : xH} {Q : xR → Nat → Nat → xH → Prop} {v sz gr : Nat} {fi me : Int} {dr : Int32} {fn fs fg : Nat → Int32} {ff : Nat → Int} {k : Nat} {t : Int} (hvr : zVr v fi sz gr) (hv : v < 5) (hsz : 1 ≤ sz ∧ sz ≤ 200) (hgr : gr ≤ 200) (hme : me = 99 ∨ me = 115 ∨ me = 109) (hk : k < 8000) (hfk : 0 ≤ ff k ∧ ff k ≤ 1000) (ht : 0 ≤ t ∧ t ≤ 1000) (H_20_v : h (20, v) = some (.inl (6, [zi (v : Int), zi (zbi false), zi fi, zi (sz : Int), zi (gr : Int), .inr (2, 0), .inr (21, v), .inr (23, v), .inr (25, v), .inl (.int dr), zi me, .inr (26, v), .inr (30, v), .inr (34, v), .inr (35, v)]))) (H_34_v : h (34, v) = some (.inr (0, 8000, zA ff))) (P_rows : zTal h 26 v 8001 fn fs fg)
    (k1 : (¬ 0 < fn k) → Q (.inl (some (zi 0))) c s h)
    (k2 : (0 < fn k) → (t < (ff k - (sz : Int))) → Q (.inl (some (zi 0))) c s h)
    (k3 : (0 < fn k) → ((ff k - (sz : Int)) ≤ t) → ((((k : Int) / 8) + (sz : Int)) < t) → Q (.inl (some (zi 0))) c s h)
    (k4 : (0 < fn k) → ((ff k - (sz : Int)) ≤ t) → (t ≤ (((k : Int) / 8) + (sz : Int))) → Q (.inl (some (zi 1))) c s h) :
    zX (d + 2) 39 0 [(0, .inr (20, v)), (1, zi (k : Int)), (2, zi t)] [] c s h Q := by
  refine zX.sn 1 (pc2 := 1) (l2 := [(0, .inr (20, v)), (1, zi (k : Int)), (2, zi t)]) (st2 := [.inr (20, v)]) rfl ?_
  refine zX.getf ⟨rfl, rfl⟩ H_20_v rfl rfl ?_
  refine zX.sn 1 (pc2 := 5) (l2 := [(0, .inr (20, v)), (1, zi (k : Int)), (2, zi t)]) (st2 := [zi (k : Int), .inr (26, v)]) rfl ?_
  refine zX.call (mid2 := 53) (as := [.inr (26, v), zi (k : Int)]) (rest := []) ⟨rfl, rfl⟩ (fun _ => rfl) (zX.inv rfl (P_rows.1) rfl rfl) ⟨Nat.le_of_ble_eq_true rfl, Nat.le_of_ble_eq_true rfl⟩ ?_
  refine s_has (k := k) rfl (by omega) (by omega) (by omega) P_rows (fun (e1 : ¬ 0 < fn k) => ?_) (fun (e1 : 0 < fn k) => ?_)
  · show zX _ 39 8 [(0, .inr (20, v)), (1, zi (k : Int)), (2, zi t)] [zi 0] c s _ _
    refine zX.icmp0 (tgt := 42) ⟨rfl, rfl⟩ rfl (by omega) (fun (e2 : 0 = 0) => ?_) (fun (zz : ¬ 0 = 0) => absurd zz (by omega))
    refine zX.sn 1 (pc2 := 43) (l2 := [(0, .inr (20, v)), (1, zi (k : Int)), (2, zi t)]) (st2 := [zi 0]) rfl ?_
    refine zX.ret rfl (zret_z rfl (by decide)) ?_
    exact k1 e1
  · show zX _ 39 8 [(0, .inr (20, v)), (1, zi (k : Int)), (2, zi t)] [zi 1] c s _ _
    refine zX.icmp0 (tgt := 42) ⟨rfl, rfl⟩ rfl (by omega) (fun (zz : 1 = 0) => absurd zz (by omega)) (fun (e3 : ¬ 1 = 0) => ?_)
    refine zX.sn 1 (pc2 := 12) (l2 := [(0, .inr (20, v)), (1, zi (k : Int)), (2, zi t)]) (st2 := [.inr (20, v)]) rfl ?_
    refine zX.sn 1 (pc2 := 13) (l2 := [(0, .inr (20, v)), (1, zi (k : Int)), (2, zi t)]) (st2 := [zi (k : Int), .inr (20, v)]) rfl ?_
    refine zX.call (mid2 := 38) (as := [.inr (20, v), zi (k : Int)]) (rest := []) ⟨rfl, rfl⟩ (fun _ => rfl) (zX.inv rfl H_20_v rfl rfl) ⟨Nat.le_of_ble_eq_true rfl, Nat.le_of_ble_eq_true rfl⟩ ?_
    show zX _ 38 0 [(0, .inr (20, v)), (1, zi (k : Int))] [] c s _ _
    refine zX.sn 1 (pc2 := 1) (l2 := [(0, .inr (20, v)), (1, zi (k : Int))]) (st2 := [zi (k : Int)]) rfl ?_
    refine zX.icmp0 (tgt := 22) ⟨rfl, rfl⟩ rfl (by omega) (fun (zz : (k : Int) < 0) => absurd zz (by omega)) (fun (e4 : 0 ≤ (k : Int)) => ?_)
    refine zX.sn 1 (pc2 := 5) (l2 := [(0, .inr (20, v)), (1, zi (k : Int))]) (st2 := [zi (k : Int)]) rfl ?_
    refine zX.sn 1 (pc2 := 6) (l2 := [(0, .inr (20, v)), (1, zi (k : Int))]) (st2 := [.inr (20, v), zi (k : Int)]) rfl ?_
    refine zX.getf ⟨rfl, rfl⟩ H_20_v rfl rfl ?_
    refine zX.alen ⟨rfl, rfl⟩ H_34_v ?_
    show zX _ 38 10 [(0, .inr (20, v)), (1, zi (k : Int))] [zi 8000, zi (k : Int)] c s _ _
    refine zX.icmp (tgt := 22) ⟨rfl, rfl⟩ rfl (by omega) (by omega) (fun (zz : 8000 ≤ (k : Int)) => absurd zz (by omega)) (fun (e5 : (k : Int) < 8000) => ?_)
    refine zX.sn 1 (pc2 := 14) (l2 := [(0, .inr (20, v)), (1, zi (k : Int))]) (st2 := [.inr (20, v)]) rfl ?_
    refine zX.getf ⟨rfl, rfl⟩ H_20_v rfl rfl ?_
    refine zX.sn 1 (pc2 := 18) (l2 := [(0, .inr (20, v)), (1, zi (k : Int))]) (st2 := [zi (k : Int), .inr (34, v)]) rfl ?_
    refine zX.iald (j := k) ⟨rfl, rfl⟩ H_34_v rfl (by omega) (by omega) ?_
    show zX _ 38 19 [(0, .inr (20, v)), (1, zi (k : Int))] [zi (ff k)] c s _ _
    refine zX.sn 1 (pc2 := 23) (l2 := [(0, .inr (20, v)), (1, zi (k : Int))]) (st2 := [zi (ff k)]) rfl ?_
    refine zX.ret rfl rfl ?_
    show zX _ 39 16 [(0, .inr (20, v)), (1, zi (k : Int)), (2, zi t)] [zi (ff k)] c s _ _
    refine zX.sn 1 (pc2 := 17) (l2 := [(0, .inr (20, v)), (1, zi (k : Int)), (2, zi t)]) (st2 := [.inr (20, v), zi (ff k)]) rfl ?_
    refine zX.getf ⟨rfl, rfl⟩ H_20_v rfl rfl ?_
    refine zX.isub ⟨rfl, rfl⟩ ?_
    refine zX.sn 1 (pc2 := 22) (l2 := [(0, .inr (20, v)), (1, zi (k : Int)), (2, zi t)]) (st2 := [zi t, zi (ff k - (sz : Int))]) rfl ?_
    refine zX.icmp (tgt := 42) ⟨rfl, rfl⟩ rfl (by omega) (by omega) (fun (e6 : t < (ff k - (sz : Int))) => ?_) (fun (e6 : (ff k - (sz : Int)) ≤ t) => ?_)
    · refine zX.sn 1 (pc2 := 43) (l2 := [(0, .inr (20, v)), (1, zi (k : Int)), (2, zi t)]) (st2 := [zi 0]) rfl ?_
      refine zX.ret rfl (zret_z rfl (by decide)) ?_
      exact k2 e1 e6
    · refine zX.sn 1 (pc2 := 26) (l2 := [(0, .inr (20, v)), (1, zi (k : Int)), (2, zi t)]) (st2 := [zi (k : Int)]) rfl ?_
      refine zX.call (mid2 := 37) (as := [zi (k : Int)]) (rest := []) ⟨rfl, rfl⟩ (fun _ => rfl) rfl ⟨Nat.le_of_ble_eq_true rfl, Nat.le_of_ble_eq_true rfl⟩ ?_
      show zX _ 37 0 [(0, zi (k : Int))] [] c s _ _
      refine zX.sn 1 (pc2 := 1) (l2 := [(0, zi (k : Int))]) (st2 := [zi (k : Int)]) rfl ?_
      refine zX.sn 1 (pc2 := 3) (l2 := [(0, zi (k : Int))]) (st2 := [zi 8, zi (k : Int)]) rfl ?_
      refine zX.idiv ⟨rfl, rfl⟩ (by omega) (by omega) ?_
      refine zX.ret rfl rfl ?_
      show zX _ 39 29 [(0, .inr (20, v)), (1, zi (k : Int)), (2, zi t)] [zi ((k : Int) / 8)] c s _ _
      refine zX.sn 1 (pc2 := 30) (l2 := [(0, .inr (20, v)), (1, zi (k : Int)), (2, zi t)]) (st2 := [.inr (20, v), zi ((k : Int) / 8)]) rfl ?_
      refine zX.getf ⟨rfl, rfl⟩ H_20_v rfl rfl ?_
      refine zX.iadd ⟨rfl, rfl⟩ ?_
      refine zX.sn 1 (pc2 := 35) (l2 := [(0, .inr (20, v)), (1, zi (k : Int)), (2, zi t)]) (st2 := [zi t, zi (((k : Int) / 8) + (sz : Int))]) rfl ?_
      refine zX.icmp (tgt := 42) ⟨rfl, rfl⟩ rfl (by omega) (by omega) (fun (e7 : (((k : Int) / 8) + (sz : Int)) < t) => ?_) (fun (e7 : t ≤ (((k : Int) / 8) + (sz : Int))) => ?_)
      · refine zX.sn 1 (pc2 := 43) (l2 := [(0, .inr (20, v)), (1, zi (k : Int)), (2, zi t)]) (st2 := [zi 0]) rfl ?_
        refine zX.ret rfl (zret_z rfl (by decide)) ?_
        exact k3 e1 e6 e7
      · refine zX.sn 1 (pc2 := 39) (l2 := [(0, .inr (20, v)), (1, zi (k : Int)), (2, zi t)]) (st2 := [zi 1]) rfl ?_
        refine zX.sn 1 (pc2 := 43) (l2 := [(0, .inr (20, v)), (1, zi (k : Int)), (2, zi t)]) (st2 := [zi 1]) rfl ?_
        refine zX.ret rfl (zret_z rfl (by decide)) ?_
        exact k4 e1 e6 e7

set_option maxHeartbeats 4000000 in
theorem r_sres {d c s : Nat} {h : xH} {Q : xR → Nat → Nat → xH → Prop} {v sz gr : Nat} {fi me : Int} {dr : Int32} {fn fs fg : Nat → Int32} {ff : Nat → Int} {k : Nat} (hvr : zVr v fi sz gr) (hv : v < 5) (hsz : 1 ≤ sz ∧ sz ≤ 200) (hgr : gr ≤ 200) (hme : me = 99 ∨ me = 115 ∨ me = 109) (hk : k < 8000) (hfk : 0 ≤ ff k ∧ ff k ≤ 1000) (H_20_v : h (20, v) = some (.inl (6, [zi (v : Int), zi (zbi false), zi fi, zi (sz : Int), zi (gr : Int), .inr (2, 0), .inr (21, v), .inr (23, v), .inr (25, v), .inl (.int dr), zi me, .inr (26, v), .inr (30, v), .inr (34, v), .inr (35, v)]))) (H_34_v : h (34, v) = some (.inr (0, 8000, zA ff))) (P_rows : zTal h 26 v 8001 fn fs fg)
    (k1 : Q (.inl (some (.inl (.long (zro (v : Int) ((k : Int) % 8) (ff k) ((k : Int) / 8) (zme me (fn k) (fs k))))))) c s h) :
    zX (d + 2) 40 0 [(0, .inr (20, v)), (1, zi (k : Int))] [] c s h Q := by
  refine zX.sn 1 (pc2 := 1) (l2 := [(0, .inr (20, v)), (1, zi (k : Int))]) (st2 := [zi (k : Int)]) rfl ?_
  refine zX.sn 1 (pc2 := 3) (l2 := [(0, .inr (20, v)), (1, zi (k : Int))]) (st2 := [zi 8, zi (k : Int)]) rfl ?_
  refine zX.irem ⟨rfl, rfl⟩ (by omega) (by omega) ?_
  refine zX.sn 1 (pc2 := 5) (l2 := [(2, zi ((k : Int) % 8)), (0, .inr (20, v)), (1, zi (k : Int))]) (st2 := []) rfl ?_
  refine zX.sn 1 (pc2 := 6) (l2 := [(2, zi ((k : Int) % 8)), (0, .inr (20, v)), (1, zi (k : Int))]) (st2 := [.inr (20, v)]) rfl ?_
  refine zX.getf ⟨rfl, rfl⟩ H_20_v rfl rfl ?_
  refine zX.sn 1 (pc2 := 10) (l2 := [(2, zi ((k : Int) % 8)), (0, .inr (20, v)), (1, zi (k : Int))]) (st2 := [zi ((k : Int) % 8), zi (v : Int)]) rfl ?_
  refine zX.sn 1 (pc2 := 11) (l2 := [(2, zi ((k : Int) % 8)), (0, .inr (20, v)), (1, zi (k : Int))]) (st2 := [.inr (20, v), zi ((k : Int) % 8), zi (v : Int)]) rfl ?_
  refine zX.sn 1 (pc2 := 12) (l2 := [(2, zi ((k : Int) % 8)), (0, .inr (20, v)), (1, zi (k : Int))]) (st2 := [zi (k : Int), .inr (20, v), zi ((k : Int) % 8), zi (v : Int)]) rfl ?_
  refine zX.call (mid2 := 38) (as := [.inr (20, v), zi (k : Int)]) (rest := [zi ((k : Int) % 8), zi (v : Int)]) ⟨rfl, rfl⟩ (fun _ => rfl) (zX.inv rfl H_20_v rfl rfl) ⟨Nat.le_of_ble_eq_true rfl, Nat.le_of_ble_eq_true rfl⟩ ?_
  show zX _ 38 0 [(0, .inr (20, v)), (1, zi (k : Int))] [] c s _ _
  refine zX.sn 1 (pc2 := 1) (l2 := [(0, .inr (20, v)), (1, zi (k : Int))]) (st2 := [zi (k : Int)]) rfl ?_
  refine zX.icmp0 (tgt := 22) ⟨rfl, rfl⟩ rfl (by omega) (fun (zz : (k : Int) < 0) => absurd zz (by omega)) (fun (e1 : 0 ≤ (k : Int)) => ?_)
  refine zX.sn 1 (pc2 := 5) (l2 := [(0, .inr (20, v)), (1, zi (k : Int))]) (st2 := [zi (k : Int)]) rfl ?_
  refine zX.sn 1 (pc2 := 6) (l2 := [(0, .inr (20, v)), (1, zi (k : Int))]) (st2 := [.inr (20, v), zi (k : Int)]) rfl ?_
  refine zX.getf ⟨rfl, rfl⟩ H_20_v rfl rfl ?_
  refine zX.alen ⟨rfl, rfl⟩ H_34_v ?_
  show zX _ 38 10 [(0, .inr (20, v)), (1, zi (k : Int))] [zi 8000, zi (k : Int)] c s _ _
  refine zX.icmp (tgt := 22) ⟨rfl, rfl⟩ rfl (by omega) (by omega) (fun (zz : 8000 ≤ (k : Int)) => absurd zz (by omega)) (fun (e2 : (k : Int) < 8000) => ?_)
  refine zX.sn 1 (pc2 := 14) (l2 := [(0, .inr (20, v)), (1, zi (k : Int))]) (st2 := [.inr (20, v)]) rfl ?_
  refine zX.getf ⟨rfl, rfl⟩ H_20_v rfl rfl ?_
  refine zX.sn 1 (pc2 := 18) (l2 := [(0, .inr (20, v)), (1, zi (k : Int))]) (st2 := [zi (k : Int), .inr (34, v)]) rfl ?_
  refine zX.iald (j := k) ⟨rfl, rfl⟩ H_34_v rfl (by omega) (by omega) ?_
  show zX _ 38 19 [(0, .inr (20, v)), (1, zi (k : Int))] [zi (ff k)] c s _ _
  refine zX.sn 1 (pc2 := 23) (l2 := [(0, .inr (20, v)), (1, zi (k : Int))]) (st2 := [zi (ff k)]) rfl ?_
  refine zX.ret rfl rfl ?_
  show zX _ 40 15 [(2, zi ((k : Int) % 8)), (0, .inr (20, v)), (1, zi (k : Int))] [zi (ff k), zi ((k : Int) % 8), zi (v : Int)] c s _ _
  refine zX.sn 1 (pc2 := 16) (l2 := [(2, zi ((k : Int) % 8)), (0, .inr (20, v)), (1, zi (k : Int))]) (st2 := [zi (k : Int), zi (ff k), zi ((k : Int) % 8), zi (v : Int)]) rfl ?_
  refine zX.call (mid2 := 37) (as := [zi (k : Int)]) (rest := [zi (ff k), zi ((k : Int) % 8), zi (v : Int)]) ⟨rfl, rfl⟩ (fun _ => rfl) rfl ⟨Nat.le_of_ble_eq_true rfl, Nat.le_of_ble_eq_true rfl⟩ ?_
  show zX _ 37 0 [(0, zi (k : Int))] [] c s _ _
  refine zX.sn 1 (pc2 := 1) (l2 := [(0, zi (k : Int))]) (st2 := [zi (k : Int)]) rfl ?_
  refine zX.sn 1 (pc2 := 3) (l2 := [(0, zi (k : Int))]) (st2 := [zi 8, zi (k : Int)]) rfl ?_
  refine zX.idiv ⟨rfl, rfl⟩ (by omega) (by omega) ?_
  refine zX.ret rfl rfl ?_
  show zX _ 40 19 [(2, zi ((k : Int) % 8)), (0, .inr (20, v)), (1, zi (k : Int))] [zi ((k : Int) / 8), zi (ff k), zi ((k : Int) % 8), zi (v : Int)] c s _ _
  refine zX.sn 1 (pc2 := 20) (l2 := [(2, zi ((k : Int) % 8)), (0, .inr (20, v)), (1, zi (k : Int))]) (st2 := [.inr (20, v), zi ((k : Int) / 8), zi (ff k), zi ((k : Int) % 8), zi (v : Int)]) rfl ?_
  refine zX.getf ⟨rfl, rfl⟩ H_20_v rfl rfl ?_
  refine zX.sn 1 (pc2 := 24) (l2 := [(2, zi ((k : Int) % 8)), (0, .inr (20, v)), (1, zi (k : Int))]) (st2 := [zi (k : Int), .inr (26, v), zi ((k : Int) / 8), zi (ff k), zi ((k : Int) % 8), zi (v : Int)]) rfl ?_
  refine zX.sn 1 (pc2 := 25) (l2 := [(2, zi ((k : Int) % 8)), (0, .inr (20, v)), (1, zi (k : Int))]) (st2 := [.inr (20, v), zi (k : Int), .inr (26, v), zi ((k : Int) / 8), zi (ff k), zi ((k : Int) % 8), zi (v : Int)]) rfl ?_
  refine zX.getf ⟨rfl, rfl⟩ H_20_v rfl rfl ?_
  refine zX.call (mid2 := 58) (as := [.inr (26, v), zi (k : Int), zi me]) (rest := [zi ((k : Int) / 8), zi (ff k), zi ((k : Int) % 8), zi (v : Int)]) ⟨rfl, rfl⟩ (fun _ => rfl) (zX.inv rfl (P_rows.1) rfl rfl) ⟨Nat.le_of_ble_eq_true rfl, Nat.le_of_ble_eq_true rfl⟩ ?_
  refine s_meas (k := k) rfl (by omega) (by omega) (by omega) hme P_rows ?_
  show zX _ 40 31 [(2, zi ((k : Int) % 8)), (0, .inr (20, v)), (1, zi (k : Int))] [.inl (.int (zme me (fn k) (fs k))), zi ((k : Int) / 8), zi (ff k), zi ((k : Int) % 8), zi (v : Int)] c s _ _
  refine zX.call (mid2 := 14) (as := [zi (v : Int), zi ((k : Int) % 8), zi (ff k), zi ((k : Int) / 8), .inl (.int (zme me (fn k) (fs k)))]) (rest := []) ⟨rfl, rfl⟩ (fun _ => rfl) rfl ⟨Nat.le_of_ble_eq_true rfl, Nat.le_of_ble_eq_true rfl⟩ ?_
  refine s_of  ?_
  show zX _ 40 34 [(2, zi ((k : Int) % 8)), (0, .inr (20, v)), (1, zi (k : Int))] [.inl (.long (zro (v : Int) ((k : Int) % 8) (ff k) ((k : Int) / 8) (zme me (fn k) (fs k))))] c s _ _
  refine zX.ret rfl rfl ?_
  exact k1

/-- what is taken back is one at most -/
theorem zbkL_le (fa : Nat → Int64) (k : Nat) : (zbkL fa k).length ≤ 1 := by
  unfold zbkL
  split <;> simp
/-- does a session reach a time -/
abbrev zsRe (sz : Nat) (fn : Nat → Int32) (ff : Nat → Int) (k : Nat) (t : Int) : Prop := 0 < fn k ∧ ff k - (sz : Int) ≤ t ∧ t ≤ (k : Int) / 8 + (sz : Int)
/-- a session's result -/
noncomputable def zsRes (v : Nat) (me : Int) (fn fs : Nat → Int32) (ff : Nat → Int) (k : Nat) : Int64 := zro (v : Int) ((k : Int) % 8) (ff k) ((k : Int) / 8) (zme me (fn k) (fs k))
theorem zsRes_nz {v : Nat} {me : Int} {fn fs : Nat → Int32} {ff : Nat → Int} {k : Nat} : ¬ zsRes v me fn fs ff k = 0 := zro_nz
theorem s_sre {d c s v sz gr : Nat} {fi me : Int} {dr : Int32} {h : xH} {Q : xR → Nat → Nat → xH → Prop} {fn fs fg : Nat → Int32} {ff : Nat → Int} {k : Nat} {x t : Int} (hx : x = (k : Int)) (hk : k < 8000) (ht : 0 ≤ t ∧ t ≤ 1000) (hr : zVr v fi sz gr) (hme : me = 99 ∨ me = 115 ∨ me = 109) (hf : ∀ j, 0 ≤ ff j ∧ ff j ≤ 1000) (hV : zVo h 6 v false fi sz gr dr [zi me, .inr (26, v), .inr (30, v), .inr (34, v), .inr (35, v)]) (hff : h (34, v) = some (.inr (0, 8000, zA ff))) (hT : zTal h 26 v 8001 fn fs fg)
    (q0 : ¬ zsRe sz fn ff k t → Q (.inl (some (zi 0))) c s h) (q1 : zsRe sz fn ff k t → Q (.inl (some (zi 1))) c s h) : zX (d + 2) 39 0 [(0, .inr (20, v)), (1, zi x), (2, zi t)] [] c s h Q := by
  subst hx
  obtain ⟨r1, r2, r3, r4⟩ := id hr
  unfold zsRe at q0 q1
  refine r_sre hr r1 r3 r4 hme hk (hf k) ht hV hff hT ?_ ?_ ?_ ?_
  all_goals intros
  all_goals first
    | (refine q0 ?_; omega)
    | (refine q0 (fun z => ?_); exact absurd z.1 (by assumption))
    | (refine q1 ⟨by assumption, by omega, by omega⟩)
theorem s_sres {d c s v sz gr : Nat} {fi me : Int} {dr : Int32} {h : xH} {Q : xR → Nat → Nat → xH → Prop} {fn fs fg : Nat → Int32} {ff : Nat → Int} {k : Nat} {x : Int} (hx : x = (k : Int)) (hk : k < 8000) (hr : zVr v fi sz gr) (hme : me = 99 ∨ me = 115 ∨ me = 109) (hf : ∀ j, 0 ≤ ff j ∧ ff j ≤ 1000) (hV : zVo h 6 v false fi sz gr dr [zi me, .inr (26, v), .inr (30, v), .inr (34, v), .inr (35, v)]) (hff : h (34, v) = some (.inr (0, 8000, zA ff))) (hT : zTal h 26 v 8001 fn fs fg)
    (q : Q (.inl (some (.inl (.long (zsRes v me fn fs ff k))))) c s h) : zX (d + 2) 40 0 [(0, .inr (20, v)), (1, zi x)] [] c s h Q := by
  subst hx
  obtain ⟨r1, r2, r3, r4⟩ := id hr
  exact r_sres hr r1 r3 r4 hme hk (hf k) hV hff hT q
set_option maxHeartbeats 4000000 in
theorem r_slk0 {d c s : Nat} {h : xH} {Q : xR → Nat → Nat → xH → Prop} {v sz gr : Nat} {fi me : Int} {dr : Int32} {e : zE} (hvr : zVr v fi sz gr) (hv : v < 5) (hsz : 1 ≤ sz ∧ sz ≤ 200) (hgr : gr ≤ 200) (hme : me = 99 ∨ me = 115 ∨ me = 109) (hEe : zEr e) (hkye : zeK e < 8) (htme : zeT e < 1000) (hvae : -99 ≤ zeV e ∧ zeV e ≤ 99) (hahe : -1 ≤ zeA e ∧ zeA e < 1000) (hode : zeO e < 240) (hire : 0 ≤ zbi (zeR e) ∧ zbi (zeR e) ≤ 1) (hile : 0 ≤ zbi (zeL e) ∧ zbi (zeL e) ≤ 1) (H_20_v : h (20, v) = some (.inl (6, [zi (v : Int), zi (zbi false), zi fi, zi (sz : Int), zi (gr : Int), .inr (2, 0), .inr (21, v), .inr (23, v), .inr (25, v), .inl (.int dr), zi me, .inr (26, v), .inr (30, v), .inr (34, v), .inr (35, v)]))) (H_8_zeN_e : h (8, zeN e) = some (.inl (1, [zi (zeP e : Int), zi (zbi (zeR e)), zi (zbi (zeL e)), zi (zeK e : Int), zi (zeT e : Int), zi (zeV e), zi (zeO e : Int), zi (zeA e), zi (zeB e)])))
    (k1 : zX d 42 16 [(0, .inr (20, v)), (1, .inr (8, zeN e)), (2, zi 0), (3, zi (if 0 < ((zeT e : Int) - (sz : Int)) then ((zeT e : Int) - (sz : Int)) else 0))] [] c s h Q) :
    zX d 42 0 [(0, .inr (20, v)), (1, .inr (8, zeN e))] [] c s h Q := by
  refine zX.sn 1 (pc2 := 1) (l2 := [(0, .inr (20, v)), (1, .inr (8, zeN e))]) (st2 := [zi 0]) rfl ?_
  refine zX.sn 1 (pc2 := 2) (l2 := [(2, zi 0), (0, .inr (20, v)), (1, .inr (8, zeN e))]) (st2 := []) rfl ?_
  refine zX.sn 1 (pc2 := 3) (l2 := [(2, zi 0), (0, .inr (20, v)), (1, .inr (8, zeN e))]) (st2 := [zi 0]) rfl ?_
  refine zX.sn 1 (pc2 := 4) (l2 := [(2, zi 0), (0, .inr (20, v)), (1, .inr (8, zeN e))]) (st2 := [.inr (8, zeN e), zi 0]) rfl ?_
  refine zX.getf ⟨rfl, rfl⟩ H_8_zeN_e rfl rfl ?_
  refine zX.sn 1 (pc2 := 8) (l2 := [(2, zi 0), (0, .inr (20, v)), (1, .inr (8, zeN e))]) (st2 := [.inr (20, v), zi (zeT e : Int), zi 0]) rfl ?_
  refine zX.getf ⟨rfl, rfl⟩ H_20_v rfl rfl ?_
  refine zX.isub ⟨rfl, rfl⟩ ?_
  refine zX.maxi ⟨rfl, rfl⟩ (by omega) (by omega) (Nat.le_of_ble_eq_true rfl) ?_
  refine zX.sn 1 (pc2 := 16) (l2 := [(3, zi (if 0 < ((zeT e : Int) - (sz : Int)) then ((zeT e : Int) - (sz : Int)) else 0)), (2, zi 0), (0, .inr (20, v)), (1, .inr (8, zeN e))]) (st2 := []) rfl ?_
  refine zX.re [(0, .inr (20, v)), (1, .inr (8, zeN e)), (2, zi 0), (3, zi (if 0 < ((zeT e : Int) - (sz : Int)) then ((zeT e : Int) - (sz : Int)) else 0))] [2, 3, 1, 0] [3, 2, 0, 1] rfl rfl (by decide) ?_
  exact k1

set_option maxHeartbeats 4000000 in
theorem r_slk {d c s : Nat} {h : xH} {Q : xR → Nat → Nat → xH → Prop} {v sz gr : Nat} {fi me : Int} {dr : Int32} {e : zE} {fn fs fg : Nat → Int32} {ff : Nat → Int} {jj : Nat → Int} {n l : Nat} (hvr : zVr v fi sz gr) (hv : v < 5) (hsz : 1 ≤ sz ∧ sz ≤ 200) (hgr : gr ≤ 200) (hme : me = 99 ∨ me = 115 ∨ me = 109) (hEe : zEr e) (hkye : zeK e < 8) (htme : zeT e < 1000) (hvae : -99 ≤ zeV e ∧ zeV e ≤ 99) (hahe : -1 ≤ zeA e ∧ zeA e < 1000) (hode : zeO e < 240) (hire : 0 ≤ zbi (zeR e) ∧ zbi (zeR e) ≤ 1) (hile : 0 ≤ zbi (zeL e) ∧ zbi (zeL e) ≤ 1) (hff : ∀ j, 0 ≤ ff j ∧ ff j ≤ 1000) (hn : n ≤ 2) (hl : l ≤ 1000) (H_20_v : h (20, v) = some (.inl (6, [zi (v : Int), zi (zbi false), zi fi, zi (sz : Int), zi (gr : Int), .inr (2, 0), .inr (21, v), .inr (23, v), .inr (25, v), .inl (.int dr), zi me, .inr (26, v), .inr (30, v), .inr (34, v), .inr (35, v)]))) (H_8_zeN_e : h (8, zeN e) = some (.inl (1, [zi (zeP e : Int), zi (zbi (zeR e)), zi (zbi (zeL e)), zi (zeK e : Int), zi (zeT e : Int), zi (zeV e), zi (zeO e : Int), zi (zeA e), zi (zeB e)]))) (H_34_v : h (34, v) = some (.inr (0, 8000, zA ff))) (H_35_v : h (35, v) = some (.inr (0, 2, zA jj))) (P_rows : zTal h 26 v 8001 fn fs fg)
    (k1 : (1000 ≤ (l : Int)) → Q (.inl (some (zi (n : Int)))) c s h)
    (k2 : ((l : Int) < 1000) → (2 ≤ (n : Int)) → Q (.inl (some (zi (n : Int)))) c s h)
    (k3 : ((l : Int) < 1000) → ((n : Int) < 2) → (¬ zsRe sz fn ff ((l * 8) + zeK e) (zeT e : Int)) → zX (d + 3) 42 16 [(0, .inr (20, v)), (1, .inr (8, zeN e)), (2, zi (n : Int)), (3, zi ((l : Int) + 1))] [] c s h Q)
    (k4 : ((l : Int) < 1000) → ((n : Int) < 2) → (zsRe sz fn ff ((l * 8) + zeK e) (zeT e : Int)) → ∀ h' : xH, h' (35, v) = some (.inr (0, 2, zA (zfi jj n (((l : Int) * 8) + (zeK e : Int))))) → (∀ za zb : Nat, ¬ ((za = 35 ∧ zb = v)) → h' (za, zb) = h (za, zb)) → zX (d + 3) 42 16 [(0, .inr (20, v)), (1, .inr (8, zeN e)), (2, zi ((n : Int) + 1)), (3, zi ((l : Int) + 1))] [] c s h' Q) :
    zX (d + 3) 42 16 [(0, .inr (20, v)), (1, .inr (8, zeN e)), (2, zi (n : Int)), (3, zi (l : Int))] [] c s h Q := by
  refine zX.sn 1 (pc2 := 17) (l2 := [(0, .inr (20, v)), (1, .inr (8, zeN e)), (2, zi (n : Int)), (3, zi (l : Int))]) (st2 := [zi (l : Int)]) rfl ?_
  refine zX.sn 1 (pc2 := 20) (l2 := [(0, .inr (20, v)), (1, .inr (8, zeN e)), (2, zi (n : Int)), (3, zi (l : Int))]) (st2 := [zi 1000, zi (l : Int)]) rfl ?_
  refine zX.icmp (tgt := 72) ⟨rfl, rfl⟩ rfl (by omega) (by omega) (fun (e1 : 1000 ≤ (l : Int)) => ?_) (fun (e1 : (l : Int) < 1000) => ?_)
  · refine zX.sn 1 (pc2 := 73) (l2 := [(0, .inr (20, v)), (1, .inr (8, zeN e)), (2, zi (n : Int)), (3, zi (l : Int))]) (st2 := [zi (n : Int)]) rfl ?_
    refine zX.ret rfl rfl ?_
    exact k1 e1
  · refine zX.sn 1 (pc2 := 24) (l2 := [(0, .inr (20, v)), (1, .inr (8, zeN e)), (2, zi (n : Int)), (3, zi (l : Int))]) (st2 := [zi (n : Int)]) rfl ?_
    refine zX.sn 1 (pc2 := 25) (l2 := [(0, .inr (20, v)), (1, .inr (8, zeN e)), (2, zi (n : Int)), (3, zi (l : Int))]) (st2 := [.inr (20, v), zi (n : Int)]) rfl ?_
    refine zX.getf ⟨rfl, rfl⟩ H_20_v rfl rfl ?_
    refine zX.alen ⟨rfl, rfl⟩ H_35_v ?_
    show zX _ 42 29 [(0, .inr (20, v)), (1, .inr (8, zeN e)), (2, zi (n : Int)), (3, zi (l : Int))] [zi 2, zi (n : Int)] c s _ _
    refine zX.icmp (tgt := 72) ⟨rfl, rfl⟩ rfl (by omega) (by omega) (fun (e2 : 2 ≤ (n : Int)) => ?_) (fun (e2 : (n : Int) < 2) => ?_)
    · refine zX.sn 1 (pc2 := 73) (l2 := [(0, .inr (20, v)), (1, .inr (8, zeN e)), (2, zi (n : Int)), (3, zi (l : Int))]) (st2 := [zi (n : Int)]) rfl ?_
      refine zX.ret rfl rfl ?_
      exact k2 e1 e2
    · refine zX.sn 1 (pc2 := 33) (l2 := [(0, .inr (20, v)), (1, .inr (8, zeN e)), (2, zi (n : Int)), (3, zi (l : Int))]) (st2 := [zi (l : Int)]) rfl ?_
      refine zX.sn 1 (pc2 := 34) (l2 := [(0, .inr (20, v)), (1, .inr (8, zeN e)), (2, zi (n : Int)), (3, zi (l : Int))]) (st2 := [.inr (8, zeN e), zi (l : Int)]) rfl ?_
      refine zX.getf ⟨rfl, rfl⟩ H_8_zeN_e rfl rfl ?_
      refine zX.call (mid2 := 36) (as := [zi (l : Int), zi (zeK e : Int)]) (rest := []) ⟨rfl, rfl⟩ (fun _ => rfl) rfl ⟨Nat.le_of_ble_eq_true rfl, Nat.le_of_ble_eq_true rfl⟩ ?_
      show zX _ 36 0 [(0, zi (l : Int)), (1, zi (zeK e : Int))] [] c s _ _
      refine zX.sn 1 (pc2 := 1) (l2 := [(0, zi (l : Int)), (1, zi (zeK e : Int))]) (st2 := [zi (l : Int)]) rfl ?_
      refine zX.sn 1 (pc2 := 3) (l2 := [(0, zi (l : Int)), (1, zi (zeK e : Int))]) (st2 := [zi 8, zi (l : Int)]) rfl ?_
      refine zX.imul ⟨rfl, rfl⟩ ?_
      refine zX.sn 1 (pc2 := 5) (l2 := [(0, zi (l : Int)), (1, zi (zeK e : Int))]) (st2 := [zi (zeK e : Int), zi ((l : Int) * 8)]) rfl ?_
      refine zX.iadd ⟨rfl, rfl⟩ ?_
      refine zX.ret rfl rfl ?_
      show zX _ 42 40 [(0, .inr (20, v)), (1, .inr (8, zeN e)), (2, zi (n : Int)), (3, zi (l : Int))] [zi (((l : Int) * 8) + (zeK e : Int))] c s _ _
      refine zX.sn 1 (pc2 := 42) (l2 := [(4, zi (((l : Int) * 8) + (zeK e : Int))), (0, .inr (20, v)), (1, .inr (8, zeN e)), (2, zi (n : Int)), (3, zi (l : Int))]) (st2 := []) rfl ?_
      refine zX.sn 1 (pc2 := 43) (l2 := [(4, zi (((l : Int) * 8) + (zeK e : Int))), (0, .inr (20, v)), (1, .inr (8, zeN e)), (2, zi (n : Int)), (3, zi (l : Int))]) (st2 := [.inr (20, v)]) rfl ?_
      refine zX.sn 1 (pc2 := 45) (l2 := [(4, zi (((l : Int) * 8) + (zeK e : Int))), (0, .inr (20, v)), (1, .inr (8, zeN e)), (2, zi (n : Int)), (3, zi (l : Int))]) (st2 := [zi (((l : Int) * 8) + (zeK e : Int)), .inr (20, v)]) rfl ?_
      refine zX.sn 1 (pc2 := 46) (l2 := [(4, zi (((l : Int) * 8) + (zeK e : Int))), (0, .inr (20, v)), (1, .inr (8, zeN e)), (2, zi (n : Int)), (3, zi (l : Int))]) (st2 := [.inr (8, zeN e), zi (((l : Int) * 8) + (zeK e : Int)), .inr (20, v)]) rfl ?_
      refine zX.getf ⟨rfl, rfl⟩ H_8_zeN_e rfl rfl ?_
      refine zX.call (mid2 := 39) (as := [.inr (20, v), zi (((l : Int) * 8) + (zeK e : Int)), zi (zeT e : Int)]) (rest := []) ⟨rfl, rfl⟩ (fun _ => rfl) (zX.inv rfl H_20_v rfl rfl) ⟨Nat.le_of_ble_eq_true rfl, Nat.le_of_ble_eq_true rfl⟩ ?_
      refine s_sre (k := ((l * 8) + zeK e)) (by omega) (by omega) (by omega) hvr hme hff (show zVo _ 6 v false fi sz gr _ [zi me, .inr (26, v), .inr (30, v), .inr (34, v), .inr (35, v)] from H_20_v) H_34_v P_rows (fun (e3 : ¬ zsRe sz fn ff ((l * 8) + zeK e) (zeT e : Int)) => ?_) (fun (e3 : zsRe sz fn ff ((l * 8) + zeK e) (zeT e : Int)) => ?_)
      · show zX _ 42 52 [(4, zi (((l : Int) * 8) + (zeK e : Int))), (0, .inr (20, v)), (1, .inr (8, zeN e)), (2, zi (n : Int)), (3, zi (l : Int))] [zi 0] c s _ _
        refine zX.icmp0 (tgt := 66) ⟨rfl, rfl⟩ rfl (by omega) (fun (e4 : 0 = 0) => ?_) (fun (zz : ¬ 0 = 0) => absurd zz (by omega))
        refine zX.s1 (pc2 := 69) (l2 := [(3, zi ((l : Int) + 1)), (4, zi (((l : Int) * 8) + (zeK e : Int))), (0, .inr (20, v)), (1, .inr (8, zeN e)), (2, zi (n : Int))]) (st2 := []) ⟨rfl, rfl⟩ (by rw [show (zi ((l : Int) + 1) : xV) = .inl (.int (Int32.ofInt (l : Int) + 1)) from congrArg (fun z => (.inl (.int z) : xV)) (Int32.ofInt_add _ _)]; rfl) ?_
        refine zX.sn 1 (pc2 := 16) (l2 := [(3, zi ((l : Int) + 1)), (4, zi (((l : Int) * 8) + (zeK e : Int))), (0, .inr (20, v)), (1, .inr (8, zeN e)), (2, zi (n : Int))]) (st2 := []) rfl ?_
        refine zX.re [(0, .inr (20, v)), (1, .inr (8, zeN e)), (2, zi (n : Int)), (3, zi ((l : Int) + 1))] [2, 3, 4, 0] [3, 4, 0, 1, 2] rfl rfl (by decide) ?_
        exact k3 e1 e2 e3
      · show zX _ 42 52 [(4, zi (((l : Int) * 8) + (zeK e : Int))), (0, .inr (20, v)), (1, .inr (8, zeN e)), (2, zi (n : Int)), (3, zi (l : Int))] [zi 1] c s _ _
        refine zX.icmp0 (tgt := 66) ⟨rfl, rfl⟩ rfl (by omega) (fun (zz : 1 = 0) => absurd zz (by omega)) (fun (e5 : ¬ 1 = 0) => ?_)
        refine zX.sn 1 (pc2 := 56) (l2 := [(4, zi (((l : Int) * 8) + (zeK e : Int))), (0, .inr (20, v)), (1, .inr (8, zeN e)), (2, zi (n : Int)), (3, zi (l : Int))]) (st2 := [.inr (20, v)]) rfl ?_
        refine zX.getf ⟨rfl, rfl⟩ H_20_v rfl rfl ?_
        refine zX.sn 1 (pc2 := 60) (l2 := [(4, zi (((l : Int) * 8) + (zeK e : Int))), (0, .inr (20, v)), (1, .inr (8, zeN e)), (2, zi (n : Int)), (3, zi (l : Int))]) (st2 := [zi (n : Int), .inr (35, v)]) rfl ?_
        refine zX.sn 1 (pc2 := 62) (l2 := [(4, zi (((l : Int) * 8) + (zeK e : Int))), (0, .inr (20, v)), (1, .inr (8, zeN e)), (2, zi (n : Int)), (3, zi (l : Int))]) (st2 := [zi (((l : Int) * 8) + (zeK e : Int)), zi (n : Int), .inr (35, v)]) rfl ?_
        refine zX.Aast (j := n) ⟨rfl, rfl⟩ H_35_v (by omega) rfl (by omega) (by omega) ?_
        show zX _ 42 63 [(4, zi (((l : Int) * 8) + (zeK e : Int))), (0, .inr (20, v)), (1, .inr (8, zeN e)), (2, zi (n : Int)), (3, zi (l : Int))] [] c s (xup h (35, v) (.inr (0, 2, zA (zfi jj n (((l : Int) * 8) + (zeK e : Int)))))) _
        refine zX.s1 (pc2 := 66) (l2 := [(2, zi ((n : Int) + 1)), (4, zi (((l : Int) * 8) + (zeK e : Int))), (0, .inr (20, v)), (1, .inr (8, zeN e)), (3, zi (l : Int))]) (st2 := []) ⟨rfl, rfl⟩ (by rw [show (zi ((n : Int) + 1) : xV) = .inl (.int (Int32.ofInt (n : Int) + 1)) from congrArg (fun z => (.inl (.int z) : xV)) (Int32.ofInt_add _ _)]; rfl) ?_
        refine zX.s1 (pc2 := 69) (l2 := [(3, zi ((l : Int) + 1)), (2, zi ((n : Int) + 1)), (4, zi (((l : Int) * 8) + (zeK e : Int))), (0, .inr (20, v)), (1, .inr (8, zeN e))]) (st2 := []) ⟨rfl, rfl⟩ (by rw [show (zi ((l : Int) + 1) : xV) = .inl (.int (Int32.ofInt (l : Int) + 1)) from congrArg (fun z => (.inl (.int z) : xV)) (Int32.ofInt_add _ _)]; rfl) ?_
        refine zX.sn 1 (pc2 := 16) (l2 := [(3, zi ((l : Int) + 1)), (2, zi ((n : Int) + 1)), (4, zi (((l : Int) * 8) + (zeK e : Int))), (0, .inr (20, v)), (1, .inr (8, zeN e))]) (st2 := []) rfl ?_
        refine zX.re [(0, .inr (20, v)), (1, .inr (8, zeN e)), (2, zi ((n : Int) + 1)), (3, zi ((l : Int) + 1))] [3, 4, 1, 0] [3, 2, 4, 0, 1] rfl rfl (by decide) ?_
        exact k4 e1 e2 e3 _ zup_s (fun za zb hn => (zup_n (zn (by omega)) rfl))

set_option maxHeartbeats 4000000 in
theorem r_sj0 {d c s : Nat} {h : xH} {Q : xR → Nat → Nat → xH → Prop} {v sz gr : Nat} {fi me : Int} {dr : Int32} {e : zE} {fn fs fg : Nat → Int32} {ff : Nat → Int} {jj : Nat → Int} (hvr : zVr v fi sz gr) (hv : v < 5) (hsz : 1 ≤ sz ∧ sz ≤ 200) (hgr : gr ≤ 200) (hme : me = 99 ∨ me = 115 ∨ me = 109) (hEe : zEr e) (hkye : zeK e < 8) (htme : zeT e < 1000) (hvae : -99 ≤ zeV e ∧ zeV e ≤ 99) (hahe : -1 ≤ zeA e ∧ zeA e < 1000) (hode : zeO e < 240) (hire : 0 ≤ zbi (zeR e) ∧ zbi (zeR e) ≤ 1) (hile : 0 ≤ zbi (zeL e) ∧ zbi (zeL e) ≤ 1) (hff : ∀ j, 0 ≤ ff j ∧ ff j ≤ 1000) (H_20_v : h (20, v) = some (.inl (6, [zi (v : Int), zi (zbi false), zi fi, zi (sz : Int), zi (gr : Int), .inr (2, 0), .inr (21, v), .inr (23, v), .inr (25, v), .inl (.int dr), zi me, .inr (26, v), .inr (30, v), .inr (34, v), .inr (35, v)]))) (H_8_zeN_e : h (8, zeN e) = some (.inl (1, [zi (zeP e : Int), zi (zbi (zeR e)), zi (zbi (zeL e)), zi (zeK e : Int), zi (zeT e : Int), zi (zeV e), zi (zeO e : Int), zi (zeA e), zi (zeB e)]))) (H_34_v : h (34, v) = some (.inr (0, 8000, zA ff))) (H_35_v : h (35, v) = some (.inr (0, 2, zA jj))) (P_rows : zTal h 26 v 8001 fn fs fg)
    (k1 : ∀ gg3 : Nat → Int32, ∀ h' : xH, h' (34, v) = some (.inr (0, 8000, zA (zfi ff ((zeT e * 8) + zeK e) (zeT e : Int)))) → zTal h' 26 v 8001 (zaaN (zfi (zfi fn 8000 0) 8000 ((zfi fn 8000 0) 8000 + 1)) ((zeT e * 8) + zeK e) 8000) (zaaS (zfi (zfi fn 8000 0) 8000 ((zfi fn 8000 0) 8000 + 1)) (zfi (zfi fs 8000 0) 8000 ((zfi fs 8000 0) 8000 + Int32.ofInt (zeV e))) ((zeT e * 8) + zeK e) 8000) (gg3) → (∀ za zb : Nat, ¬ ((za = 34 ∧ zb = v) ∨ (26 ≤ za ∧ za < 26 + 4 ∧ zb = v)) → h' (za, zb) = h (za, zb)) → Q (.inl (some (zi (((zeT e : Int) * 8) + (zeK e : Int))))) c s h') :
    zX (d + 3) 43 0 [(0, .inr (20, v)), (1, .inr (8, zeN e)), (2, zi 0)] [] c s h Q := by
  refine zX.sn 1 (pc2 := 1) (l2 := [(0, .inr (20, v)), (1, .inr (8, zeN e)), (2, zi 0)]) (st2 := [.inr (8, zeN e)]) rfl ?_
  refine zX.getf ⟨rfl, rfl⟩ H_8_zeN_e rfl rfl ?_
  refine zX.sn 1 (pc2 := 5) (l2 := [(3, zi (zeT e : Int)), (0, .inr (20, v)), (1, .inr (8, zeN e)), (2, zi 0)]) (st2 := []) rfl ?_
  refine zX.sn 1 (pc2 := 6) (l2 := [(3, zi (zeT e : Int)), (0, .inr (20, v)), (1, .inr (8, zeN e)), (2, zi 0)]) (st2 := [.inr (8, zeN e)]) rfl ?_
  refine zX.getf ⟨rfl, rfl⟩ H_8_zeN_e rfl rfl ?_
  refine zX.sn 1 (pc2 := 11) (l2 := [(4, zi (zeT e : Int)), (3, zi (zeT e : Int)), (0, .inr (20, v)), (1, .inr (8, zeN e)), (2, zi 0)]) (st2 := []) rfl ?_
  refine zX.sn 1 (pc2 := 12) (l2 := [(4, zi (zeT e : Int)), (3, zi (zeT e : Int)), (0, .inr (20, v)), (1, .inr (8, zeN e)), (2, zi 0)]) (st2 := [.inr (20, v)]) rfl ?_
  refine zX.getf ⟨rfl, rfl⟩ H_20_v rfl rfl ?_
  refine zX.sn 1 (pc2 := 18) (l2 := [(4, zi (zeT e : Int)), (3, zi (zeT e : Int)), (0, .inr (20, v)), (1, .inr (8, zeN e)), (2, zi 0)]) (st2 := [zi 8000, .inr (26, v)]) rfl ?_
  refine zX.call (mid2 := 56) (as := [.inr (26, v), zi 8000]) (rest := []) ⟨rfl, rfl⟩ (fun _ => rfl) (zX.inv rfl (P_rows.1) rfl rfl) ⟨Nat.le_of_ble_eq_true rfl, Nat.le_of_ble_eq_true rfl⟩ ?_
  refine s_tclr (k := 8000) (by omega) (by omega) (by omega) (by omega) P_rows (fun h1 hv1 hF1 => ?_)
  show zX _ 43 21 [(4, zi (zeT e : Int)), (3, zi (zeT e : Int)), (0, .inr (20, v)), (1, .inr (8, zeN e)), (2, zi 0)] [] c s _ _
  refine zX.sn 1 (pc2 := 22) (l2 := [(4, zi (zeT e : Int)), (3, zi (zeT e : Int)), (0, .inr (20, v)), (1, .inr (8, zeN e)), (2, zi 0)]) (st2 := [.inr (20, v)]) rfl ?_
  refine zX.getf ⟨rfl, rfl⟩ ((hF1 20 v (by omega)).trans H_20_v) rfl rfl ?_
  refine zX.sn 1 (pc2 := 28) (l2 := [(4, zi (zeT e : Int)), (3, zi (zeT e : Int)), (0, .inr (20, v)), (1, .inr (8, zeN e)), (2, zi 0)]) (st2 := [zi 8000, .inr (26, v)]) rfl ?_
  refine zX.sn 1 (pc2 := 29) (l2 := [(4, zi (zeT e : Int)), (3, zi (zeT e : Int)), (0, .inr (20, v)), (1, .inr (8, zeN e)), (2, zi 0)]) (st2 := [.inr (8, zeN e), zi 8000, .inr (26, v)]) rfl ?_
  refine zX.getf ⟨rfl, rfl⟩ ((hF1 8 (zeN e) (by omega)).trans H_8_zeN_e) rfl rfl ?_
  refine zX.call (mid2 := 54) (as := [.inr (26, v), zi 8000, zi (zeV e)]) (rest := []) ⟨rfl, rfl⟩ (fun _ => rfl) (zX.inv rfl (hv1.1) rfl rfl) ⟨Nat.le_of_ble_eq_true rfl, Nat.le_of_ble_eq_true rfl⟩ ?_
  refine s_tadd (k := 8000) (by omega) (by omega) (by omega) (by omega) hv1 (fun h2 hv2 hF2 => ?_)
  show zX _ 43 35 [(4, zi (zeT e : Int)), (3, zi (zeT e : Int)), (0, .inr (20, v)), (1, .inr (8, zeN e)), (2, zi 0)] [] c s _ _
  refine zX.sn 1 (pc2 := 36) (l2 := [(4, zi (zeT e : Int)), (3, zi (zeT e : Int)), (0, .inr (20, v)), (1, .inr (8, zeN e)), (2, zi 0)]) (st2 := [zi 0]) rfl ?_
  refine zX.sn 1 (pc2 := 38) (l2 := [(5, zi 0), (4, zi (zeT e : Int)), (3, zi (zeT e : Int)), (0, .inr (20, v)), (1, .inr (8, zeN e)), (2, zi 0)]) (st2 := []) rfl ?_
  refine zX.sn 1 (pc2 := 40) (l2 := [(5, zi 0), (4, zi (zeT e : Int)), (3, zi (zeT e : Int)), (0, .inr (20, v)), (1, .inr (8, zeN e)), (2, zi 0)]) (st2 := [zi 0]) rfl ?_
  refine zX.sn 1 (pc2 := 41) (l2 := [(5, zi 0), (4, zi (zeT e : Int)), (3, zi (zeT e : Int)), (0, .inr (20, v)), (1, .inr (8, zeN e)), (2, zi 0)]) (st2 := [zi 0, zi 0]) rfl ?_
  refine zX.icmp (tgt := 124) ⟨rfl, rfl⟩ rfl (by omega) (by omega) (fun (e1 : 0 ≤ 0) => ?_) (fun (zz : 0 < 0) => absurd zz (by omega))
  refine zX.sn 1 (pc2 := 126) (l2 := [(5, zi 0), (4, zi (zeT e : Int)), (3, zi (zeT e : Int)), (0, .inr (20, v)), (1, .inr (8, zeN e)), (2, zi 0)]) (st2 := [zi (zeT e : Int)]) rfl ?_
  refine zX.sn 1 (pc2 := 127) (l2 := [(5, zi 0), (4, zi (zeT e : Int)), (3, zi (zeT e : Int)), (0, .inr (20, v)), (1, .inr (8, zeN e)), (2, zi 0)]) (st2 := [.inr (8, zeN e), zi (zeT e : Int)]) rfl ?_
  refine zX.getf ⟨rfl, rfl⟩ ((hF2 8 (zeN e) (by omega)).trans ((hF1 8 (zeN e) (by omega)).trans H_8_zeN_e)) rfl rfl ?_
  refine zX.call (mid2 := 36) (as := [zi (zeT e : Int), zi (zeK e : Int)]) (rest := []) ⟨rfl, rfl⟩ (fun _ => rfl) rfl ⟨Nat.le_of_ble_eq_true rfl, Nat.le_of_ble_eq_true rfl⟩ ?_
  show zX _ 36 0 [(0, zi (zeT e : Int)), (1, zi (zeK e : Int))] [] c s _ _
  refine zX.sn 1 (pc2 := 1) (l2 := [(0, zi (zeT e : Int)), (1, zi (zeK e : Int))]) (st2 := [zi (zeT e : Int)]) rfl ?_
  refine zX.sn 1 (pc2 := 3) (l2 := [(0, zi (zeT e : Int)), (1, zi (zeK e : Int))]) (st2 := [zi 8, zi (zeT e : Int)]) rfl ?_
  refine zX.imul ⟨rfl, rfl⟩ ?_
  refine zX.sn 1 (pc2 := 5) (l2 := [(0, zi (zeT e : Int)), (1, zi (zeK e : Int))]) (st2 := [zi (zeK e : Int), zi ((zeT e : Int) * 8)]) rfl ?_
  refine zX.iadd ⟨rfl, rfl⟩ ?_
  refine zX.ret rfl rfl ?_
  show zX _ 43 133 [(5, zi 0), (4, zi (zeT e : Int)), (3, zi (zeT e : Int)), (0, .inr (20, v)), (1, .inr (8, zeN e)), (2, zi 0)] [zi (((zeT e : Int) * 8) + (zeK e : Int))] c s _ _
  refine zX.sn 1 (pc2 := 135) (l2 := [(5, zi (((zeT e : Int) * 8) + (zeK e : Int))), (4, zi (zeT e : Int)), (3, zi (zeT e : Int)), (0, .inr (20, v)), (1, .inr (8, zeN e)), (2, zi 0)]) (st2 := []) rfl ?_
  refine zX.sn 1 (pc2 := 136) (l2 := [(5, zi (((zeT e : Int) * 8) + (zeK e : Int))), (4, zi (zeT e : Int)), (3, zi (zeT e : Int)), (0, .inr (20, v)), (1, .inr (8, zeN e)), (2, zi 0)]) (st2 := [.inr (20, v)]) rfl ?_
  refine zX.getf ⟨rfl, rfl⟩ ((hF2 20 v (by omega)).trans ((hF1 20 v (by omega)).trans H_20_v)) rfl rfl ?_
  refine zX.sn 1 (pc2 := 141) (l2 := [(5, zi (((zeT e : Int) * 8) + (zeK e : Int))), (4, zi (zeT e : Int)), (3, zi (zeT e : Int)), (0, .inr (20, v)), (1, .inr (8, zeN e)), (2, zi 0)]) (st2 := [zi (((zeT e : Int) * 8) + (zeK e : Int)), .inr (26, v)]) rfl ?_
  refine zX.sn 1 (pc2 := 144) (l2 := [(5, zi (((zeT e : Int) * 8) + (zeK e : Int))), (4, zi (zeT e : Int)), (3, zi (zeT e : Int)), (0, .inr (20, v)), (1, .inr (8, zeN e)), (2, zi 0)]) (st2 := [zi 8000, zi (((zeT e : Int) * 8) + (zeK e : Int)), .inr (26, v)]) rfl ?_
  refine zX.call (mid2 := 55) (as := [.inr (26, v), zi (((zeT e : Int) * 8) + (zeK e : Int)), zi 8000]) (rest := []) ⟨rfl, rfl⟩ (fun _ => rfl) (zX.inv rfl (hv2.1) rfl rfl) ⟨Nat.le_of_ble_eq_true rfl, Nat.le_of_ble_eq_true rfl⟩ ?_
  refine s_tall2 (k := ((zeT e * 8) + zeK e)) (j := 8000) (by omega) (by omega) (by omega) (by omega) (by omega) (by omega) hv2  (fun h3 gg3 hv3 hF3 => ?_)
  show zX _ 43 147 [(5, zi (((zeT e : Int) * 8) + (zeK e : Int))), (4, zi (zeT e : Int)), (3, zi (zeT e : Int)), (0, .inr (20, v)), (1, .inr (8, zeN e)), (2, zi 0)] [] c s _ _
  refine zX.sn 1 (pc2 := 149) (l2 := [(5, zi (((zeT e : Int) * 8) + (zeK e : Int))), (4, zi (zeT e : Int)), (3, zi (zeT e : Int)), (0, .inr (20, v)), (1, .inr (8, zeN e)), (2, zi 0)]) (st2 := [zi (((zeT e : Int) * 8) + (zeK e : Int))]) rfl ?_
  refine zX.icmp0 (tgt := 170) ⟨rfl, rfl⟩ rfl (by omega) (fun (zz : (((zeT e : Int) * 8) + (zeK e : Int)) < 0) => absurd zz (by omega)) (fun (e2 : 0 ≤ (((zeT e : Int) * 8) + (zeK e : Int))) => ?_)
  refine zX.sn 1 (pc2 := 154) (l2 := [(5, zi (((zeT e : Int) * 8) + (zeK e : Int))), (4, zi (zeT e : Int)), (3, zi (zeT e : Int)), (0, .inr (20, v)), (1, .inr (8, zeN e)), (2, zi 0)]) (st2 := [zi (((zeT e : Int) * 8) + (zeK e : Int))]) rfl ?_
  refine zX.sn 1 (pc2 := 155) (l2 := [(5, zi (((zeT e : Int) * 8) + (zeK e : Int))), (4, zi (zeT e : Int)), (3, zi (zeT e : Int)), (0, .inr (20, v)), (1, .inr (8, zeN e)), (2, zi 0)]) (st2 := [.inr (20, v), zi (((zeT e : Int) * 8) + (zeK e : Int))]) rfl ?_
  refine zX.getf ⟨rfl, rfl⟩ ((hF3 20 v (by omega)).trans ((hF2 20 v (by omega)).trans ((hF1 20 v (by omega)).trans H_20_v))) rfl rfl ?_
  refine zX.alen ⟨rfl, rfl⟩ ((hF3 34 v (by omega)).trans ((hF2 34 v (by omega)).trans ((hF1 34 v (by omega)).trans H_34_v))) ?_
  show zX _ 43 159 [(5, zi (((zeT e : Int) * 8) + (zeK e : Int))), (4, zi (zeT e : Int)), (3, zi (zeT e : Int)), (0, .inr (20, v)), (1, .inr (8, zeN e)), (2, zi 0)] [zi 8000, zi (((zeT e : Int) * 8) + (zeK e : Int))] c s _ _
  refine zX.icmp (tgt := 170) ⟨rfl, rfl⟩ rfl (by omega) (by omega) (fun (zz : 8000 ≤ (((zeT e : Int) * 8) + (zeK e : Int))) => absurd zz (by omega)) (fun (e3 : (((zeT e : Int) * 8) + (zeK e : Int)) < 8000) => ?_)
  refine zX.sn 1 (pc2 := 163) (l2 := [(5, zi (((zeT e : Int) * 8) + (zeK e : Int))), (4, zi (zeT e : Int)), (3, zi (zeT e : Int)), (0, .inr (20, v)), (1, .inr (8, zeN e)), (2, zi 0)]) (st2 := [.inr (20, v)]) rfl ?_
  refine zX.getf ⟨rfl, rfl⟩ ((hF3 20 v (by omega)).trans ((hF2 20 v (by omega)).trans ((hF1 20 v (by omega)).trans H_20_v))) rfl rfl ?_
  refine zX.sn 1 (pc2 := 168) (l2 := [(5, zi (((zeT e : Int) * 8) + (zeK e : Int))), (4, zi (zeT e : Int)), (3, zi (zeT e : Int)), (0, .inr (20, v)), (1, .inr (8, zeN e)), (2, zi 0)]) (st2 := [zi (((zeT e : Int) * 8) + (zeK e : Int)), .inr (34, v)]) rfl ?_
  refine zX.sn 1 (pc2 := 169) (l2 := [(5, zi (((zeT e : Int) * 8) + (zeK e : Int))), (4, zi (zeT e : Int)), (3, zi (zeT e : Int)), (0, .inr (20, v)), (1, .inr (8, zeN e)), (2, zi 0)]) (st2 := [zi (zeT e : Int), zi (((zeT e : Int) * 8) + (zeK e : Int)), .inr (34, v)]) rfl ?_
  refine zX.Aast (j := ((zeT e * 8) + zeK e)) ⟨rfl, rfl⟩ ((hF3 34 v (by omega)).trans ((hF2 34 v (by omega)).trans ((hF1 34 v (by omega)).trans H_34_v))) (by omega) (by omega) (by omega) (by omega) ?_
  show zX _ 43 170 [(5, zi (((zeT e : Int) * 8) + (zeK e : Int))), (4, zi (zeT e : Int)), (3, zi (zeT e : Int)), (0, .inr (20, v)), (1, .inr (8, zeN e)), (2, zi 0)] [] c s (xup h3 (34, v) (.inr (0, 8000, zA (zfi ff ((zeT e * 8) + zeK e) (zeT e : Int))))) _
  refine zX.sn 1 (pc2 := 172) (l2 := [(5, zi (((zeT e : Int) * 8) + (zeK e : Int))), (4, zi (zeT e : Int)), (3, zi (zeT e : Int)), (0, .inr (20, v)), (1, .inr (8, zeN e)), (2, zi 0)]) (st2 := [zi (((zeT e : Int) * 8) + (zeK e : Int))]) rfl ?_
  refine zX.ret rfl rfl ?_
  exact k1 gg3 _ zup_s (zTal.fr hv3 (fun za zb hi => (zup_n (zn (by omega)) rfl))) (fun za zb hn => (zup_n (zn (by omega)) ((hF3 za zb (by omega)).trans ((hF2 za zb (by omega)).trans ((hF1 za zb (by omega)).trans rfl)))))

set_option maxHeartbeats 4000000 in
theorem r_sj1 {d c s : Nat} {h : xH} {Q : xR → Nat → Nat → xH → Prop} {v sz gr : Nat} {fi me : Int} {dr : Int32} {e : zE} {fn fs fg : Nat → Int32} {ff : Nat → Int} {jj : Nat → Int} {a la : Nat} {fst : Int} (hvr : zVr v fi sz gr) (hv : v < 5) (hsz : 1 ≤ sz ∧ sz ≤ 200) (hgr : gr ≤ 200) (hme : me = 99 ∨ me = 115 ∨ me = 109) (hEe : zEr e) (hkye : zeK e < 8) (htme : zeT e < 1000) (hvae : -99 ≤ zeV e ∧ zeV e ≤ 99) (hahe : -1 ≤ zeA e ∧ zeA e < 1000) (hode : zeO e < 240) (hire : 0 ≤ zbi (zeR e) ∧ zbi (zeR e) ≤ 1) (hile : 0 ≤ zbi (zeL e) ∧ zbi (zeL e) ≤ 1) (hff : ∀ j, 0 ≤ ff j ∧ ff j ≤ 1000) (hja : jj 0 = (a : Int)) (hal : a < 8000) (hfa : 0 ≤ ff a ∧ ff a ≤ 1000) (hmi : (if ff a < (zeT e : Int) then ff a else (zeT e : Int)) = fst) (hma : (if (zeT e : Int) < (jj 0 / 8) then (jj 0 / 8) else (zeT e : Int)) = (la : Int)) (hf9 : 0 ≤ fst ∧ fst ≤ 1000) (hl9 : la ≤ 999) (H_20_v : h (20, v) = some (.inl (6, [zi (v : Int), zi (zbi false), zi fi, zi (sz : Int), zi (gr : Int), .inr (2, 0), .inr (21, v), .inr (23, v), .inr (25, v), .inl (.int dr), zi me, .inr (26, v), .inr (30, v), .inr (34, v), .inr (35, v)]))) (H_8_zeN_e : h (8, zeN e) = some (.inl (1, [zi (zeP e : Int), zi (zbi (zeR e)), zi (zbi (zeL e)), zi (zeK e : Int), zi (zeT e : Int), zi (zeV e), zi (zeO e : Int), zi (zeA e), zi (zeB e)]))) (H_34_v : h (34, v) = some (.inr (0, 8000, zA ff))) (H_35_v : h (35, v) = some (.inr (0, 2, zA jj))) (P_rows : zTal h 26 v 8001 fn fs fg)
    (k1 : ∀ gg3 : Nat → Int32, ∀ gg5 : Nat → Int32, ∀ h' : xH, h' (34, v) = some (.inr (0, 8000, zA (zfi ff ((la * 8) + zeK e) fst))) → zTal h' 26 v 8001 (zaaN (zfi (zaaN (zfi (zfi fn 8000 0) 8000 ((zfi fn 8000 0) 8000 + 1)) 8000 a) a 0) ((la * 8) + zeK e) 8000) (zaaS (zfi (zaaN (zfi (zfi fn 8000 0) 8000 ((zfi fn 8000 0) 8000 + 1)) 8000 a) a 0) (zfi (zaaS (zfi (zfi fn 8000 0) 8000 ((zfi fn 8000 0) 8000 + 1)) (zfi (zfi fs 8000 0) 8000 ((zfi fs 8000 0) 8000 + Int32.ofInt (zeV e))) 8000 a) a 0) ((la * 8) + zeK e) 8000) (gg5) → (∀ za zb : Nat, ¬ ((za = 34 ∧ zb = v) ∨ (26 ≤ za ∧ za < 26 + 4 ∧ zb = v)) → h' (za, zb) = h (za, zb)) → Q (.inl (some (zi (((la : Int) * 8) + (zeK e : Int))))) c s h') :
    zX (d + 3) 43 0 [(0, .inr (20, v)), (1, .inr (8, zeN e)), (2, zi 1)] [] c s h Q := by
  refine zX.sn 1 (pc2 := 1) (l2 := [(0, .inr (20, v)), (1, .inr (8, zeN e)), (2, zi 1)]) (st2 := [.inr (8, zeN e)]) rfl ?_
  refine zX.getf ⟨rfl, rfl⟩ H_8_zeN_e rfl rfl ?_
  refine zX.sn 1 (pc2 := 5) (l2 := [(3, zi (zeT e : Int)), (0, .inr (20, v)), (1, .inr (8, zeN e)), (2, zi 1)]) (st2 := []) rfl ?_
  refine zX.sn 1 (pc2 := 6) (l2 := [(3, zi (zeT e : Int)), (0, .inr (20, v)), (1, .inr (8, zeN e)), (2, zi 1)]) (st2 := [.inr (8, zeN e)]) rfl ?_
  refine zX.getf ⟨rfl, rfl⟩ H_8_zeN_e rfl rfl ?_
  refine zX.sn 1 (pc2 := 11) (l2 := [(4, zi (zeT e : Int)), (3, zi (zeT e : Int)), (0, .inr (20, v)), (1, .inr (8, zeN e)), (2, zi 1)]) (st2 := []) rfl ?_
  refine zX.sn 1 (pc2 := 12) (l2 := [(4, zi (zeT e : Int)), (3, zi (zeT e : Int)), (0, .inr (20, v)), (1, .inr (8, zeN e)), (2, zi 1)]) (st2 := [.inr (20, v)]) rfl ?_
  refine zX.getf ⟨rfl, rfl⟩ H_20_v rfl rfl ?_
  refine zX.sn 1 (pc2 := 18) (l2 := [(4, zi (zeT e : Int)), (3, zi (zeT e : Int)), (0, .inr (20, v)), (1, .inr (8, zeN e)), (2, zi 1)]) (st2 := [zi 8000, .inr (26, v)]) rfl ?_
  refine zX.call (mid2 := 56) (as := [.inr (26, v), zi 8000]) (rest := []) ⟨rfl, rfl⟩ (fun _ => rfl) (zX.inv rfl (P_rows.1) rfl rfl) ⟨Nat.le_of_ble_eq_true rfl, Nat.le_of_ble_eq_true rfl⟩ ?_
  refine s_tclr (k := 8000) (by omega) (by omega) (by omega) (by omega) P_rows (fun h1 hv1 hF1 => ?_)
  show zX _ 43 21 [(4, zi (zeT e : Int)), (3, zi (zeT e : Int)), (0, .inr (20, v)), (1, .inr (8, zeN e)), (2, zi 1)] [] c s _ _
  refine zX.sn 1 (pc2 := 22) (l2 := [(4, zi (zeT e : Int)), (3, zi (zeT e : Int)), (0, .inr (20, v)), (1, .inr (8, zeN e)), (2, zi 1)]) (st2 := [.inr (20, v)]) rfl ?_
  refine zX.getf ⟨rfl, rfl⟩ ((hF1 20 v (by omega)).trans H_20_v) rfl rfl ?_
  refine zX.sn 1 (pc2 := 28) (l2 := [(4, zi (zeT e : Int)), (3, zi (zeT e : Int)), (0, .inr (20, v)), (1, .inr (8, zeN e)), (2, zi 1)]) (st2 := [zi 8000, .inr (26, v)]) rfl ?_
  refine zX.sn 1 (pc2 := 29) (l2 := [(4, zi (zeT e : Int)), (3, zi (zeT e : Int)), (0, .inr (20, v)), (1, .inr (8, zeN e)), (2, zi 1)]) (st2 := [.inr (8, zeN e), zi 8000, .inr (26, v)]) rfl ?_
  refine zX.getf ⟨rfl, rfl⟩ ((hF1 8 (zeN e) (by omega)).trans H_8_zeN_e) rfl rfl ?_
  refine zX.call (mid2 := 54) (as := [.inr (26, v), zi 8000, zi (zeV e)]) (rest := []) ⟨rfl, rfl⟩ (fun _ => rfl) (zX.inv rfl (hv1.1) rfl rfl) ⟨Nat.le_of_ble_eq_true rfl, Nat.le_of_ble_eq_true rfl⟩ ?_
  refine s_tadd (k := 8000) (by omega) (by omega) (by omega) (by omega) hv1 (fun h2 hv2 hF2 => ?_)
  show zX _ 43 35 [(4, zi (zeT e : Int)), (3, zi (zeT e : Int)), (0, .inr (20, v)), (1, .inr (8, zeN e)), (2, zi 1)] [] c s _ _
  refine zX.sn 1 (pc2 := 36) (l2 := [(4, zi (zeT e : Int)), (3, zi (zeT e : Int)), (0, .inr (20, v)), (1, .inr (8, zeN e)), (2, zi 1)]) (st2 := [zi 0]) rfl ?_
  refine zX.sn 1 (pc2 := 38) (l2 := [(5, zi 0), (4, zi (zeT e : Int)), (3, zi (zeT e : Int)), (0, .inr (20, v)), (1, .inr (8, zeN e)), (2, zi 1)]) (st2 := []) rfl ?_
  refine zX.sn 1 (pc2 := 40) (l2 := [(5, zi 0), (4, zi (zeT e : Int)), (3, zi (zeT e : Int)), (0, .inr (20, v)), (1, .inr (8, zeN e)), (2, zi 1)]) (st2 := [zi 0]) rfl ?_
  refine zX.sn 1 (pc2 := 41) (l2 := [(5, zi 0), (4, zi (zeT e : Int)), (3, zi (zeT e : Int)), (0, .inr (20, v)), (1, .inr (8, zeN e)), (2, zi 1)]) (st2 := [zi 1, zi 0]) rfl ?_
  refine zX.icmp (tgt := 124) ⟨rfl, rfl⟩ rfl (by omega) (by omega) (fun (zz : 1 ≤ 0) => absurd zz (by omega)) (fun (e1 : 0 < 1) => ?_)
  refine zX.sn 1 (pc2 := 46) (l2 := [(5, zi 0), (4, zi (zeT e : Int)), (3, zi (zeT e : Int)), (0, .inr (20, v)), (1, .inr (8, zeN e)), (2, zi 1)]) (st2 := [zi 0]) rfl ?_
  refine zX.sn 1 (pc2 := 47) (l2 := [(5, zi 0), (4, zi (zeT e : Int)), (3, zi (zeT e : Int)), (0, .inr (20, v)), (1, .inr (8, zeN e)), (2, zi 1)]) (st2 := [.inr (20, v), zi 0]) rfl ?_
  refine zX.getf ⟨rfl, rfl⟩ ((hF2 20 v (by omega)).trans ((hF1 20 v (by omega)).trans H_20_v)) rfl rfl ?_
  refine zX.alen ⟨rfl, rfl⟩ ((hF2 35 v (by omega)).trans ((hF1 35 v (by omega)).trans H_35_v)) ?_
  show zX _ 43 51 [(5, zi 0), (4, zi (zeT e : Int)), (3, zi (zeT e : Int)), (0, .inr (20, v)), (1, .inr (8, zeN e)), (2, zi 1)] [zi 2, zi 0] c s _ _
  refine zX.icmp (tgt := 124) ⟨rfl, rfl⟩ rfl (by omega) (by omega) (fun (zz : 2 ≤ 0) => absurd zz (by omega)) (fun (e2 : 0 < 2) => ?_)
  refine zX.sn 1 (pc2 := 55) (l2 := [(5, zi 0), (4, zi (zeT e : Int)), (3, zi (zeT e : Int)), (0, .inr (20, v)), (1, .inr (8, zeN e)), (2, zi 1)]) (st2 := [zi (zeT e : Int)]) rfl ?_
  refine zX.sn 1 (pc2 := 56) (l2 := [(5, zi 0), (4, zi (zeT e : Int)), (3, zi (zeT e : Int)), (0, .inr (20, v)), (1, .inr (8, zeN e)), (2, zi 1)]) (st2 := [.inr (20, v), zi (zeT e : Int)]) rfl ?_
  refine zX.sn 1 (pc2 := 57) (l2 := [(5, zi 0), (4, zi (zeT e : Int)), (3, zi (zeT e : Int)), (0, .inr (20, v)), (1, .inr (8, zeN e)), (2, zi 1)]) (st2 := [.inr (20, v), .inr (20, v), zi (zeT e : Int)]) rfl ?_
  refine zX.getf ⟨rfl, rfl⟩ ((hF2 20 v (by omega)).trans ((hF1 20 v (by omega)).trans H_20_v)) rfl rfl ?_
  refine zX.sn 1 (pc2 := 62) (l2 := [(5, zi 0), (4, zi (zeT e : Int)), (3, zi (zeT e : Int)), (0, .inr (20, v)), (1, .inr (8, zeN e)), (2, zi 1)]) (st2 := [zi 0, .inr (35, v), .inr (20, v), zi (zeT e : Int)]) rfl ?_
  refine zX.iald (j := 0) ⟨rfl, rfl⟩ ((hF2 35 v (by omega)).trans ((hF1 35 v (by omega)).trans H_35_v)) (by omega) (by omega) (by omega) ?_
  show zX _ 43 63 [(5, zi 0), (4, zi (zeT e : Int)), (3, zi (zeT e : Int)), (0, .inr (20, v)), (1, .inr (8, zeN e)), (2, zi 1)] [zi (jj 0), .inr (20, v), zi (zeT e : Int)] c s _ _
  refine zX.call (mid2 := 38) (as := [.inr (20, v), zi (jj 0)]) (rest := [zi (zeT e : Int)]) ⟨rfl, rfl⟩ (fun _ => rfl) (zX.inv rfl ((hF2 20 v (by omega)).trans ((hF1 20 v (by omega)).trans H_20_v)) rfl rfl) ⟨Nat.le_of_ble_eq_true rfl, Nat.le_of_ble_eq_true rfl⟩ ?_
  show zX _ 38 0 [(0, .inr (20, v)), (1, zi (jj 0))] [] c s _ _
  refine zX.sn 1 (pc2 := 1) (l2 := [(0, .inr (20, v)), (1, zi (jj 0))]) (st2 := [zi (jj 0)]) rfl ?_
  refine zX.icmp0 (tgt := 22) ⟨rfl, rfl⟩ rfl (by omega) (fun (zz : jj 0 < 0) => absurd zz (by omega)) (fun (e3 : 0 ≤ jj 0) => ?_)
  refine zX.sn 1 (pc2 := 5) (l2 := [(0, .inr (20, v)), (1, zi (jj 0))]) (st2 := [zi (jj 0)]) rfl ?_
  refine zX.sn 1 (pc2 := 6) (l2 := [(0, .inr (20, v)), (1, zi (jj 0))]) (st2 := [.inr (20, v), zi (jj 0)]) rfl ?_
  refine zX.getf ⟨rfl, rfl⟩ ((hF2 20 v (by omega)).trans ((hF1 20 v (by omega)).trans H_20_v)) rfl rfl ?_
  refine zX.alen ⟨rfl, rfl⟩ ((hF2 34 v (by omega)).trans ((hF1 34 v (by omega)).trans H_34_v)) ?_
  show zX _ 38 10 [(0, .inr (20, v)), (1, zi (jj 0))] [zi 8000, zi (jj 0)] c s _ _
  refine zX.icmp (tgt := 22) ⟨rfl, rfl⟩ rfl (by omega) (by omega) (fun (zz : 8000 ≤ jj 0) => absurd zz (by omega)) (fun (e4 : jj 0 < 8000) => ?_)
  refine zX.sn 1 (pc2 := 14) (l2 := [(0, .inr (20, v)), (1, zi (jj 0))]) (st2 := [.inr (20, v)]) rfl ?_
  refine zX.getf ⟨rfl, rfl⟩ ((hF2 20 v (by omega)).trans ((hF1 20 v (by omega)).trans H_20_v)) rfl rfl ?_
  refine zX.sn 1 (pc2 := 18) (l2 := [(0, .inr (20, v)), (1, zi (jj 0))]) (st2 := [zi (jj 0), .inr (34, v)]) rfl ?_
  refine zX.iald (j := a) ⟨rfl, rfl⟩ ((hF2 34 v (by omega)).trans ((hF1 34 v (by omega)).trans H_34_v)) hja (by omega) (by omega) ?_
  show zX _ 38 19 [(0, .inr (20, v)), (1, zi (jj 0))] [zi (ff a)] c s _ _
  refine zX.sn 1 (pc2 := 23) (l2 := [(0, .inr (20, v)), (1, zi (jj 0))]) (st2 := [zi (ff a)]) rfl ?_
  refine zX.ret rfl rfl ?_
  show zX _ 43 66 [(5, zi 0), (4, zi (zeT e : Int)), (3, zi (zeT e : Int)), (0, .inr (20, v)), (1, .inr (8, zeN e)), (2, zi 1)] [zi (ff a), zi (zeT e : Int)] c s _ _
  refine zX.mini ⟨rfl, rfl⟩ (by omega) (by omega) (Nat.le_of_ble_eq_true rfl) ?_
  rw [show (if ff a < (zeT e : Int) then ff a else (zeT e : Int)) = fst from hmi]
  refine zX.sn 1 (pc2 := 70) (l2 := [(3, zi fst), (5, zi 0), (4, zi (zeT e : Int)), (0, .inr (20, v)), (1, .inr (8, zeN e)), (2, zi 1)]) (st2 := []) rfl ?_
  refine zX.sn 1 (pc2 := 72) (l2 := [(3, zi fst), (5, zi 0), (4, zi (zeT e : Int)), (0, .inr (20, v)), (1, .inr (8, zeN e)), (2, zi 1)]) (st2 := [zi (zeT e : Int)]) rfl ?_
  refine zX.sn 1 (pc2 := 73) (l2 := [(3, zi fst), (5, zi 0), (4, zi (zeT e : Int)), (0, .inr (20, v)), (1, .inr (8, zeN e)), (2, zi 1)]) (st2 := [.inr (20, v), zi (zeT e : Int)]) rfl ?_
  refine zX.getf ⟨rfl, rfl⟩ ((hF2 20 v (by omega)).trans ((hF1 20 v (by omega)).trans H_20_v)) rfl rfl ?_
  refine zX.sn 1 (pc2 := 78) (l2 := [(3, zi fst), (5, zi 0), (4, zi (zeT e : Int)), (0, .inr (20, v)), (1, .inr (8, zeN e)), (2, zi 1)]) (st2 := [zi 0, .inr (35, v), zi (zeT e : Int)]) rfl ?_
  refine zX.iald (j := 0) ⟨rfl, rfl⟩ ((hF2 35 v (by omega)).trans ((hF1 35 v (by omega)).trans H_35_v)) (by omega) (by omega) (by omega) ?_
  show zX _ 43 79 [(3, zi fst), (5, zi 0), (4, zi (zeT e : Int)), (0, .inr (20, v)), (1, .inr (8, zeN e)), (2, zi 1)] [zi (jj 0), zi (zeT e : Int)] c s _ _
  refine zX.call (mid2 := 37) (as := [zi (jj 0)]) (rest := [zi (zeT e : Int)]) ⟨rfl, rfl⟩ (fun _ => rfl) rfl ⟨Nat.le_of_ble_eq_true rfl, Nat.le_of_ble_eq_true rfl⟩ ?_
  show zX _ 37 0 [(0, zi (jj 0))] [] c s _ _
  refine zX.sn 1 (pc2 := 1) (l2 := [(0, zi (jj 0))]) (st2 := [zi (jj 0)]) rfl ?_
  refine zX.sn 1 (pc2 := 3) (l2 := [(0, zi (jj 0))]) (st2 := [zi 8, zi (jj 0)]) rfl ?_
  refine zX.idiv ⟨rfl, rfl⟩ (by omega) (by omega) ?_
  refine zX.ret rfl rfl ?_
  show zX _ 43 82 [(3, zi fst), (5, zi 0), (4, zi (zeT e : Int)), (0, .inr (20, v)), (1, .inr (8, zeN e)), (2, zi 1)] [zi (jj 0 / 8), zi (zeT e : Int)] c s _ _
  refine zX.maxi ⟨rfl, rfl⟩ (by omega) (by omega) (Nat.le_of_ble_eq_true rfl) ?_
  rw [show (if (zeT e : Int) < (jj 0 / 8) then (jj 0 / 8) else (zeT e : Int)) = (la : Int) from hma]
  refine zX.sn 1 (pc2 := 87) (l2 := [(4, zi (la : Int)), (3, zi fst), (5, zi 0), (0, .inr (20, v)), (1, .inr (8, zeN e)), (2, zi 1)]) (st2 := []) rfl ?_
  refine zX.sn 1 (pc2 := 88) (l2 := [(4, zi (la : Int)), (3, zi fst), (5, zi 0), (0, .inr (20, v)), (1, .inr (8, zeN e)), (2, zi 1)]) (st2 := [.inr (20, v)]) rfl ?_
  refine zX.getf ⟨rfl, rfl⟩ ((hF2 20 v (by omega)).trans ((hF1 20 v (by omega)).trans H_20_v)) rfl rfl ?_
  refine zX.sn 1 (pc2 := 94) (l2 := [(4, zi (la : Int)), (3, zi fst), (5, zi 0), (0, .inr (20, v)), (1, .inr (8, zeN e)), (2, zi 1)]) (st2 := [zi 8000, .inr (26, v)]) rfl ?_
  refine zX.sn 1 (pc2 := 95) (l2 := [(4, zi (la : Int)), (3, zi fst), (5, zi 0), (0, .inr (20, v)), (1, .inr (8, zeN e)), (2, zi 1)]) (st2 := [.inr (20, v), zi 8000, .inr (26, v)]) rfl ?_
  refine zX.getf ⟨rfl, rfl⟩ ((hF2 20 v (by omega)).trans ((hF1 20 v (by omega)).trans H_20_v)) rfl rfl ?_
  refine zX.sn 1 (pc2 := 100) (l2 := [(4, zi (la : Int)), (3, zi fst), (5, zi 0), (0, .inr (20, v)), (1, .inr (8, zeN e)), (2, zi 1)]) (st2 := [zi 0, .inr (35, v), zi 8000, .inr (26, v)]) rfl ?_
  refine zX.iald (j := 0) ⟨rfl, rfl⟩ ((hF2 35 v (by omega)).trans ((hF1 35 v (by omega)).trans H_35_v)) (by omega) (by omega) (by omega) ?_
  show zX _ 43 101 [(4, zi (la : Int)), (3, zi fst), (5, zi 0), (0, .inr (20, v)), (1, .inr (8, zeN e)), (2, zi 1)] [zi (jj 0), zi 8000, .inr (26, v)] c s _ _
  refine zX.call (mid2 := 55) (as := [.inr (26, v), zi 8000, zi (jj 0)]) (rest := []) ⟨rfl, rfl⟩ (fun _ => rfl) (zX.inv rfl (hv2.1) rfl rfl) ⟨Nat.le_of_ble_eq_true rfl, Nat.le_of_ble_eq_true rfl⟩ ?_
  refine s_tall2 (k := 8000) (j := a) (by omega) hja (by omega) (by omega) (by omega) (by omega) hv2  (fun h3 gg3 hv3 hF3 => ?_)
  show zX _ 43 104 [(4, zi (la : Int)), (3, zi fst), (5, zi 0), (0, .inr (20, v)), (1, .inr (8, zeN e)), (2, zi 1)] [] c s _ _
  refine zX.sn 1 (pc2 := 105) (l2 := [(4, zi (la : Int)), (3, zi fst), (5, zi 0), (0, .inr (20, v)), (1, .inr (8, zeN e)), (2, zi 1)]) (st2 := [.inr (20, v)]) rfl ?_
  refine zX.getf ⟨rfl, rfl⟩ ((hF3 20 v (by omega)).trans ((hF2 20 v (by omega)).trans ((hF1 20 v (by omega)).trans H_20_v))) rfl rfl ?_
  refine zX.sn 1 (pc2 := 109) (l2 := [(4, zi (la : Int)), (3, zi fst), (5, zi 0), (0, .inr (20, v)), (1, .inr (8, zeN e)), (2, zi 1)]) (st2 := [.inr (20, v), .inr (26, v)]) rfl ?_
  refine zX.getf ⟨rfl, rfl⟩ ((hF3 20 v (by omega)).trans ((hF2 20 v (by omega)).trans ((hF1 20 v (by omega)).trans H_20_v))) rfl rfl ?_
  refine zX.sn 1 (pc2 := 114) (l2 := [(4, zi (la : Int)), (3, zi fst), (5, zi 0), (0, .inr (20, v)), (1, .inr (8, zeN e)), (2, zi 1)]) (st2 := [zi 0, .inr (35, v), .inr (26, v)]) rfl ?_
  refine zX.iald (j := 0) ⟨rfl, rfl⟩ ((hF3 35 v (by omega)).trans ((hF2 35 v (by omega)).trans ((hF1 35 v (by omega)).trans H_35_v))) (by omega) (by omega) (by omega) ?_
  show zX _ 43 115 [(4, zi (la : Int)), (3, zi fst), (5, zi 0), (0, .inr (20, v)), (1, .inr (8, zeN e)), (2, zi 1)] [zi (jj 0), .inr (26, v)] c s _ _
  refine zX.call (mid2 := 56) (as := [.inr (26, v), zi (jj 0)]) (rest := []) ⟨rfl, rfl⟩ (fun _ => rfl) (zX.inv rfl (hv3.1) rfl rfl) ⟨Nat.le_of_ble_eq_true rfl, Nat.le_of_ble_eq_true rfl⟩ ?_
  refine s_tclr (k := a) hja (by omega) (by omega) (by omega) hv3 (fun h4 hv4 hF4 => ?_)
  show zX _ 43 118 [(4, zi (la : Int)), (3, zi fst), (5, zi 0), (0, .inr (20, v)), (1, .inr (8, zeN e)), (2, zi 1)] [] c s _ _
  refine zX.s1 (pc2 := 121) (l2 := [(5, zi 1), (4, zi (la : Int)), (3, zi fst), (0, .inr (20, v)), (1, .inr (8, zeN e)), (2, zi 1)]) (st2 := []) ⟨rfl, rfl⟩ rfl ?_
  refine zX.sn 1 (pc2 := 38) (l2 := [(5, zi 1), (4, zi (la : Int)), (3, zi fst), (0, .inr (20, v)), (1, .inr (8, zeN e)), (2, zi 1)]) (st2 := []) rfl ?_
  refine zX.sn 1 (pc2 := 40) (l2 := [(5, zi 1), (4, zi (la : Int)), (3, zi fst), (0, .inr (20, v)), (1, .inr (8, zeN e)), (2, zi 1)]) (st2 := [zi 1]) rfl ?_
  refine zX.sn 1 (pc2 := 41) (l2 := [(5, zi 1), (4, zi (la : Int)), (3, zi fst), (0, .inr (20, v)), (1, .inr (8, zeN e)), (2, zi 1)]) (st2 := [zi 1, zi 1]) rfl ?_
  refine zX.icmp (tgt := 124) ⟨rfl, rfl⟩ rfl (by omega) (by omega) (fun (e5 : 1 ≤ 1) => ?_) (fun (zz : 1 < 1) => absurd zz (by omega))
  refine zX.sn 1 (pc2 := 126) (l2 := [(5, zi 1), (4, zi (la : Int)), (3, zi fst), (0, .inr (20, v)), (1, .inr (8, zeN e)), (2, zi 1)]) (st2 := [zi (la : Int)]) rfl ?_
  refine zX.sn 1 (pc2 := 127) (l2 := [(5, zi 1), (4, zi (la : Int)), (3, zi fst), (0, .inr (20, v)), (1, .inr (8, zeN e)), (2, zi 1)]) (st2 := [.inr (8, zeN e), zi (la : Int)]) rfl ?_
  refine zX.getf ⟨rfl, rfl⟩ ((hF4 8 (zeN e) (by omega)).trans ((hF3 8 (zeN e) (by omega)).trans ((hF2 8 (zeN e) (by omega)).trans ((hF1 8 (zeN e) (by omega)).trans H_8_zeN_e)))) rfl rfl ?_
  refine zX.call (mid2 := 36) (as := [zi (la : Int), zi (zeK e : Int)]) (rest := []) ⟨rfl, rfl⟩ (fun _ => rfl) rfl ⟨Nat.le_of_ble_eq_true rfl, Nat.le_of_ble_eq_true rfl⟩ ?_
  show zX _ 36 0 [(0, zi (la : Int)), (1, zi (zeK e : Int))] [] c s _ _
  refine zX.sn 1 (pc2 := 1) (l2 := [(0, zi (la : Int)), (1, zi (zeK e : Int))]) (st2 := [zi (la : Int)]) rfl ?_
  refine zX.sn 1 (pc2 := 3) (l2 := [(0, zi (la : Int)), (1, zi (zeK e : Int))]) (st2 := [zi 8, zi (la : Int)]) rfl ?_
  refine zX.imul ⟨rfl, rfl⟩ ?_
  refine zX.sn 1 (pc2 := 5) (l2 := [(0, zi (la : Int)), (1, zi (zeK e : Int))]) (st2 := [zi (zeK e : Int), zi ((la : Int) * 8)]) rfl ?_
  refine zX.iadd ⟨rfl, rfl⟩ ?_
  refine zX.ret rfl rfl ?_
  show zX _ 43 133 [(5, zi 1), (4, zi (la : Int)), (3, zi fst), (0, .inr (20, v)), (1, .inr (8, zeN e)), (2, zi 1)] [zi (((la : Int) * 8) + (zeK e : Int))] c s _ _
  refine zX.sn 1 (pc2 := 135) (l2 := [(5, zi (((la : Int) * 8) + (zeK e : Int))), (4, zi (la : Int)), (3, zi fst), (0, .inr (20, v)), (1, .inr (8, zeN e)), (2, zi 1)]) (st2 := []) rfl ?_
  refine zX.sn 1 (pc2 := 136) (l2 := [(5, zi (((la : Int) * 8) + (zeK e : Int))), (4, zi (la : Int)), (3, zi fst), (0, .inr (20, v)), (1, .inr (8, zeN e)), (2, zi 1)]) (st2 := [.inr (20, v)]) rfl ?_
  refine zX.getf ⟨rfl, rfl⟩ ((hF4 20 v (by omega)).trans ((hF3 20 v (by omega)).trans ((hF2 20 v (by omega)).trans ((hF1 20 v (by omega)).trans H_20_v)))) rfl rfl ?_
  refine zX.sn 1 (pc2 := 141) (l2 := [(5, zi (((la : Int) * 8) + (zeK e : Int))), (4, zi (la : Int)), (3, zi fst), (0, .inr (20, v)), (1, .inr (8, zeN e)), (2, zi 1)]) (st2 := [zi (((la : Int) * 8) + (zeK e : Int)), .inr (26, v)]) rfl ?_
  refine zX.sn 1 (pc2 := 144) (l2 := [(5, zi (((la : Int) * 8) + (zeK e : Int))), (4, zi (la : Int)), (3, zi fst), (0, .inr (20, v)), (1, .inr (8, zeN e)), (2, zi 1)]) (st2 := [zi 8000, zi (((la : Int) * 8) + (zeK e : Int)), .inr (26, v)]) rfl ?_
  refine zX.call (mid2 := 55) (as := [.inr (26, v), zi (((la : Int) * 8) + (zeK e : Int)), zi 8000]) (rest := []) ⟨rfl, rfl⟩ (fun _ => rfl) (zX.inv rfl (hv4.1) rfl rfl) ⟨Nat.le_of_ble_eq_true rfl, Nat.le_of_ble_eq_true rfl⟩ ?_
  refine s_tall2 (k := ((la * 8) + zeK e)) (j := 8000) (by omega) (by omega) (by omega) (by omega) (by omega) (by omega) hv4  (fun h5 gg5 hv5 hF5 => ?_)
  show zX _ 43 147 [(5, zi (((la : Int) * 8) + (zeK e : Int))), (4, zi (la : Int)), (3, zi fst), (0, .inr (20, v)), (1, .inr (8, zeN e)), (2, zi 1)] [] c s _ _
  refine zX.sn 1 (pc2 := 149) (l2 := [(5, zi (((la : Int) * 8) + (zeK e : Int))), (4, zi (la : Int)), (3, zi fst), (0, .inr (20, v)), (1, .inr (8, zeN e)), (2, zi 1)]) (st2 := [zi (((la : Int) * 8) + (zeK e : Int))]) rfl ?_
  refine zX.icmp0 (tgt := 170) ⟨rfl, rfl⟩ rfl (by omega) (fun (zz : (((la : Int) * 8) + (zeK e : Int)) < 0) => absurd zz (by omega)) (fun (e6 : 0 ≤ (((la : Int) * 8) + (zeK e : Int))) => ?_)
  refine zX.sn 1 (pc2 := 154) (l2 := [(5, zi (((la : Int) * 8) + (zeK e : Int))), (4, zi (la : Int)), (3, zi fst), (0, .inr (20, v)), (1, .inr (8, zeN e)), (2, zi 1)]) (st2 := [zi (((la : Int) * 8) + (zeK e : Int))]) rfl ?_
  refine zX.sn 1 (pc2 := 155) (l2 := [(5, zi (((la : Int) * 8) + (zeK e : Int))), (4, zi (la : Int)), (3, zi fst), (0, .inr (20, v)), (1, .inr (8, zeN e)), (2, zi 1)]) (st2 := [.inr (20, v), zi (((la : Int) * 8) + (zeK e : Int))]) rfl ?_
  refine zX.getf ⟨rfl, rfl⟩ ((hF5 20 v (by omega)).trans ((hF4 20 v (by omega)).trans ((hF3 20 v (by omega)).trans ((hF2 20 v (by omega)).trans ((hF1 20 v (by omega)).trans H_20_v))))) rfl rfl ?_
  refine zX.alen ⟨rfl, rfl⟩ ((hF5 34 v (by omega)).trans ((hF4 34 v (by omega)).trans ((hF3 34 v (by omega)).trans ((hF2 34 v (by omega)).trans ((hF1 34 v (by omega)).trans H_34_v))))) ?_
  show zX _ 43 159 [(5, zi (((la : Int) * 8) + (zeK e : Int))), (4, zi (la : Int)), (3, zi fst), (0, .inr (20, v)), (1, .inr (8, zeN e)), (2, zi 1)] [zi 8000, zi (((la : Int) * 8) + (zeK e : Int))] c s _ _
  refine zX.icmp (tgt := 170) ⟨rfl, rfl⟩ rfl (by omega) (by omega) (fun (zz : 8000 ≤ (((la : Int) * 8) + (zeK e : Int))) => absurd zz (by omega)) (fun (e7 : (((la : Int) * 8) + (zeK e : Int)) < 8000) => ?_)
  refine zX.sn 1 (pc2 := 163) (l2 := [(5, zi (((la : Int) * 8) + (zeK e : Int))), (4, zi (la : Int)), (3, zi fst), (0, .inr (20, v)), (1, .inr (8, zeN e)), (2, zi 1)]) (st2 := [.inr (20, v)]) rfl ?_
  refine zX.getf ⟨rfl, rfl⟩ ((hF5 20 v (by omega)).trans ((hF4 20 v (by omega)).trans ((hF3 20 v (by omega)).trans ((hF2 20 v (by omega)).trans ((hF1 20 v (by omega)).trans H_20_v))))) rfl rfl ?_
  refine zX.sn 1 (pc2 := 168) (l2 := [(5, zi (((la : Int) * 8) + (zeK e : Int))), (4, zi (la : Int)), (3, zi fst), (0, .inr (20, v)), (1, .inr (8, zeN e)), (2, zi 1)]) (st2 := [zi (((la : Int) * 8) + (zeK e : Int)), .inr (34, v)]) rfl ?_
  refine zX.sn 1 (pc2 := 169) (l2 := [(5, zi (((la : Int) * 8) + (zeK e : Int))), (4, zi (la : Int)), (3, zi fst), (0, .inr (20, v)), (1, .inr (8, zeN e)), (2, zi 1)]) (st2 := [zi fst, zi (((la : Int) * 8) + (zeK e : Int)), .inr (34, v)]) rfl ?_
  refine zX.Aast (j := ((la * 8) + zeK e)) ⟨rfl, rfl⟩ ((hF5 34 v (by omega)).trans ((hF4 34 v (by omega)).trans ((hF3 34 v (by omega)).trans ((hF2 34 v (by omega)).trans ((hF1 34 v (by omega)).trans H_34_v))))) (by omega) (by omega) (by omega) (by omega) ?_
  show zX _ 43 170 [(5, zi (((la : Int) * 8) + (zeK e : Int))), (4, zi (la : Int)), (3, zi fst), (0, .inr (20, v)), (1, .inr (8, zeN e)), (2, zi 1)] [] c s (xup h5 (34, v) (.inr (0, 8000, zA (zfi ff ((la * 8) + zeK e) fst)))) _
  refine zX.sn 1 (pc2 := 172) (l2 := [(5, zi (((la : Int) * 8) + (zeK e : Int))), (4, zi (la : Int)), (3, zi fst), (0, .inr (20, v)), (1, .inr (8, zeN e)), (2, zi 1)]) (st2 := [zi (((la : Int) * 8) + (zeK e : Int))]) rfl ?_
  refine zX.ret rfl rfl ?_
  exact k1 gg3 gg5 _ zup_s (zTal.fr hv5 (fun za zb hi => (zup_n (zn (by omega)) rfl))) (fun za zb hn => (zup_n (zn (by omega)) ((hF5 za zb (by omega)).trans ((hF4 za zb (by omega)).trans ((hF3 za zb (by omega)).trans ((hF2 za zb (by omega)).trans ((hF1 za zb (by omega)).trans rfl)))))))

set_option maxHeartbeats 4000000 in
theorem r_sj2 {d c s : Nat} {h : xH} {Q : xR → Nat → Nat → xH → Prop} {v sz gr : Nat} {fi me : Int} {dr : Int32} {e : zE} {fn fs fg : Nat → Int32} {ff : Nat → Int} {jj : Nat → Int} {a b la l1 : Nat} {fst f1 : Int} (hvr : zVr v fi sz gr) (hv : v < 5) (hsz : 1 ≤ sz ∧ sz ≤ 200) (hgr : gr ≤ 200) (hme : me = 99 ∨ me = 115 ∨ me = 109) (hEe : zEr e) (hkye : zeK e < 8) (htme : zeT e < 1000) (hvae : -99 ≤ zeV e ∧ zeV e ≤ 99) (hahe : -1 ≤ zeA e ∧ zeA e < 1000) (hode : zeO e < 240) (hire : 0 ≤ zbi (zeR e) ∧ zbi (zeR e) ≤ 1) (hile : 0 ≤ zbi (zeL e) ∧ zbi (zeL e) ≤ 1) (hff : ∀ j, 0 ≤ ff j ∧ ff j ≤ 1000) (hja : jj 0 = (a : Int)) (hal : a < 8000) (hfa : 0 ≤ ff a ∧ ff a ≤ 1000) (hjb : jj 1 = (b : Int)) (hbl : b < 8000) (hfb : 0 ≤ ff b ∧ ff b ≤ 1000) (hm1 : (if ff a < (zeT e : Int) then ff a else (zeT e : Int)) = f1) (hx1 : (if (zeT e : Int) < (jj 0 / 8) then (jj 0 / 8) else (zeT e : Int)) = (l1 : Int)) (hf1 : 0 ≤ f1 ∧ f1 ≤ 1000) (hl1 : l1 ≤ 999) (hmi : (if ff b < f1 then ff b else f1) = fst) (hma : (if (l1 : Int) < (jj 1 / 8) then (jj 1 / 8) else (l1 : Int)) = (la : Int)) (hf9 : 0 ≤ fst ∧ fst ≤ 1000) (hl9 : la ≤ 999) (H_20_v : h (20, v) = some (.inl (6, [zi (v : Int), zi (zbi false), zi fi, zi (sz : Int), zi (gr : Int), .inr (2, 0), .inr (21, v), .inr (23, v), .inr (25, v), .inl (.int dr), zi me, .inr (26, v), .inr (30, v), .inr (34, v), .inr (35, v)]))) (H_8_zeN_e : h (8, zeN e) = some (.inl (1, [zi (zeP e : Int), zi (zbi (zeR e)), zi (zbi (zeL e)), zi (zeK e : Int), zi (zeT e : Int), zi (zeV e), zi (zeO e : Int), zi (zeA e), zi (zeB e)]))) (H_34_v : h (34, v) = some (.inr (0, 8000, zA ff))) (H_35_v : h (35, v) = some (.inr (0, 2, zA jj))) (P_rows : zTal h 26 v 8001 fn fs fg)
    (k1 : ∀ gg3 : Nat → Int32, ∀ gg5 : Nat → Int32, ∀ gg7 : Nat → Int32, ∀ h' : xH, h' (34, v) = some (.inr (0, 8000, zA (zfi ff ((la * 8) + zeK e) fst))) → zTal h' 26 v 8001 (zaaN (zfi (zaaN (zfi (zaaN (zfi (zfi fn 8000 0) 8000 ((zfi fn 8000 0) 8000 + 1)) 8000 a) a 0) 8000 b) b 0) ((la * 8) + zeK e) 8000) (zaaS (zfi (zaaN (zfi (zaaN (zfi (zfi fn 8000 0) 8000 ((zfi fn 8000 0) 8000 + 1)) 8000 a) a 0) 8000 b) b 0) (zfi (zaaS (zfi (zaaN (zfi (zfi fn 8000 0) 8000 ((zfi fn 8000 0) 8000 + 1)) 8000 a) a 0) (zfi (zaaS (zfi (zfi fn 8000 0) 8000 ((zfi fn 8000 0) 8000 + 1)) (zfi (zfi fs 8000 0) 8000 ((zfi fs 8000 0) 8000 + Int32.ofInt (zeV e))) 8000 a) a 0) 8000 b) b 0) ((la * 8) + zeK e) 8000) (gg7) → (∀ za zb : Nat, ¬ ((za = 34 ∧ zb = v) ∨ (26 ≤ za ∧ za < 26 + 4 ∧ zb = v)) → h' (za, zb) = h (za, zb)) → Q (.inl (some (zi (((la : Int) * 8) + (zeK e : Int))))) c s h') :
    zX (d + 3) 43 0 [(0, .inr (20, v)), (1, .inr (8, zeN e)), (2, zi 2)] [] c s h Q := by
  refine zX.sn 1 (pc2 := 1) (l2 := [(0, .inr (20, v)), (1, .inr (8, zeN e)), (2, zi 2)]) (st2 := [.inr (8, zeN e)]) rfl ?_
  refine zX.getf ⟨rfl, rfl⟩ H_8_zeN_e rfl rfl ?_
  refine zX.sn 1 (pc2 := 5) (l2 := [(3, zi (zeT e : Int)), (0, .inr (20, v)), (1, .inr (8, zeN e)), (2, zi 2)]) (st2 := []) rfl ?_
  refine zX.sn 1 (pc2 := 6) (l2 := [(3, zi (zeT e : Int)), (0, .inr (20, v)), (1, .inr (8, zeN e)), (2, zi 2)]) (st2 := [.inr (8, zeN e)]) rfl ?_
  refine zX.getf ⟨rfl, rfl⟩ H_8_zeN_e rfl rfl ?_
  refine zX.sn 1 (pc2 := 11) (l2 := [(4, zi (zeT e : Int)), (3, zi (zeT e : Int)), (0, .inr (20, v)), (1, .inr (8, zeN e)), (2, zi 2)]) (st2 := []) rfl ?_
  refine zX.sn 1 (pc2 := 12) (l2 := [(4, zi (zeT e : Int)), (3, zi (zeT e : Int)), (0, .inr (20, v)), (1, .inr (8, zeN e)), (2, zi 2)]) (st2 := [.inr (20, v)]) rfl ?_
  refine zX.getf ⟨rfl, rfl⟩ H_20_v rfl rfl ?_
  refine zX.sn 1 (pc2 := 18) (l2 := [(4, zi (zeT e : Int)), (3, zi (zeT e : Int)), (0, .inr (20, v)), (1, .inr (8, zeN e)), (2, zi 2)]) (st2 := [zi 8000, .inr (26, v)]) rfl ?_
  refine zX.call (mid2 := 56) (as := [.inr (26, v), zi 8000]) (rest := []) ⟨rfl, rfl⟩ (fun _ => rfl) (zX.inv rfl (P_rows.1) rfl rfl) ⟨Nat.le_of_ble_eq_true rfl, Nat.le_of_ble_eq_true rfl⟩ ?_
  refine s_tclr (k := 8000) (by omega) (by omega) (by omega) (by omega) P_rows (fun h1 hv1 hF1 => ?_)
  show zX _ 43 21 [(4, zi (zeT e : Int)), (3, zi (zeT e : Int)), (0, .inr (20, v)), (1, .inr (8, zeN e)), (2, zi 2)] [] c s _ _
  refine zX.sn 1 (pc2 := 22) (l2 := [(4, zi (zeT e : Int)), (3, zi (zeT e : Int)), (0, .inr (20, v)), (1, .inr (8, zeN e)), (2, zi 2)]) (st2 := [.inr (20, v)]) rfl ?_
  refine zX.getf ⟨rfl, rfl⟩ ((hF1 20 v (by omega)).trans H_20_v) rfl rfl ?_
  refine zX.sn 1 (pc2 := 28) (l2 := [(4, zi (zeT e : Int)), (3, zi (zeT e : Int)), (0, .inr (20, v)), (1, .inr (8, zeN e)), (2, zi 2)]) (st2 := [zi 8000, .inr (26, v)]) rfl ?_
  refine zX.sn 1 (pc2 := 29) (l2 := [(4, zi (zeT e : Int)), (3, zi (zeT e : Int)), (0, .inr (20, v)), (1, .inr (8, zeN e)), (2, zi 2)]) (st2 := [.inr (8, zeN e), zi 8000, .inr (26, v)]) rfl ?_
  refine zX.getf ⟨rfl, rfl⟩ ((hF1 8 (zeN e) (by omega)).trans H_8_zeN_e) rfl rfl ?_
  refine zX.call (mid2 := 54) (as := [.inr (26, v), zi 8000, zi (zeV e)]) (rest := []) ⟨rfl, rfl⟩ (fun _ => rfl) (zX.inv rfl (hv1.1) rfl rfl) ⟨Nat.le_of_ble_eq_true rfl, Nat.le_of_ble_eq_true rfl⟩ ?_
  refine s_tadd (k := 8000) (by omega) (by omega) (by omega) (by omega) hv1 (fun h2 hv2 hF2 => ?_)
  show zX _ 43 35 [(4, zi (zeT e : Int)), (3, zi (zeT e : Int)), (0, .inr (20, v)), (1, .inr (8, zeN e)), (2, zi 2)] [] c s _ _
  refine zX.sn 1 (pc2 := 36) (l2 := [(4, zi (zeT e : Int)), (3, zi (zeT e : Int)), (0, .inr (20, v)), (1, .inr (8, zeN e)), (2, zi 2)]) (st2 := [zi 0]) rfl ?_
  refine zX.sn 1 (pc2 := 38) (l2 := [(5, zi 0), (4, zi (zeT e : Int)), (3, zi (zeT e : Int)), (0, .inr (20, v)), (1, .inr (8, zeN e)), (2, zi 2)]) (st2 := []) rfl ?_
  refine zX.sn 1 (pc2 := 40) (l2 := [(5, zi 0), (4, zi (zeT e : Int)), (3, zi (zeT e : Int)), (0, .inr (20, v)), (1, .inr (8, zeN e)), (2, zi 2)]) (st2 := [zi 0]) rfl ?_
  refine zX.sn 1 (pc2 := 41) (l2 := [(5, zi 0), (4, zi (zeT e : Int)), (3, zi (zeT e : Int)), (0, .inr (20, v)), (1, .inr (8, zeN e)), (2, zi 2)]) (st2 := [zi 2, zi 0]) rfl ?_
  refine zX.icmp (tgt := 124) ⟨rfl, rfl⟩ rfl (by omega) (by omega) (fun (zz : 2 ≤ 0) => absurd zz (by omega)) (fun (e1 : 0 < 2) => ?_)
  refine zX.sn 1 (pc2 := 46) (l2 := [(5, zi 0), (4, zi (zeT e : Int)), (3, zi (zeT e : Int)), (0, .inr (20, v)), (1, .inr (8, zeN e)), (2, zi 2)]) (st2 := [zi 0]) rfl ?_
  refine zX.sn 1 (pc2 := 47) (l2 := [(5, zi 0), (4, zi (zeT e : Int)), (3, zi (zeT e : Int)), (0, .inr (20, v)), (1, .inr (8, zeN e)), (2, zi 2)]) (st2 := [.inr (20, v), zi 0]) rfl ?_
  refine zX.getf ⟨rfl, rfl⟩ ((hF2 20 v (by omega)).trans ((hF1 20 v (by omega)).trans H_20_v)) rfl rfl ?_
  refine zX.alen ⟨rfl, rfl⟩ ((hF2 35 v (by omega)).trans ((hF1 35 v (by omega)).trans H_35_v)) ?_
  show zX _ 43 51 [(5, zi 0), (4, zi (zeT e : Int)), (3, zi (zeT e : Int)), (0, .inr (20, v)), (1, .inr (8, zeN e)), (2, zi 2)] [zi 2, zi 0] c s _ _
  refine zX.icmp (tgt := 124) ⟨rfl, rfl⟩ rfl (by omega) (by omega) (fun (zz : 2 ≤ 0) => absurd zz (by omega)) (fun (e2 : 0 < 2) => ?_)
  refine zX.sn 1 (pc2 := 55) (l2 := [(5, zi 0), (4, zi (zeT e : Int)), (3, zi (zeT e : Int)), (0, .inr (20, v)), (1, .inr (8, zeN e)), (2, zi 2)]) (st2 := [zi (zeT e : Int)]) rfl ?_
  refine zX.sn 1 (pc2 := 56) (l2 := [(5, zi 0), (4, zi (zeT e : Int)), (3, zi (zeT e : Int)), (0, .inr (20, v)), (1, .inr (8, zeN e)), (2, zi 2)]) (st2 := [.inr (20, v), zi (zeT e : Int)]) rfl ?_
  refine zX.sn 1 (pc2 := 57) (l2 := [(5, zi 0), (4, zi (zeT e : Int)), (3, zi (zeT e : Int)), (0, .inr (20, v)), (1, .inr (8, zeN e)), (2, zi 2)]) (st2 := [.inr (20, v), .inr (20, v), zi (zeT e : Int)]) rfl ?_
  refine zX.getf ⟨rfl, rfl⟩ ((hF2 20 v (by omega)).trans ((hF1 20 v (by omega)).trans H_20_v)) rfl rfl ?_
  refine zX.sn 1 (pc2 := 62) (l2 := [(5, zi 0), (4, zi (zeT e : Int)), (3, zi (zeT e : Int)), (0, .inr (20, v)), (1, .inr (8, zeN e)), (2, zi 2)]) (st2 := [zi 0, .inr (35, v), .inr (20, v), zi (zeT e : Int)]) rfl ?_
  refine zX.iald (j := 0) ⟨rfl, rfl⟩ ((hF2 35 v (by omega)).trans ((hF1 35 v (by omega)).trans H_35_v)) (by omega) (by omega) (by omega) ?_
  show zX _ 43 63 [(5, zi 0), (4, zi (zeT e : Int)), (3, zi (zeT e : Int)), (0, .inr (20, v)), (1, .inr (8, zeN e)), (2, zi 2)] [zi (jj 0), .inr (20, v), zi (zeT e : Int)] c s _ _
  refine zX.call (mid2 := 38) (as := [.inr (20, v), zi (jj 0)]) (rest := [zi (zeT e : Int)]) ⟨rfl, rfl⟩ (fun _ => rfl) (zX.inv rfl ((hF2 20 v (by omega)).trans ((hF1 20 v (by omega)).trans H_20_v)) rfl rfl) ⟨Nat.le_of_ble_eq_true rfl, Nat.le_of_ble_eq_true rfl⟩ ?_
  show zX _ 38 0 [(0, .inr (20, v)), (1, zi (jj 0))] [] c s _ _
  refine zX.sn 1 (pc2 := 1) (l2 := [(0, .inr (20, v)), (1, zi (jj 0))]) (st2 := [zi (jj 0)]) rfl ?_
  refine zX.icmp0 (tgt := 22) ⟨rfl, rfl⟩ rfl (by omega) (fun (zz : jj 0 < 0) => absurd zz (by omega)) (fun (e3 : 0 ≤ jj 0) => ?_)
  refine zX.sn 1 (pc2 := 5) (l2 := [(0, .inr (20, v)), (1, zi (jj 0))]) (st2 := [zi (jj 0)]) rfl ?_
  refine zX.sn 1 (pc2 := 6) (l2 := [(0, .inr (20, v)), (1, zi (jj 0))]) (st2 := [.inr (20, v), zi (jj 0)]) rfl ?_
  refine zX.getf ⟨rfl, rfl⟩ ((hF2 20 v (by omega)).trans ((hF1 20 v (by omega)).trans H_20_v)) rfl rfl ?_
  refine zX.alen ⟨rfl, rfl⟩ ((hF2 34 v (by omega)).trans ((hF1 34 v (by omega)).trans H_34_v)) ?_
  show zX _ 38 10 [(0, .inr (20, v)), (1, zi (jj 0))] [zi 8000, zi (jj 0)] c s _ _
  refine zX.icmp (tgt := 22) ⟨rfl, rfl⟩ rfl (by omega) (by omega) (fun (zz : 8000 ≤ jj 0) => absurd zz (by omega)) (fun (e4 : jj 0 < 8000) => ?_)
  refine zX.sn 1 (pc2 := 14) (l2 := [(0, .inr (20, v)), (1, zi (jj 0))]) (st2 := [.inr (20, v)]) rfl ?_
  refine zX.getf ⟨rfl, rfl⟩ ((hF2 20 v (by omega)).trans ((hF1 20 v (by omega)).trans H_20_v)) rfl rfl ?_
  refine zX.sn 1 (pc2 := 18) (l2 := [(0, .inr (20, v)), (1, zi (jj 0))]) (st2 := [zi (jj 0), .inr (34, v)]) rfl ?_
  refine zX.iald (j := a) ⟨rfl, rfl⟩ ((hF2 34 v (by omega)).trans ((hF1 34 v (by omega)).trans H_34_v)) hja (by omega) (by omega) ?_
  show zX _ 38 19 [(0, .inr (20, v)), (1, zi (jj 0))] [zi (ff a)] c s _ _
  refine zX.sn 1 (pc2 := 23) (l2 := [(0, .inr (20, v)), (1, zi (jj 0))]) (st2 := [zi (ff a)]) rfl ?_
  refine zX.ret rfl rfl ?_
  show zX _ 43 66 [(5, zi 0), (4, zi (zeT e : Int)), (3, zi (zeT e : Int)), (0, .inr (20, v)), (1, .inr (8, zeN e)), (2, zi 2)] [zi (ff a), zi (zeT e : Int)] c s _ _
  refine zX.mini ⟨rfl, rfl⟩ (by omega) (by omega) (Nat.le_of_ble_eq_true rfl) ?_
  rw [show (if ff a < (zeT e : Int) then ff a else (zeT e : Int)) = f1 from hm1]
  refine zX.sn 1 (pc2 := 70) (l2 := [(3, zi f1), (5, zi 0), (4, zi (zeT e : Int)), (0, .inr (20, v)), (1, .inr (8, zeN e)), (2, zi 2)]) (st2 := []) rfl ?_
  refine zX.sn 1 (pc2 := 72) (l2 := [(3, zi f1), (5, zi 0), (4, zi (zeT e : Int)), (0, .inr (20, v)), (1, .inr (8, zeN e)), (2, zi 2)]) (st2 := [zi (zeT e : Int)]) rfl ?_
  refine zX.sn 1 (pc2 := 73) (l2 := [(3, zi f1), (5, zi 0), (4, zi (zeT e : Int)), (0, .inr (20, v)), (1, .inr (8, zeN e)), (2, zi 2)]) (st2 := [.inr (20, v), zi (zeT e : Int)]) rfl ?_
  refine zX.getf ⟨rfl, rfl⟩ ((hF2 20 v (by omega)).trans ((hF1 20 v (by omega)).trans H_20_v)) rfl rfl ?_
  refine zX.sn 1 (pc2 := 78) (l2 := [(3, zi f1), (5, zi 0), (4, zi (zeT e : Int)), (0, .inr (20, v)), (1, .inr (8, zeN e)), (2, zi 2)]) (st2 := [zi 0, .inr (35, v), zi (zeT e : Int)]) rfl ?_
  refine zX.iald (j := 0) ⟨rfl, rfl⟩ ((hF2 35 v (by omega)).trans ((hF1 35 v (by omega)).trans H_35_v)) (by omega) (by omega) (by omega) ?_
  show zX _ 43 79 [(3, zi f1), (5, zi 0), (4, zi (zeT e : Int)), (0, .inr (20, v)), (1, .inr (8, zeN e)), (2, zi 2)] [zi (jj 0), zi (zeT e : Int)] c s _ _
  refine zX.call (mid2 := 37) (as := [zi (jj 0)]) (rest := [zi (zeT e : Int)]) ⟨rfl, rfl⟩ (fun _ => rfl) rfl ⟨Nat.le_of_ble_eq_true rfl, Nat.le_of_ble_eq_true rfl⟩ ?_
  show zX _ 37 0 [(0, zi (jj 0))] [] c s _ _
  refine zX.sn 1 (pc2 := 1) (l2 := [(0, zi (jj 0))]) (st2 := [zi (jj 0)]) rfl ?_
  refine zX.sn 1 (pc2 := 3) (l2 := [(0, zi (jj 0))]) (st2 := [zi 8, zi (jj 0)]) rfl ?_
  refine zX.idiv ⟨rfl, rfl⟩ (by omega) (by omega) ?_
  refine zX.ret rfl rfl ?_
  show zX _ 43 82 [(3, zi f1), (5, zi 0), (4, zi (zeT e : Int)), (0, .inr (20, v)), (1, .inr (8, zeN e)), (2, zi 2)] [zi (jj 0 / 8), zi (zeT e : Int)] c s _ _
  refine zX.maxi ⟨rfl, rfl⟩ (by omega) (by omega) (Nat.le_of_ble_eq_true rfl) ?_
  rw [show (if (zeT e : Int) < (jj 0 / 8) then (jj 0 / 8) else (zeT e : Int)) = (l1 : Int) from hx1]
  refine zX.sn 1 (pc2 := 87) (l2 := [(4, zi (l1 : Int)), (3, zi f1), (5, zi 0), (0, .inr (20, v)), (1, .inr (8, zeN e)), (2, zi 2)]) (st2 := []) rfl ?_
  refine zX.sn 1 (pc2 := 88) (l2 := [(4, zi (l1 : Int)), (3, zi f1), (5, zi 0), (0, .inr (20, v)), (1, .inr (8, zeN e)), (2, zi 2)]) (st2 := [.inr (20, v)]) rfl ?_
  refine zX.getf ⟨rfl, rfl⟩ ((hF2 20 v (by omega)).trans ((hF1 20 v (by omega)).trans H_20_v)) rfl rfl ?_
  refine zX.sn 1 (pc2 := 94) (l2 := [(4, zi (l1 : Int)), (3, zi f1), (5, zi 0), (0, .inr (20, v)), (1, .inr (8, zeN e)), (2, zi 2)]) (st2 := [zi 8000, .inr (26, v)]) rfl ?_
  refine zX.sn 1 (pc2 := 95) (l2 := [(4, zi (l1 : Int)), (3, zi f1), (5, zi 0), (0, .inr (20, v)), (1, .inr (8, zeN e)), (2, zi 2)]) (st2 := [.inr (20, v), zi 8000, .inr (26, v)]) rfl ?_
  refine zX.getf ⟨rfl, rfl⟩ ((hF2 20 v (by omega)).trans ((hF1 20 v (by omega)).trans H_20_v)) rfl rfl ?_
  refine zX.sn 1 (pc2 := 100) (l2 := [(4, zi (l1 : Int)), (3, zi f1), (5, zi 0), (0, .inr (20, v)), (1, .inr (8, zeN e)), (2, zi 2)]) (st2 := [zi 0, .inr (35, v), zi 8000, .inr (26, v)]) rfl ?_
  refine zX.iald (j := 0) ⟨rfl, rfl⟩ ((hF2 35 v (by omega)).trans ((hF1 35 v (by omega)).trans H_35_v)) (by omega) (by omega) (by omega) ?_
  show zX _ 43 101 [(4, zi (l1 : Int)), (3, zi f1), (5, zi 0), (0, .inr (20, v)), (1, .inr (8, zeN e)), (2, zi 2)] [zi (jj 0), zi 8000, .inr (26, v)] c s _ _
  refine zX.call (mid2 := 55) (as := [.inr (26, v), zi 8000, zi (jj 0)]) (rest := []) ⟨rfl, rfl⟩ (fun _ => rfl) (zX.inv rfl (hv2.1) rfl rfl) ⟨Nat.le_of_ble_eq_true rfl, Nat.le_of_ble_eq_true rfl⟩ ?_
  refine s_tall2 (k := 8000) (j := a) (by omega) hja (by omega) (by omega) (by omega) (by omega) hv2  (fun h3 gg3 hv3 hF3 => ?_)
  show zX _ 43 104 [(4, zi (l1 : Int)), (3, zi f1), (5, zi 0), (0, .inr (20, v)), (1, .inr (8, zeN e)), (2, zi 2)] [] c s _ _
  refine zX.sn 1 (pc2 := 105) (l2 := [(4, zi (l1 : Int)), (3, zi f1), (5, zi 0), (0, .inr (20, v)), (1, .inr (8, zeN e)), (2, zi 2)]) (st2 := [.inr (20, v)]) rfl ?_
  refine zX.getf ⟨rfl, rfl⟩ ((hF3 20 v (by omega)).trans ((hF2 20 v (by omega)).trans ((hF1 20 v (by omega)).trans H_20_v))) rfl rfl ?_
  refine zX.sn 1 (pc2 := 109) (l2 := [(4, zi (l1 : Int)), (3, zi f1), (5, zi 0), (0, .inr (20, v)), (1, .inr (8, zeN e)), (2, zi 2)]) (st2 := [.inr (20, v), .inr (26, v)]) rfl ?_
  refine zX.getf ⟨rfl, rfl⟩ ((hF3 20 v (by omega)).trans ((hF2 20 v (by omega)).trans ((hF1 20 v (by omega)).trans H_20_v))) rfl rfl ?_
  refine zX.sn 1 (pc2 := 114) (l2 := [(4, zi (l1 : Int)), (3, zi f1), (5, zi 0), (0, .inr (20, v)), (1, .inr (8, zeN e)), (2, zi 2)]) (st2 := [zi 0, .inr (35, v), .inr (26, v)]) rfl ?_
  refine zX.iald (j := 0) ⟨rfl, rfl⟩ ((hF3 35 v (by omega)).trans ((hF2 35 v (by omega)).trans ((hF1 35 v (by omega)).trans H_35_v))) (by omega) (by omega) (by omega) ?_
  show zX _ 43 115 [(4, zi (l1 : Int)), (3, zi f1), (5, zi 0), (0, .inr (20, v)), (1, .inr (8, zeN e)), (2, zi 2)] [zi (jj 0), .inr (26, v)] c s _ _
  refine zX.call (mid2 := 56) (as := [.inr (26, v), zi (jj 0)]) (rest := []) ⟨rfl, rfl⟩ (fun _ => rfl) (zX.inv rfl (hv3.1) rfl rfl) ⟨Nat.le_of_ble_eq_true rfl, Nat.le_of_ble_eq_true rfl⟩ ?_
  refine s_tclr (k := a) hja (by omega) (by omega) (by omega) hv3 (fun h4 hv4 hF4 => ?_)
  show zX _ 43 118 [(4, zi (l1 : Int)), (3, zi f1), (5, zi 0), (0, .inr (20, v)), (1, .inr (8, zeN e)), (2, zi 2)] [] c s _ _
  refine zX.s1 (pc2 := 121) (l2 := [(5, zi 1), (4, zi (l1 : Int)), (3, zi f1), (0, .inr (20, v)), (1, .inr (8, zeN e)), (2, zi 2)]) (st2 := []) ⟨rfl, rfl⟩ rfl ?_
  refine zX.sn 1 (pc2 := 38) (l2 := [(5, zi 1), (4, zi (l1 : Int)), (3, zi f1), (0, .inr (20, v)), (1, .inr (8, zeN e)), (2, zi 2)]) (st2 := []) rfl ?_
  refine zX.sn 1 (pc2 := 40) (l2 := [(5, zi 1), (4, zi (l1 : Int)), (3, zi f1), (0, .inr (20, v)), (1, .inr (8, zeN e)), (2, zi 2)]) (st2 := [zi 1]) rfl ?_
  refine zX.sn 1 (pc2 := 41) (l2 := [(5, zi 1), (4, zi (l1 : Int)), (3, zi f1), (0, .inr (20, v)), (1, .inr (8, zeN e)), (2, zi 2)]) (st2 := [zi 2, zi 1]) rfl ?_
  refine zX.icmp (tgt := 124) ⟨rfl, rfl⟩ rfl (by omega) (by omega) (fun (zz : 2 ≤ 1) => absurd zz (by omega)) (fun (e5 : 1 < 2) => ?_)
  refine zX.sn 1 (pc2 := 46) (l2 := [(5, zi 1), (4, zi (l1 : Int)), (3, zi f1), (0, .inr (20, v)), (1, .inr (8, zeN e)), (2, zi 2)]) (st2 := [zi 1]) rfl ?_
  refine zX.sn 1 (pc2 := 47) (l2 := [(5, zi 1), (4, zi (l1 : Int)), (3, zi f1), (0, .inr (20, v)), (1, .inr (8, zeN e)), (2, zi 2)]) (st2 := [.inr (20, v), zi 1]) rfl ?_
  refine zX.getf ⟨rfl, rfl⟩ ((hF4 20 v (by omega)).trans ((hF3 20 v (by omega)).trans ((hF2 20 v (by omega)).trans ((hF1 20 v (by omega)).trans H_20_v)))) rfl rfl ?_
  refine zX.alen ⟨rfl, rfl⟩ ((hF4 35 v (by omega)).trans ((hF3 35 v (by omega)).trans ((hF2 35 v (by omega)).trans ((hF1 35 v (by omega)).trans H_35_v)))) ?_
  show zX _ 43 51 [(5, zi 1), (4, zi (l1 : Int)), (3, zi f1), (0, .inr (20, v)), (1, .inr (8, zeN e)), (2, zi 2)] [zi 2, zi 1] c s _ _
  refine zX.icmp (tgt := 124) ⟨rfl, rfl⟩ rfl (by omega) (by omega) (fun (zz : 2 ≤ 1) => absurd zz (by omega)) (fun (e6 : 1 < 2) => ?_)
  refine zX.sn 1 (pc2 := 55) (l2 := [(5, zi 1), (4, zi (l1 : Int)), (3, zi f1), (0, .inr (20, v)), (1, .inr (8, zeN e)), (2, zi 2)]) (st2 := [zi f1]) rfl ?_
  refine zX.sn 1 (pc2 := 56) (l2 := [(5, zi 1), (4, zi (l1 : Int)), (3, zi f1), (0, .inr (20, v)), (1, .inr (8, zeN e)), (2, zi 2)]) (st2 := [.inr (20, v), zi f1]) rfl ?_
  refine zX.sn 1 (pc2 := 57) (l2 := [(5, zi 1), (4, zi (l1 : Int)), (3, zi f1), (0, .inr (20, v)), (1, .inr (8, zeN e)), (2, zi 2)]) (st2 := [.inr (20, v), .inr (20, v), zi f1]) rfl ?_
  refine zX.getf ⟨rfl, rfl⟩ ((hF4 20 v (by omega)).trans ((hF3 20 v (by omega)).trans ((hF2 20 v (by omega)).trans ((hF1 20 v (by omega)).trans H_20_v)))) rfl rfl ?_
  refine zX.sn 1 (pc2 := 62) (l2 := [(5, zi 1), (4, zi (l1 : Int)), (3, zi f1), (0, .inr (20, v)), (1, .inr (8, zeN e)), (2, zi 2)]) (st2 := [zi 1, .inr (35, v), .inr (20, v), zi f1]) rfl ?_
  refine zX.iald (j := 1) ⟨rfl, rfl⟩ ((hF4 35 v (by omega)).trans ((hF3 35 v (by omega)).trans ((hF2 35 v (by omega)).trans ((hF1 35 v (by omega)).trans H_35_v)))) (by omega) (by omega) (by omega) ?_
  show zX _ 43 63 [(5, zi 1), (4, zi (l1 : Int)), (3, zi f1), (0, .inr (20, v)), (1, .inr (8, zeN e)), (2, zi 2)] [zi (jj 1), .inr (20, v), zi f1] c s _ _
  refine zX.call (mid2 := 38) (as := [.inr (20, v), zi (jj 1)]) (rest := [zi f1]) ⟨rfl, rfl⟩ (fun _ => rfl) (zX.inv rfl ((hF4 20 v (by omega)).trans ((hF3 20 v (by omega)).trans ((hF2 20 v (by omega)).trans ((hF1 20 v (by omega)).trans H_20_v)))) rfl rfl) ⟨Nat.le_of_ble_eq_true rfl, Nat.le_of_ble_eq_true rfl⟩ ?_
  show zX _ 38 0 [(0, .inr (20, v)), (1, zi (jj 1))] [] c s _ _
  refine zX.sn 1 (pc2 := 1) (l2 := [(0, .inr (20, v)), (1, zi (jj 1))]) (st2 := [zi (jj 1)]) rfl ?_
  refine zX.icmp0 (tgt := 22) ⟨rfl, rfl⟩ rfl (by omega) (fun (zz : jj 1 < 0) => absurd zz (by omega)) (fun (e7 : 0 ≤ jj 1) => ?_)
  refine zX.sn 1 (pc2 := 5) (l2 := [(0, .inr (20, v)), (1, zi (jj 1))]) (st2 := [zi (jj 1)]) rfl ?_
  refine zX.sn 1 (pc2 := 6) (l2 := [(0, .inr (20, v)), (1, zi (jj 1))]) (st2 := [.inr (20, v), zi (jj 1)]) rfl ?_
  refine zX.getf ⟨rfl, rfl⟩ ((hF4 20 v (by omega)).trans ((hF3 20 v (by omega)).trans ((hF2 20 v (by omega)).trans ((hF1 20 v (by omega)).trans H_20_v)))) rfl rfl ?_
  refine zX.alen ⟨rfl, rfl⟩ ((hF4 34 v (by omega)).trans ((hF3 34 v (by omega)).trans ((hF2 34 v (by omega)).trans ((hF1 34 v (by omega)).trans H_34_v)))) ?_
  show zX _ 38 10 [(0, .inr (20, v)), (1, zi (jj 1))] [zi 8000, zi (jj 1)] c s _ _
  refine zX.icmp (tgt := 22) ⟨rfl, rfl⟩ rfl (by omega) (by omega) (fun (zz : 8000 ≤ jj 1) => absurd zz (by omega)) (fun (e8 : jj 1 < 8000) => ?_)
  refine zX.sn 1 (pc2 := 14) (l2 := [(0, .inr (20, v)), (1, zi (jj 1))]) (st2 := [.inr (20, v)]) rfl ?_
  refine zX.getf ⟨rfl, rfl⟩ ((hF4 20 v (by omega)).trans ((hF3 20 v (by omega)).trans ((hF2 20 v (by omega)).trans ((hF1 20 v (by omega)).trans H_20_v)))) rfl rfl ?_
  refine zX.sn 1 (pc2 := 18) (l2 := [(0, .inr (20, v)), (1, zi (jj 1))]) (st2 := [zi (jj 1), .inr (34, v)]) rfl ?_
  refine zX.iald (j := b) ⟨rfl, rfl⟩ ((hF4 34 v (by omega)).trans ((hF3 34 v (by omega)).trans ((hF2 34 v (by omega)).trans ((hF1 34 v (by omega)).trans H_34_v)))) hjb (by omega) (by omega) ?_
  show zX _ 38 19 [(0, .inr (20, v)), (1, zi (jj 1))] [zi (ff b)] c s _ _
  refine zX.sn 1 (pc2 := 23) (l2 := [(0, .inr (20, v)), (1, zi (jj 1))]) (st2 := [zi (ff b)]) rfl ?_
  refine zX.ret rfl rfl ?_
  show zX _ 43 66 [(5, zi 1), (4, zi (l1 : Int)), (3, zi f1), (0, .inr (20, v)), (1, .inr (8, zeN e)), (2, zi 2)] [zi (ff b), zi f1] c s _ _
  refine zX.mini ⟨rfl, rfl⟩ (by omega) (by omega) (Nat.le_of_ble_eq_true rfl) ?_
  rw [show (if ff b < f1 then ff b else f1) = fst from hmi]
  refine zX.sn 1 (pc2 := 70) (l2 := [(3, zi fst), (5, zi 1), (4, zi (l1 : Int)), (0, .inr (20, v)), (1, .inr (8, zeN e)), (2, zi 2)]) (st2 := []) rfl ?_
  refine zX.sn 1 (pc2 := 72) (l2 := [(3, zi fst), (5, zi 1), (4, zi (l1 : Int)), (0, .inr (20, v)), (1, .inr (8, zeN e)), (2, zi 2)]) (st2 := [zi (l1 : Int)]) rfl ?_
  refine zX.sn 1 (pc2 := 73) (l2 := [(3, zi fst), (5, zi 1), (4, zi (l1 : Int)), (0, .inr (20, v)), (1, .inr (8, zeN e)), (2, zi 2)]) (st2 := [.inr (20, v), zi (l1 : Int)]) rfl ?_
  refine zX.getf ⟨rfl, rfl⟩ ((hF4 20 v (by omega)).trans ((hF3 20 v (by omega)).trans ((hF2 20 v (by omega)).trans ((hF1 20 v (by omega)).trans H_20_v)))) rfl rfl ?_
  refine zX.sn 1 (pc2 := 78) (l2 := [(3, zi fst), (5, zi 1), (4, zi (l1 : Int)), (0, .inr (20, v)), (1, .inr (8, zeN e)), (2, zi 2)]) (st2 := [zi 1, .inr (35, v), zi (l1 : Int)]) rfl ?_
  refine zX.iald (j := 1) ⟨rfl, rfl⟩ ((hF4 35 v (by omega)).trans ((hF3 35 v (by omega)).trans ((hF2 35 v (by omega)).trans ((hF1 35 v (by omega)).trans H_35_v)))) (by omega) (by omega) (by omega) ?_
  show zX _ 43 79 [(3, zi fst), (5, zi 1), (4, zi (l1 : Int)), (0, .inr (20, v)), (1, .inr (8, zeN e)), (2, zi 2)] [zi (jj 1), zi (l1 : Int)] c s _ _
  refine zX.call (mid2 := 37) (as := [zi (jj 1)]) (rest := [zi (l1 : Int)]) ⟨rfl, rfl⟩ (fun _ => rfl) rfl ⟨Nat.le_of_ble_eq_true rfl, Nat.le_of_ble_eq_true rfl⟩ ?_
  show zX _ 37 0 [(0, zi (jj 1))] [] c s _ _
  refine zX.sn 1 (pc2 := 1) (l2 := [(0, zi (jj 1))]) (st2 := [zi (jj 1)]) rfl ?_
  refine zX.sn 1 (pc2 := 3) (l2 := [(0, zi (jj 1))]) (st2 := [zi 8, zi (jj 1)]) rfl ?_
  refine zX.idiv ⟨rfl, rfl⟩ (by omega) (by omega) ?_
  refine zX.ret rfl rfl ?_
  show zX _ 43 82 [(3, zi fst), (5, zi 1), (4, zi (l1 : Int)), (0, .inr (20, v)), (1, .inr (8, zeN e)), (2, zi 2)] [zi (jj 1 / 8), zi (l1 : Int)] c s _ _
  refine zX.maxi ⟨rfl, rfl⟩ (by omega) (by omega) (Nat.le_of_ble_eq_true rfl) ?_
  rw [show (if (l1 : Int) < (jj 1 / 8) then (jj 1 / 8) else (l1 : Int)) = (la : Int) from hma]
  refine zX.sn 1 (pc2 := 87) (l2 := [(4, zi (la : Int)), (3, zi fst), (5, zi 1), (0, .inr (20, v)), (1, .inr (8, zeN e)), (2, zi 2)]) (st2 := []) rfl ?_
  refine zX.sn 1 (pc2 := 88) (l2 := [(4, zi (la : Int)), (3, zi fst), (5, zi 1), (0, .inr (20, v)), (1, .inr (8, zeN e)), (2, zi 2)]) (st2 := [.inr (20, v)]) rfl ?_
  refine zX.getf ⟨rfl, rfl⟩ ((hF4 20 v (by omega)).trans ((hF3 20 v (by omega)).trans ((hF2 20 v (by omega)).trans ((hF1 20 v (by omega)).trans H_20_v)))) rfl rfl ?_
  refine zX.sn 1 (pc2 := 94) (l2 := [(4, zi (la : Int)), (3, zi fst), (5, zi 1), (0, .inr (20, v)), (1, .inr (8, zeN e)), (2, zi 2)]) (st2 := [zi 8000, .inr (26, v)]) rfl ?_
  refine zX.sn 1 (pc2 := 95) (l2 := [(4, zi (la : Int)), (3, zi fst), (5, zi 1), (0, .inr (20, v)), (1, .inr (8, zeN e)), (2, zi 2)]) (st2 := [.inr (20, v), zi 8000, .inr (26, v)]) rfl ?_
  refine zX.getf ⟨rfl, rfl⟩ ((hF4 20 v (by omega)).trans ((hF3 20 v (by omega)).trans ((hF2 20 v (by omega)).trans ((hF1 20 v (by omega)).trans H_20_v)))) rfl rfl ?_
  refine zX.sn 1 (pc2 := 100) (l2 := [(4, zi (la : Int)), (3, zi fst), (5, zi 1), (0, .inr (20, v)), (1, .inr (8, zeN e)), (2, zi 2)]) (st2 := [zi 1, .inr (35, v), zi 8000, .inr (26, v)]) rfl ?_
  refine zX.iald (j := 1) ⟨rfl, rfl⟩ ((hF4 35 v (by omega)).trans ((hF3 35 v (by omega)).trans ((hF2 35 v (by omega)).trans ((hF1 35 v (by omega)).trans H_35_v)))) (by omega) (by omega) (by omega) ?_
  show zX _ 43 101 [(4, zi (la : Int)), (3, zi fst), (5, zi 1), (0, .inr (20, v)), (1, .inr (8, zeN e)), (2, zi 2)] [zi (jj 1), zi 8000, .inr (26, v)] c s _ _
  refine zX.call (mid2 := 55) (as := [.inr (26, v), zi 8000, zi (jj 1)]) (rest := []) ⟨rfl, rfl⟩ (fun _ => rfl) (zX.inv rfl (hv4.1) rfl rfl) ⟨Nat.le_of_ble_eq_true rfl, Nat.le_of_ble_eq_true rfl⟩ ?_
  refine s_tall2 (k := 8000) (j := b) (by omega) hjb (by omega) (by omega) (by omega) (by omega) hv4  (fun h5 gg5 hv5 hF5 => ?_)
  show zX _ 43 104 [(4, zi (la : Int)), (3, zi fst), (5, zi 1), (0, .inr (20, v)), (1, .inr (8, zeN e)), (2, zi 2)] [] c s _ _
  refine zX.sn 1 (pc2 := 105) (l2 := [(4, zi (la : Int)), (3, zi fst), (5, zi 1), (0, .inr (20, v)), (1, .inr (8, zeN e)), (2, zi 2)]) (st2 := [.inr (20, v)]) rfl ?_
  refine zX.getf ⟨rfl, rfl⟩ ((hF5 20 v (by omega)).trans ((hF4 20 v (by omega)).trans ((hF3 20 v (by omega)).trans ((hF2 20 v (by omega)).trans ((hF1 20 v (by omega)).trans H_20_v))))) rfl rfl ?_
  refine zX.sn 1 (pc2 := 109) (l2 := [(4, zi (la : Int)), (3, zi fst), (5, zi 1), (0, .inr (20, v)), (1, .inr (8, zeN e)), (2, zi 2)]) (st2 := [.inr (20, v), .inr (26, v)]) rfl ?_
  refine zX.getf ⟨rfl, rfl⟩ ((hF5 20 v (by omega)).trans ((hF4 20 v (by omega)).trans ((hF3 20 v (by omega)).trans ((hF2 20 v (by omega)).trans ((hF1 20 v (by omega)).trans H_20_v))))) rfl rfl ?_
  refine zX.sn 1 (pc2 := 114) (l2 := [(4, zi (la : Int)), (3, zi fst), (5, zi 1), (0, .inr (20, v)), (1, .inr (8, zeN e)), (2, zi 2)]) (st2 := [zi 1, .inr (35, v), .inr (26, v)]) rfl ?_
  refine zX.iald (j := 1) ⟨rfl, rfl⟩ ((hF5 35 v (by omega)).trans ((hF4 35 v (by omega)).trans ((hF3 35 v (by omega)).trans ((hF2 35 v (by omega)).trans ((hF1 35 v (by omega)).trans H_35_v))))) (by omega) (by omega) (by omega) ?_
  show zX _ 43 115 [(4, zi (la : Int)), (3, zi fst), (5, zi 1), (0, .inr (20, v)), (1, .inr (8, zeN e)), (2, zi 2)] [zi (jj 1), .inr (26, v)] c s _ _
  refine zX.call (mid2 := 56) (as := [.inr (26, v), zi (jj 1)]) (rest := []) ⟨rfl, rfl⟩ (fun _ => rfl) (zX.inv rfl (hv5.1) rfl rfl) ⟨Nat.le_of_ble_eq_true rfl, Nat.le_of_ble_eq_true rfl⟩ ?_
  refine s_tclr (k := b) hjb (by omega) (by omega) (by omega) hv5 (fun h6 hv6 hF6 => ?_)
  show zX _ 43 118 [(4, zi (la : Int)), (3, zi fst), (5, zi 1), (0, .inr (20, v)), (1, .inr (8, zeN e)), (2, zi 2)] [] c s _ _
  refine zX.s1 (pc2 := 121) (l2 := [(5, zi 2), (4, zi (la : Int)), (3, zi fst), (0, .inr (20, v)), (1, .inr (8, zeN e)), (2, zi 2)]) (st2 := []) ⟨rfl, rfl⟩ rfl ?_
  refine zX.sn 1 (pc2 := 38) (l2 := [(5, zi 2), (4, zi (la : Int)), (3, zi fst), (0, .inr (20, v)), (1, .inr (8, zeN e)), (2, zi 2)]) (st2 := []) rfl ?_
  refine zX.sn 1 (pc2 := 40) (l2 := [(5, zi 2), (4, zi (la : Int)), (3, zi fst), (0, .inr (20, v)), (1, .inr (8, zeN e)), (2, zi 2)]) (st2 := [zi 2]) rfl ?_
  refine zX.sn 1 (pc2 := 41) (l2 := [(5, zi 2), (4, zi (la : Int)), (3, zi fst), (0, .inr (20, v)), (1, .inr (8, zeN e)), (2, zi 2)]) (st2 := [zi 2, zi 2]) rfl ?_
  refine zX.icmp (tgt := 124) ⟨rfl, rfl⟩ rfl (by omega) (by omega) (fun (e9 : 2 ≤ 2) => ?_) (fun (zz : 2 < 2) => absurd zz (by omega))
  refine zX.sn 1 (pc2 := 126) (l2 := [(5, zi 2), (4, zi (la : Int)), (3, zi fst), (0, .inr (20, v)), (1, .inr (8, zeN e)), (2, zi 2)]) (st2 := [zi (la : Int)]) rfl ?_
  refine zX.sn 1 (pc2 := 127) (l2 := [(5, zi 2), (4, zi (la : Int)), (3, zi fst), (0, .inr (20, v)), (1, .inr (8, zeN e)), (2, zi 2)]) (st2 := [.inr (8, zeN e), zi (la : Int)]) rfl ?_
  refine zX.getf ⟨rfl, rfl⟩ ((hF6 8 (zeN e) (by omega)).trans ((hF5 8 (zeN e) (by omega)).trans ((hF4 8 (zeN e) (by omega)).trans ((hF3 8 (zeN e) (by omega)).trans ((hF2 8 (zeN e) (by omega)).trans ((hF1 8 (zeN e) (by omega)).trans H_8_zeN_e)))))) rfl rfl ?_
  refine zX.call (mid2 := 36) (as := [zi (la : Int), zi (zeK e : Int)]) (rest := []) ⟨rfl, rfl⟩ (fun _ => rfl) rfl ⟨Nat.le_of_ble_eq_true rfl, Nat.le_of_ble_eq_true rfl⟩ ?_
  show zX _ 36 0 [(0, zi (la : Int)), (1, zi (zeK e : Int))] [] c s _ _
  refine zX.sn 1 (pc2 := 1) (l2 := [(0, zi (la : Int)), (1, zi (zeK e : Int))]) (st2 := [zi (la : Int)]) rfl ?_
  refine zX.sn 1 (pc2 := 3) (l2 := [(0, zi (la : Int)), (1, zi (zeK e : Int))]) (st2 := [zi 8, zi (la : Int)]) rfl ?_
  refine zX.imul ⟨rfl, rfl⟩ ?_
  refine zX.sn 1 (pc2 := 5) (l2 := [(0, zi (la : Int)), (1, zi (zeK e : Int))]) (st2 := [zi (zeK e : Int), zi ((la : Int) * 8)]) rfl ?_
  refine zX.iadd ⟨rfl, rfl⟩ ?_
  refine zX.ret rfl rfl ?_
  show zX _ 43 133 [(5, zi 2), (4, zi (la : Int)), (3, zi fst), (0, .inr (20, v)), (1, .inr (8, zeN e)), (2, zi 2)] [zi (((la : Int) * 8) + (zeK e : Int))] c s _ _
  refine zX.sn 1 (pc2 := 135) (l2 := [(5, zi (((la : Int) * 8) + (zeK e : Int))), (4, zi (la : Int)), (3, zi fst), (0, .inr (20, v)), (1, .inr (8, zeN e)), (2, zi 2)]) (st2 := []) rfl ?_
  refine zX.sn 1 (pc2 := 136) (l2 := [(5, zi (((la : Int) * 8) + (zeK e : Int))), (4, zi (la : Int)), (3, zi fst), (0, .inr (20, v)), (1, .inr (8, zeN e)), (2, zi 2)]) (st2 := [.inr (20, v)]) rfl ?_
  refine zX.getf ⟨rfl, rfl⟩ ((hF6 20 v (by omega)).trans ((hF5 20 v (by omega)).trans ((hF4 20 v (by omega)).trans ((hF3 20 v (by omega)).trans ((hF2 20 v (by omega)).trans ((hF1 20 v (by omega)).trans H_20_v)))))) rfl rfl ?_
  refine zX.sn 1 (pc2 := 141) (l2 := [(5, zi (((la : Int) * 8) + (zeK e : Int))), (4, zi (la : Int)), (3, zi fst), (0, .inr (20, v)), (1, .inr (8, zeN e)), (2, zi 2)]) (st2 := [zi (((la : Int) * 8) + (zeK e : Int)), .inr (26, v)]) rfl ?_
  refine zX.sn 1 (pc2 := 144) (l2 := [(5, zi (((la : Int) * 8) + (zeK e : Int))), (4, zi (la : Int)), (3, zi fst), (0, .inr (20, v)), (1, .inr (8, zeN e)), (2, zi 2)]) (st2 := [zi 8000, zi (((la : Int) * 8) + (zeK e : Int)), .inr (26, v)]) rfl ?_
  refine zX.call (mid2 := 55) (as := [.inr (26, v), zi (((la : Int) * 8) + (zeK e : Int)), zi 8000]) (rest := []) ⟨rfl, rfl⟩ (fun _ => rfl) (zX.inv rfl (hv6.1) rfl rfl) ⟨Nat.le_of_ble_eq_true rfl, Nat.le_of_ble_eq_true rfl⟩ ?_
  refine s_tall2 (k := ((la * 8) + zeK e)) (j := 8000) (by omega) (by omega) (by omega) (by omega) (by omega) (by omega) hv6  (fun h7 gg7 hv7 hF7 => ?_)
  show zX _ 43 147 [(5, zi (((la : Int) * 8) + (zeK e : Int))), (4, zi (la : Int)), (3, zi fst), (0, .inr (20, v)), (1, .inr (8, zeN e)), (2, zi 2)] [] c s _ _
  refine zX.sn 1 (pc2 := 149) (l2 := [(5, zi (((la : Int) * 8) + (zeK e : Int))), (4, zi (la : Int)), (3, zi fst), (0, .inr (20, v)), (1, .inr (8, zeN e)), (2, zi 2)]) (st2 := [zi (((la : Int) * 8) + (zeK e : Int))]) rfl ?_
  refine zX.icmp0 (tgt := 170) ⟨rfl, rfl⟩ rfl (by omega) (fun (zz : (((la : Int) * 8) + (zeK e : Int)) < 0) => absurd zz (by omega)) (fun (e10 : 0 ≤ (((la : Int) * 8) + (zeK e : Int))) => ?_)
  refine zX.sn 1 (pc2 := 154) (l2 := [(5, zi (((la : Int) * 8) + (zeK e : Int))), (4, zi (la : Int)), (3, zi fst), (0, .inr (20, v)), (1, .inr (8, zeN e)), (2, zi 2)]) (st2 := [zi (((la : Int) * 8) + (zeK e : Int))]) rfl ?_
  refine zX.sn 1 (pc2 := 155) (l2 := [(5, zi (((la : Int) * 8) + (zeK e : Int))), (4, zi (la : Int)), (3, zi fst), (0, .inr (20, v)), (1, .inr (8, zeN e)), (2, zi 2)]) (st2 := [.inr (20, v), zi (((la : Int) * 8) + (zeK e : Int))]) rfl ?_
  refine zX.getf ⟨rfl, rfl⟩ ((hF7 20 v (by omega)).trans ((hF6 20 v (by omega)).trans ((hF5 20 v (by omega)).trans ((hF4 20 v (by omega)).trans ((hF3 20 v (by omega)).trans ((hF2 20 v (by omega)).trans ((hF1 20 v (by omega)).trans H_20_v))))))) rfl rfl ?_
  refine zX.alen ⟨rfl, rfl⟩ ((hF7 34 v (by omega)).trans ((hF6 34 v (by omega)).trans ((hF5 34 v (by omega)).trans ((hF4 34 v (by omega)).trans ((hF3 34 v (by omega)).trans ((hF2 34 v (by omega)).trans ((hF1 34 v (by omega)).trans H_34_v))))))) ?_
  show zX _ 43 159 [(5, zi (((la : Int) * 8) + (zeK e : Int))), (4, zi (la : Int)), (3, zi fst), (0, .inr (20, v)), (1, .inr (8, zeN e)), (2, zi 2)] [zi 8000, zi (((la : Int) * 8) + (zeK e : Int))] c s _ _
  refine zX.icmp (tgt := 170) ⟨rfl, rfl⟩ rfl (by omega) (by omega) (fun (zz : 8000 ≤ (((la : Int) * 8) + (zeK e : Int))) => absurd zz (by omega)) (fun (e11 : (((la : Int) * 8) + (zeK e : Int)) < 8000) => ?_)
  refine zX.sn 1 (pc2 := 163) (l2 := [(5, zi (((la : Int) * 8) + (zeK e : Int))), (4, zi (la : Int)), (3, zi fst), (0, .inr (20, v)), (1, .inr (8, zeN e)), (2, zi 2)]) (st2 := [.inr (20, v)]) rfl ?_
  refine zX.getf ⟨rfl, rfl⟩ ((hF7 20 v (by omega)).trans ((hF6 20 v (by omega)).trans ((hF5 20 v (by omega)).trans ((hF4 20 v (by omega)).trans ((hF3 20 v (by omega)).trans ((hF2 20 v (by omega)).trans ((hF1 20 v (by omega)).trans H_20_v))))))) rfl rfl ?_
  refine zX.sn 1 (pc2 := 168) (l2 := [(5, zi (((la : Int) * 8) + (zeK e : Int))), (4, zi (la : Int)), (3, zi fst), (0, .inr (20, v)), (1, .inr (8, zeN e)), (2, zi 2)]) (st2 := [zi (((la : Int) * 8) + (zeK e : Int)), .inr (34, v)]) rfl ?_
  refine zX.sn 1 (pc2 := 169) (l2 := [(5, zi (((la : Int) * 8) + (zeK e : Int))), (4, zi (la : Int)), (3, zi fst), (0, .inr (20, v)), (1, .inr (8, zeN e)), (2, zi 2)]) (st2 := [zi fst, zi (((la : Int) * 8) + (zeK e : Int)), .inr (34, v)]) rfl ?_
  refine zX.Aast (j := ((la * 8) + zeK e)) ⟨rfl, rfl⟩ ((hF7 34 v (by omega)).trans ((hF6 34 v (by omega)).trans ((hF5 34 v (by omega)).trans ((hF4 34 v (by omega)).trans ((hF3 34 v (by omega)).trans ((hF2 34 v (by omega)).trans ((hF1 34 v (by omega)).trans H_34_v))))))) (by omega) (by omega) (by omega) (by omega) ?_
  show zX _ 43 170 [(5, zi (((la : Int) * 8) + (zeK e : Int))), (4, zi (la : Int)), (3, zi fst), (0, .inr (20, v)), (1, .inr (8, zeN e)), (2, zi 2)] [] c s (xup h7 (34, v) (.inr (0, 8000, zA (zfi ff ((la * 8) + zeK e) fst)))) _
  refine zX.sn 1 (pc2 := 172) (l2 := [(5, zi (((la : Int) * 8) + (zeK e : Int))), (4, zi (la : Int)), (3, zi fst), (0, .inr (20, v)), (1, .inr (8, zeN e)), (2, zi 2)]) (st2 := [zi (((la : Int) * 8) + (zeK e : Int))]) rfl ?_
  refine zX.ret rfl rfl ?_
  exact k1 gg3 gg5 gg7 _ zup_s (zTal.fr hv7 (fun za zb hi => (zup_n (zn (by omega)) rfl))) (fun za zb hn => (zup_n (zn (by omega)) ((hF7 za zb (by omega)).trans ((hF6 za zb (by omega)).trans ((hF5 za zb (by omega)).trans ((hF4 za zb (by omega)).trans ((hF3 za zb (by omega)).trans ((hF2 za zb (by omega)).trans ((hF1 za zb (by omega)).trans rfl)))))))))

set_option maxHeartbeats 4000000 in
theorem r_stj0 {d c s : Nat} {h : xH} {Q : xR → Nat → Nat → xH → Prop} {v sz gr : Nat} {fi me : Int} {dr : Int32} {e : zE} {fn fs fg : Nat → Int32} {ff : Nat → Int} {jj : Nat → Int} {k N : Nat} {fa : Nat → Int64} {out : List Int64} (hvr : zVr v fi sz gr) (hv : v < 5) (hsz : 1 ≤ sz ∧ sz ≤ 200) (hgr : gr ≤ 200) (hme : me = 99 ∨ me = 115 ∨ me = 109) (hEe : zEr e) (hkye : zeK e < 8) (htme : zeT e < 1000) (hvae : -99 ≤ zeV e ∧ zeV e ≤ 99) (hahe : -1 ≤ zeA e ∧ zeA e < 1000) (hode : zeO e < 240) (hire : 0 ≤ zbi (zeR e) ∧ zbi (zeR e) ≤ 1) (hile : 0 ≤ zbi (zeL e) ∧ zbi (zeL e) ≤ 1) (hff : ∀ j, 0 ≤ ff j ∧ ff j ≤ 1000) (hk : k < 8000) (ho : out.length + 8 < 200000) (hfk : 0 ≤ ff k ∧ ff k ≤ 1000) (H_20_v : h (20, v) = some (.inl (6, [zi (v : Int), zi (zbi false), zi fi, zi (sz : Int), zi (gr : Int), .inr (2, 0), .inr (21, v), .inr (23, v), .inr (25, v), .inl (.int dr), zi me, .inr (26, v), .inr (30, v), .inr (34, v), .inr (35, v)]))) (H_8_zeN_e : h (8, zeN e) = some (.inl (1, [zi (zeP e : Int), zi (zbi (zeR e)), zi (zbi (zeL e)), zi (zeK e : Int), zi (zeT e : Int), zi (zeV e), zi (zeO e : Int), zi (zeA e), zi (zeB e)]))) (H_34_v : h (34, v) = some (.inr (0, 8000, zA ff))) (H_35_v : h (35, v) = some (.inr (0, 2, zA jj))) (P_rows : zTal h 26 v 8001 fn fs fg) (P_told : zRes h 21 v 8000 fa) (P_out : zOut h N out)
    (k1 : (zeA e ≤ (((k : Int) / 8) + (sz : Int))) → Q (.inl none) c s h)
    (k2 : ((((k : Int) / 8) + (sz : Int)) < zeA e) → ∀ N2 : Nat, ∀ c2 : Nat, ∀ s2 : Nat, (zCo N c s N2 c2 s2) → ∀ h' : xH, zRes h' 21 v 8000 (zfi fa k (zsRes v me fn fs ff k)) → zOut h' N2 (out ++ [(zsRes v me fn fs ff k)]) → (∀ za zb : Nat, ¬ ((21 ≤ za ∧ za < 21 + 2 ∧ zb = v) ∨ (2 ≤ za ∧ za < 4)) → h' (za, zb) = h (za, zb)) → Q (.inl none) c2 s2 h') :
    zX (d + 3) 44 0 [(0, .inr (20, v)), (1, .inr (8, zeN e)), (2, zi 0), (3, zi (k : Int))] [] c s h Q := by
  refine zX.sn 1 (pc2 := 1) (l2 := [(0, .inr (20, v)), (1, .inr (8, zeN e)), (2, zi 0), (3, zi (k : Int))]) (st2 := [.inr (8, zeN e)]) rfl ?_
  refine zX.getf ⟨rfl, rfl⟩ H_8_zeN_e rfl rfl ?_
  refine zX.sn 1 (pc2 := 5) (l2 := [(0, .inr (20, v)), (1, .inr (8, zeN e)), (2, zi 0), (3, zi (k : Int))]) (st2 := [zi (k : Int), zi (zeA e)]) rfl ?_
  refine zX.call (mid2 := 37) (as := [zi (k : Int)]) (rest := [zi (zeA e)]) ⟨rfl, rfl⟩ (fun _ => rfl) rfl ⟨Nat.le_of_ble_eq_true rfl, Nat.le_of_ble_eq_true rfl⟩ ?_
  show zX _ 37 0 [(0, zi (k : Int))] [] c s _ _
  refine zX.sn 1 (pc2 := 1) (l2 := [(0, zi (k : Int))]) (st2 := [zi (k : Int)]) rfl ?_
  refine zX.sn 1 (pc2 := 3) (l2 := [(0, zi (k : Int))]) (st2 := [zi 8, zi (k : Int)]) rfl ?_
  refine zX.idiv ⟨rfl, rfl⟩ (by omega) (by omega) ?_
  refine zX.ret rfl rfl ?_
  show zX _ 44 8 [(0, .inr (20, v)), (1, .inr (8, zeN e)), (2, zi 0), (3, zi (k : Int))] [zi ((k : Int) / 8), zi (zeA e)] c s _ _
  refine zX.sn 1 (pc2 := 9) (l2 := [(0, .inr (20, v)), (1, .inr (8, zeN e)), (2, zi 0), (3, zi (k : Int))]) (st2 := [.inr (20, v), zi ((k : Int) / 8), zi (zeA e)]) rfl ?_
  refine zX.getf ⟨rfl, rfl⟩ H_20_v rfl rfl ?_
  refine zX.iadd ⟨rfl, rfl⟩ ?_
  refine zX.icmp (tgt := 20) ⟨rfl, rfl⟩ rfl (by omega) (by omega) (fun (e1 : zeA e ≤ (((k : Int) / 8) + (sz : Int))) => ?_) (fun (e1 : (((k : Int) / 8) + (sz : Int)) < zeA e) => ?_)
  · refine zX.sn 1 (pc2 := 21) (l2 := [(0, .inr (20, v)), (1, .inr (8, zeN e)), (2, zi 0), (3, zi (k : Int))]) (st2 := [zi 0]) rfl ?_
    refine zX.sn 1 (pc2 := 23) (l2 := [(4, zi 0), (0, .inr (20, v)), (1, .inr (8, zeN e)), (2, zi 0), (3, zi (k : Int))]) (st2 := []) rfl ?_
    refine zX.sn 1 (pc2 := 24) (l2 := [(4, zi 0), (0, .inr (20, v)), (1, .inr (8, zeN e)), (2, zi 0), (3, zi (k : Int))]) (st2 := [zi 0]) rfl ?_
    refine zX.sn 1 (pc2 := 25) (l2 := [(4, zi 0), (0, .inr (20, v)), (1, .inr (8, zeN e)), (2, zi 0), (3, zi (k : Int))]) (st2 := [zi 1, zi 0]) rfl ?_
    refine zX.icmp (tgt := 68) ⟨rfl, rfl⟩ rfl (by omega) (by omega) (fun (e2 : ¬ 0 = 1) => ?_) (fun (zz : 0 = 1) => absurd zz (by omega))
    refine zX.sn 1 (pc2 := 69) (l2 := [(4, zi 0), (0, .inr (20, v)), (1, .inr (8, zeN e)), (2, zi 0), (3, zi (k : Int))]) (st2 := [zi 0]) rfl ?_
    refine zX.sn 1 (pc2 := 71) (l2 := [(5, zi 0), (4, zi 0), (0, .inr (20, v)), (1, .inr (8, zeN e)), (2, zi 0), (3, zi (k : Int))]) (st2 := []) rfl ?_
    refine zX.sn 1 (pc2 := 73) (l2 := [(5, zi 0), (4, zi 0), (0, .inr (20, v)), (1, .inr (8, zeN e)), (2, zi 0), (3, zi (k : Int))]) (st2 := [zi 0]) rfl ?_
    refine zX.sn 1 (pc2 := 74) (l2 := [(5, zi 0), (4, zi 0), (0, .inr (20, v)), (1, .inr (8, zeN e)), (2, zi 0), (3, zi (k : Int))]) (st2 := [zi 0, zi 0]) rfl ?_
    refine zX.icmp (tgt := 104) ⟨rfl, rfl⟩ rfl (by omega) (by omega) (fun (e3 : 0 ≤ 0) => ?_) (fun (zz : 0 < 0) => absurd zz (by omega))
    refine zX.sn 1 (pc2 := 106) (l2 := [(5, zi 0), (4, zi 0), (0, .inr (20, v)), (1, .inr (8, zeN e)), (2, zi 0), (3, zi (k : Int))]) (st2 := [zi 0]) rfl ?_
    refine zX.icmp0 (tgt := 119) ⟨rfl, rfl⟩ rfl (by omega) (fun (e4 : 0 = 0) => ?_) (fun (zz : ¬ 0 = 0) => absurd zz (by omega))
    refine zX.ret rfl rfl ?_
    exact k1 e1
  · refine zX.sn 1 (pc2 := 17) (l2 := [(0, .inr (20, v)), (1, .inr (8, zeN e)), (2, zi 0), (3, zi (k : Int))]) (st2 := [zi 1]) rfl ?_
    refine zX.sn 1 (pc2 := 21) (l2 := [(0, .inr (20, v)), (1, .inr (8, zeN e)), (2, zi 0), (3, zi (k : Int))]) (st2 := [zi 1]) rfl ?_
    refine zX.sn 1 (pc2 := 23) (l2 := [(4, zi 1), (0, .inr (20, v)), (1, .inr (8, zeN e)), (2, zi 0), (3, zi (k : Int))]) (st2 := []) rfl ?_
    refine zX.sn 1 (pc2 := 24) (l2 := [(4, zi 1), (0, .inr (20, v)), (1, .inr (8, zeN e)), (2, zi 0), (3, zi (k : Int))]) (st2 := [zi 0]) rfl ?_
    refine zX.sn 1 (pc2 := 25) (l2 := [(4, zi 1), (0, .inr (20, v)), (1, .inr (8, zeN e)), (2, zi 0), (3, zi (k : Int))]) (st2 := [zi 1, zi 0]) rfl ?_
    refine zX.icmp (tgt := 68) ⟨rfl, rfl⟩ rfl (by omega) (by omega) (fun (e5 : ¬ 0 = 1) => ?_) (fun (zz : 0 = 1) => absurd zz (by omega))
    refine zX.sn 1 (pc2 := 69) (l2 := [(4, zi 1), (0, .inr (20, v)), (1, .inr (8, zeN e)), (2, zi 0), (3, zi (k : Int))]) (st2 := [zi 0]) rfl ?_
    refine zX.sn 1 (pc2 := 71) (l2 := [(5, zi 0), (4, zi 1), (0, .inr (20, v)), (1, .inr (8, zeN e)), (2, zi 0), (3, zi (k : Int))]) (st2 := []) rfl ?_
    refine zX.sn 1 (pc2 := 73) (l2 := [(5, zi 0), (4, zi 1), (0, .inr (20, v)), (1, .inr (8, zeN e)), (2, zi 0), (3, zi (k : Int))]) (st2 := [zi 0]) rfl ?_
    refine zX.sn 1 (pc2 := 74) (l2 := [(5, zi 0), (4, zi 1), (0, .inr (20, v)), (1, .inr (8, zeN e)), (2, zi 0), (3, zi (k : Int))]) (st2 := [zi 0, zi 0]) rfl ?_
    refine zX.icmp (tgt := 104) ⟨rfl, rfl⟩ rfl (by omega) (by omega) (fun (e6 : 0 ≤ 0) => ?_) (fun (zz : 0 < 0) => absurd zz (by omega))
    refine zX.sn 1 (pc2 := 106) (l2 := [(5, zi 0), (4, zi 1), (0, .inr (20, v)), (1, .inr (8, zeN e)), (2, zi 0), (3, zi (k : Int))]) (st2 := [zi 1]) rfl ?_
    refine zX.icmp0 (tgt := 119) ⟨rfl, rfl⟩ rfl (by omega) (fun (zz : 1 = 0) => absurd zz (by omega)) (fun (e7 : ¬ 1 = 0) => ?_)
    refine zX.sn 1 (pc2 := 110) (l2 := [(5, zi 0), (4, zi 1), (0, .inr (20, v)), (1, .inr (8, zeN e)), (2, zi 0), (3, zi (k : Int))]) (st2 := [.inr (20, v)]) rfl ?_
    refine zX.sn 1 (pc2 := 111) (l2 := [(5, zi 0), (4, zi 1), (0, .inr (20, v)), (1, .inr (8, zeN e)), (2, zi 0), (3, zi (k : Int))]) (st2 := [zi (k : Int), .inr (20, v)]) rfl ?_
    refine zX.sn 1 (pc2 := 112) (l2 := [(5, zi 0), (4, zi 1), (0, .inr (20, v)), (1, .inr (8, zeN e)), (2, zi 0), (3, zi (k : Int))]) (st2 := [.inr (20, v), zi (k : Int), .inr (20, v)]) rfl ?_
    refine zX.sn 1 (pc2 := 113) (l2 := [(5, zi 0), (4, zi 1), (0, .inr (20, v)), (1, .inr (8, zeN e)), (2, zi 0), (3, zi (k : Int))]) (st2 := [zi (k : Int), .inr (20, v), zi (k : Int), .inr (20, v)]) rfl ?_
    refine zX.call (mid2 := 40) (as := [.inr (20, v), zi (k : Int)]) (rest := [zi (k : Int), .inr (20, v)]) ⟨rfl, rfl⟩ (fun _ => rfl) (zX.inv rfl H_20_v rfl rfl) ⟨Nat.le_of_ble_eq_true rfl, Nat.le_of_ble_eq_true rfl⟩ ?_
    refine s_sres (k := k) rfl (by omega) hvr hme hff (show zVo _ 6 v false fi sz gr _ [zi me, .inr (26, v), .inr (30, v), .inr (34, v), .inr (35, v)] from H_20_v) H_34_v P_rows ?_
    show zX _ 44 116 [(5, zi 0), (4, zi 1), (0, .inr (20, v)), (1, .inr (8, zeN e)), (2, zi 0), (3, zi (k : Int))] [.inl (.long (zsRes v me fn fs ff k)), zi (k : Int), .inr (20, v)] c s _ _
    refine zX.call (mid2 := 78) (as := [.inr (20, v), zi (k : Int), .inl (.long (zsRes v me fn fs ff k))]) (rest := []) ⟨rfl, rfl⟩ (fun _ => rfl) (zX.inv rfl H_20_v rfl rfl) ⟨Nat.le_of_ble_eq_true rfl, Nat.le_of_ble_eq_true rfl⟩ ?_
    refine s_tell2 (ci := 6) (k := k) rfl (by omega) zsRes_nz hvr (by omega) (by omega) (by omega) (show zVo _ 6 v false fi sz gr _ _ from H_20_v) P_told P_out  (fun h2 N2 c2 s2 hv2 ho2 hF2 hb2 => ?_)
    show zX _ 44 119 [(5, zi 0), (4, zi 1), (0, .inr (20, v)), (1, .inr (8, zeN e)), (2, zi 0), (3, zi (k : Int))] [] c2 s2 _ _
    refine zX.ret rfl rfl ?_
    exact k2 e1 N2 c2 s2 hb2 _ hv2 ho2 (fun za zb hn => ((hF2 za zb (by omega)).trans rfl))

set_option maxHeartbeats 4000000 in
theorem r_stj1 {d c s : Nat} {h : xH} {Q : xR → Nat → Nat → xH → Prop} {v sz gr : Nat} {fi me : Int} {dr : Int32} {e : zE} {fn fs fg : Nat → Int32} {ff : Nat → Int} {jj : Nat → Int} {k N : Nat} {fa : Nat → Int64} {out : List Int64} {a : Nat} (hvr : zVr v fi sz gr) (hv : v < 5) (hsz : 1 ≤ sz ∧ sz ≤ 200) (hgr : gr ≤ 200) (hme : me = 99 ∨ me = 115 ∨ me = 109) (hEe : zEr e) (hkye : zeK e < 8) (htme : zeT e < 1000) (hvae : -99 ≤ zeV e ∧ zeV e ≤ 99) (hahe : -1 ≤ zeA e ∧ zeA e < 1000) (hode : zeO e < 240) (hire : 0 ≤ zbi (zeR e) ∧ zbi (zeR e) ≤ 1) (hile : 0 ≤ zbi (zeL e) ∧ zbi (zeL e) ≤ 1) (hff : ∀ j, 0 ≤ ff j ∧ ff j ≤ 1000) (hja : jj 0 = (a : Int)) (hal : a < 8000) (hfa : 0 ≤ ff a ∧ ff a ≤ 1000) (hk : k < 8000) (ho : out.length + 8 < 200000) (hfk : 0 ≤ ff k ∧ ff k ≤ 1000) (H_20_v : h (20, v) = some (.inl (6, [zi (v : Int), zi (zbi false), zi fi, zi (sz : Int), zi (gr : Int), .inr (2, 0), .inr (21, v), .inr (23, v), .inr (25, v), .inl (.int dr), zi me, .inr (26, v), .inr (30, v), .inr (34, v), .inr (35, v)]))) (H_8_zeN_e : h (8, zeN e) = some (.inl (1, [zi (zeP e : Int), zi (zbi (zeR e)), zi (zbi (zeL e)), zi (zeK e : Int), zi (zeT e : Int), zi (zeV e), zi (zeO e : Int), zi (zeA e), zi (zeB e)]))) (H_34_v : h (34, v) = some (.inr (0, 8000, zA ff))) (H_35_v : h (35, v) = some (.inr (0, 2, zA jj))) (P_rows : zTal h 26 v 8001 fn fs fg) (P_told : zRes h 21 v 8000 fa) (P_out : zOut h N out)
    (k1 : (zeA e ≤ (((k : Int) / 8) + (sz : Int))) → ∀ N1 : Nat, ∀ c1 : Nat, ∀ s1 : Nat, (zCo N c s N1 c1 s1) → ∀ h' : xH, zRes h' 21 v 8000 (zbkF fa a) → zOut h' N1 (out ++ zbkL fa a) → (∀ za zb : Nat, ¬ ((21 ≤ za ∧ za < 21 + 2 ∧ zb = v) ∨ (2 ≤ za ∧ za < 4)) → h' (za, zb) = h (za, zb)) → Q (.inl none) c1 s1 h')
    (k2 : ((((k : Int) / 8) + (sz : Int)) < zeA e) → ((fa a) = 0) → ∀ N3 : Nat, ∀ c3 : Nat, ∀ s3 : Nat, (zCo N c s N3 c3 s3) → ∀ N5 : Nat, ∀ c5 : Nat, ∀ s5 : Nat, (zCo N3 c3 s3 N5 c5 s5) → ∀ h' : xH, zRes h' 21 v 8000 (zfi (zbkF fa a) k (zsRes v me fn fs ff k)) → zOut h' N5 ((out ++ zbkL fa a) ++ [(zsRes v me fn fs ff k)]) → (∀ za zb : Nat, ¬ ((21 ≤ za ∧ za < 21 + 2 ∧ zb = v) ∨ (2 ≤ za ∧ za < 4)) → h' (za, zb) = h (za, zb)) → Q (.inl none) c5 s5 h')
    (k3 : ((((k : Int) / 8) + (sz : Int)) < zeA e) → (¬ (fa a) = 0) → ∀ N7 : Nat, ∀ c7 : Nat, ∀ s7 : Nat, (zCo N c s N7 c7 s7) → ∀ h' : xH, zRes h' 21 v 8000 (zanF fa a k (zsRes v me fn fs ff k)) → zOut h' N7 (out ++ zanL fa a (zsRes v me fn fs ff k)) → (∀ za zb : Nat, ¬ ((21 ≤ za ∧ za < 21 + 2 ∧ zb = v) ∨ (2 ≤ za ∧ za < 4)) → h' (za, zb) = h (za, zb)) → Q (.inl none) c7 s7 h') :
    zX (d + 4) 44 0 [(0, .inr (20, v)), (1, .inr (8, zeN e)), (2, zi 1), (3, zi (k : Int))] [] c s h Q := by
  refine zX.sn 1 (pc2 := 1) (l2 := [(0, .inr (20, v)), (1, .inr (8, zeN e)), (2, zi 1), (3, zi (k : Int))]) (st2 := [.inr (8, zeN e)]) rfl ?_
  refine zX.getf ⟨rfl, rfl⟩ H_8_zeN_e rfl rfl ?_
  refine zX.sn 1 (pc2 := 5) (l2 := [(0, .inr (20, v)), (1, .inr (8, zeN e)), (2, zi 1), (3, zi (k : Int))]) (st2 := [zi (k : Int), zi (zeA e)]) rfl ?_
  refine zX.call (mid2 := 37) (as := [zi (k : Int)]) (rest := [zi (zeA e)]) ⟨rfl, rfl⟩ (fun _ => rfl) rfl ⟨Nat.le_of_ble_eq_true rfl, Nat.le_of_ble_eq_true rfl⟩ ?_
  show zX _ 37 0 [(0, zi (k : Int))] [] c s _ _
  refine zX.sn 1 (pc2 := 1) (l2 := [(0, zi (k : Int))]) (st2 := [zi (k : Int)]) rfl ?_
  refine zX.sn 1 (pc2 := 3) (l2 := [(0, zi (k : Int))]) (st2 := [zi 8, zi (k : Int)]) rfl ?_
  refine zX.idiv ⟨rfl, rfl⟩ (by omega) (by omega) ?_
  refine zX.ret rfl rfl ?_
  show zX _ 44 8 [(0, .inr (20, v)), (1, .inr (8, zeN e)), (2, zi 1), (3, zi (k : Int))] [zi ((k : Int) / 8), zi (zeA e)] c s _ _
  refine zX.sn 1 (pc2 := 9) (l2 := [(0, .inr (20, v)), (1, .inr (8, zeN e)), (2, zi 1), (3, zi (k : Int))]) (st2 := [.inr (20, v), zi ((k : Int) / 8), zi (zeA e)]) rfl ?_
  refine zX.getf ⟨rfl, rfl⟩ H_20_v rfl rfl ?_
  refine zX.iadd ⟨rfl, rfl⟩ ?_
  refine zX.icmp (tgt := 20) ⟨rfl, rfl⟩ rfl (by omega) (by omega) (fun (e1 : zeA e ≤ (((k : Int) / 8) + (sz : Int))) => ?_) (fun (e1 : (((k : Int) / 8) + (sz : Int)) < zeA e) => ?_)
  · refine zX.sn 1 (pc2 := 21) (l2 := [(0, .inr (20, v)), (1, .inr (8, zeN e)), (2, zi 1), (3, zi (k : Int))]) (st2 := [zi 0]) rfl ?_
    refine zX.sn 1 (pc2 := 23) (l2 := [(4, zi 0), (0, .inr (20, v)), (1, .inr (8, zeN e)), (2, zi 1), (3, zi (k : Int))]) (st2 := []) rfl ?_
    refine zX.sn 1 (pc2 := 24) (l2 := [(4, zi 0), (0, .inr (20, v)), (1, .inr (8, zeN e)), (2, zi 1), (3, zi (k : Int))]) (st2 := [zi 1]) rfl ?_
    refine zX.sn 1 (pc2 := 25) (l2 := [(4, zi 0), (0, .inr (20, v)), (1, .inr (8, zeN e)), (2, zi 1), (3, zi (k : Int))]) (st2 := [zi 1, zi 1]) rfl ?_
    refine zX.icmp (tgt := 68) ⟨rfl, rfl⟩ rfl (by omega) (by omega) (fun (zz : ¬ 1 = 1) => absurd zz (by omega)) (fun (e2 : 1 = 1) => ?_)
    refine zX.sn 1 (pc2 := 30) (l2 := [(4, zi 0), (0, .inr (20, v)), (1, .inr (8, zeN e)), (2, zi 1), (3, zi (k : Int))]) (st2 := [zi 0]) rfl ?_
    refine zX.icmp0 (tgt := 68) ⟨rfl, rfl⟩ rfl (by omega) (fun (e3 : 0 = 0) => ?_) (fun (zz : ¬ 0 = 0) => absurd zz (by omega))
    refine zX.sn 1 (pc2 := 69) (l2 := [(4, zi 0), (0, .inr (20, v)), (1, .inr (8, zeN e)), (2, zi 1), (3, zi (k : Int))]) (st2 := [zi 0]) rfl ?_
    refine zX.sn 1 (pc2 := 71) (l2 := [(5, zi 0), (4, zi 0), (0, .inr (20, v)), (1, .inr (8, zeN e)), (2, zi 1), (3, zi (k : Int))]) (st2 := []) rfl ?_
    refine zX.sn 1 (pc2 := 73) (l2 := [(5, zi 0), (4, zi 0), (0, .inr (20, v)), (1, .inr (8, zeN e)), (2, zi 1), (3, zi (k : Int))]) (st2 := [zi 0]) rfl ?_
    refine zX.sn 1 (pc2 := 74) (l2 := [(5, zi 0), (4, zi 0), (0, .inr (20, v)), (1, .inr (8, zeN e)), (2, zi 1), (3, zi (k : Int))]) (st2 := [zi 1, zi 0]) rfl ?_
    refine zX.icmp (tgt := 104) ⟨rfl, rfl⟩ rfl (by omega) (by omega) (fun (zz : 1 ≤ 0) => absurd zz (by omega)) (fun (e4 : 0 < 1) => ?_)
    refine zX.sn 1 (pc2 := 79) (l2 := [(5, zi 0), (4, zi 0), (0, .inr (20, v)), (1, .inr (8, zeN e)), (2, zi 1), (3, zi (k : Int))]) (st2 := [zi 0]) rfl ?_
    refine zX.sn 1 (pc2 := 80) (l2 := [(5, zi 0), (4, zi 0), (0, .inr (20, v)), (1, .inr (8, zeN e)), (2, zi 1), (3, zi (k : Int))]) (st2 := [.inr (20, v), zi 0]) rfl ?_
    refine zX.getf ⟨rfl, rfl⟩ H_20_v rfl rfl ?_
    refine zX.alen ⟨rfl, rfl⟩ H_35_v ?_
    show zX _ 44 84 [(5, zi 0), (4, zi 0), (0, .inr (20, v)), (1, .inr (8, zeN e)), (2, zi 1), (3, zi (k : Int))] [zi 2, zi 0] c s _ _
    refine zX.icmp (tgt := 104) ⟨rfl, rfl⟩ rfl (by omega) (by omega) (fun (zz : 2 ≤ 0) => absurd zz (by omega)) (fun (e5 : 0 < 2) => ?_)
    refine zX.sn 1 (pc2 := 88) (l2 := [(5, zi 0), (4, zi 0), (0, .inr (20, v)), (1, .inr (8, zeN e)), (2, zi 1), (3, zi (k : Int))]) (st2 := [.inr (20, v)]) rfl ?_
    refine zX.sn 1 (pc2 := 89) (l2 := [(5, zi 0), (4, zi 0), (0, .inr (20, v)), (1, .inr (8, zeN e)), (2, zi 1), (3, zi (k : Int))]) (st2 := [.inr (20, v), .inr (20, v)]) rfl ?_
    refine zX.getf ⟨rfl, rfl⟩ H_20_v rfl rfl ?_
    refine zX.sn 1 (pc2 := 94) (l2 := [(5, zi 0), (4, zi 0), (0, .inr (20, v)), (1, .inr (8, zeN e)), (2, zi 1), (3, zi (k : Int))]) (st2 := [zi 0, .inr (35, v), .inr (20, v)]) rfl ?_
    refine zX.iald (j := 0) ⟨rfl, rfl⟩ H_35_v (by omega) (by omega) (by omega) ?_
    show zX _ 44 95 [(5, zi 0), (4, zi 0), (0, .inr (20, v)), (1, .inr (8, zeN e)), (2, zi 1), (3, zi (k : Int))] [zi (jj 0), .inr (20, v)] c s _ _
    refine zX.call (mid2 := 79) (as := [.inr (20, v), zi (jj 0)]) (rest := []) ⟨rfl, rfl⟩ (fun _ => rfl) (zX.inv rfl H_20_v rfl rfl) ⟨Nat.le_of_ble_eq_true rfl, Nat.le_of_ble_eq_true rfl⟩ ?_
    refine s_tback (ci := 6) (k := a) hja (by omega) hvr (by omega) (by omega) (by first | omega | (simp only [List.length_append, List.length_cons, List.length_nil]; have z1 := zbkL_le fa a; omega)) (show zVo _ 6 v false fi sz gr _ _ from H_20_v) P_told P_out  (fun h1 N1 c1 s1 hv1 ho1 hF1 hb1 => ?_)
    show zX _ 44 98 [(5, zi 0), (4, zi 0), (0, .inr (20, v)), (1, .inr (8, zeN e)), (2, zi 1), (3, zi (k : Int))] [] c1 s1 _ _
    refine zX.s1 (pc2 := 101) (l2 := [(5, zi 1), (4, zi 0), (0, .inr (20, v)), (1, .inr (8, zeN e)), (2, zi 1), (3, zi (k : Int))]) (st2 := []) ⟨rfl, rfl⟩ rfl ?_
    refine zX.sn 1 (pc2 := 71) (l2 := [(5, zi 1), (4, zi 0), (0, .inr (20, v)), (1, .inr (8, zeN e)), (2, zi 1), (3, zi (k : Int))]) (st2 := []) rfl ?_
    refine zX.sn 1 (pc2 := 73) (l2 := [(5, zi 1), (4, zi 0), (0, .inr (20, v)), (1, .inr (8, zeN e)), (2, zi 1), (3, zi (k : Int))]) (st2 := [zi 1]) rfl ?_
    refine zX.sn 1 (pc2 := 74) (l2 := [(5, zi 1), (4, zi 0), (0, .inr (20, v)), (1, .inr (8, zeN e)), (2, zi 1), (3, zi (k : Int))]) (st2 := [zi 1, zi 1]) rfl ?_
    refine zX.icmp (tgt := 104) ⟨rfl, rfl⟩ rfl (by omega) (by omega) (fun (e6 : 1 ≤ 1) => ?_) (fun (zz : 1 < 1) => absurd zz (by omega))
    refine zX.sn 1 (pc2 := 106) (l2 := [(5, zi 1), (4, zi 0), (0, .inr (20, v)), (1, .inr (8, zeN e)), (2, zi 1), (3, zi (k : Int))]) (st2 := [zi 0]) rfl ?_
    refine zX.icmp0 (tgt := 119) ⟨rfl, rfl⟩ rfl (by omega) (fun (e7 : 0 = 0) => ?_) (fun (zz : ¬ 0 = 0) => absurd zz (by omega))
    refine zX.ret rfl rfl ?_
    exact k1 e1 N1 c1 s1 hb1 _ hv1 ho1 (fun za zb hn => ((hF1 za zb (by omega)).trans rfl))
  · refine zX.sn 1 (pc2 := 17) (l2 := [(0, .inr (20, v)), (1, .inr (8, zeN e)), (2, zi 1), (3, zi (k : Int))]) (st2 := [zi 1]) rfl ?_
    refine zX.sn 1 (pc2 := 21) (l2 := [(0, .inr (20, v)), (1, .inr (8, zeN e)), (2, zi 1), (3, zi (k : Int))]) (st2 := [zi 1]) rfl ?_
    refine zX.sn 1 (pc2 := 23) (l2 := [(4, zi 1), (0, .inr (20, v)), (1, .inr (8, zeN e)), (2, zi 1), (3, zi (k : Int))]) (st2 := []) rfl ?_
    refine zX.sn 1 (pc2 := 24) (l2 := [(4, zi 1), (0, .inr (20, v)), (1, .inr (8, zeN e)), (2, zi 1), (3, zi (k : Int))]) (st2 := [zi 1]) rfl ?_
    refine zX.sn 1 (pc2 := 25) (l2 := [(4, zi 1), (0, .inr (20, v)), (1, .inr (8, zeN e)), (2, zi 1), (3, zi (k : Int))]) (st2 := [zi 1, zi 1]) rfl ?_
    refine zX.icmp (tgt := 68) ⟨rfl, rfl⟩ rfl (by omega) (by omega) (fun (zz : ¬ 1 = 1) => absurd zz (by omega)) (fun (e8 : 1 = 1) => ?_)
    refine zX.sn 1 (pc2 := 30) (l2 := [(4, zi 1), (0, .inr (20, v)), (1, .inr (8, zeN e)), (2, zi 1), (3, zi (k : Int))]) (st2 := [zi 1]) rfl ?_
    refine zX.icmp0 (tgt := 68) ⟨rfl, rfl⟩ rfl (by omega) (fun (zz : 1 = 0) => absurd zz (by omega)) (fun (e9 : ¬ 1 = 0) => ?_)
    refine zX.sn 1 (pc2 := 34) (l2 := [(4, zi 1), (0, .inr (20, v)), (1, .inr (8, zeN e)), (2, zi 1), (3, zi (k : Int))]) (st2 := [.inr (20, v)]) rfl ?_
    refine zX.getf ⟨rfl, rfl⟩ H_20_v rfl rfl ?_
    refine zX.sn 1 (pc2 := 38) (l2 := [(4, zi 1), (0, .inr (20, v)), (1, .inr (8, zeN e)), (2, zi 1), (3, zi (k : Int))]) (st2 := [.inr (20, v), .inr (21, v)]) rfl ?_
    refine zX.getf ⟨rfl, rfl⟩ H_20_v rfl rfl ?_
    refine zX.sn 1 (pc2 := 42) (l2 := [(4, zi 1), (0, .inr (20, v)), (1, .inr (8, zeN e)), (2, zi 1), (3, zi (k : Int))]) (st2 := [zi 0, .inr (35, v), .inr (21, v)]) rfl ?_
    refine zX.iald (j := 0) ⟨rfl, rfl⟩ H_35_v (by omega) (by omega) (by omega) ?_
    show zX _ 44 43 [(4, zi 1), (0, .inr (20, v)), (1, .inr (8, zeN e)), (2, zi 1), (3, zi (k : Int))] [zi (jj 0), .inr (21, v)] c s _ _
    refine zX.call (mid2 := 23) (as := [.inr (21, v), zi (jj 0)]) (rest := []) ⟨rfl, rfl⟩ (fun _ => rfl) (zX.inv rfl (P_told.1) rfl rfl) ⟨Nat.le_of_ble_eq_true rfl, Nat.le_of_ble_eq_true rfl⟩ ?_
    refine s_at (k := a) hja (by omega) (by omega) (by omega) P_told ?_
    show zX _ 44 46 [(4, zi 1), (0, .inr (20, v)), (1, .inr (8, zeN e)), (2, zi 1), (3, zi (k : Int))] [.inl (.long (fa a))] c s _ _
    refine zX.sn 1 (pc2 := 47) (l2 := [(4, zi 1), (0, .inr (20, v)), (1, .inr (8, zeN e)), (2, zi 1), (3, zi (k : Int))]) (st2 := [.inl (.long 0), .inl (.long (fa a))]) rfl ?_
    refine zX.sn 1 (pc2 := 48) (l2 := [(4, zi 1), (0, .inr (20, v)), (1, .inr (8, zeN e)), (2, zi 1), (3, zi (k : Int))]) (st2 := [.inl (.int (lg_cmp (fa a) 0))]) rfl ?_
    refine zX.leq (tgt := 68) ⟨rfl, rfl⟩ rfl (fun (e10 : (fa a) = 0) => ?_) (fun (e10 : ¬ (fa a) = 0) => ?_)
    · refine zX.sn 1 (pc2 := 69) (l2 := [(4, zi 1), (0, .inr (20, v)), (1, .inr (8, zeN e)), (2, zi 1), (3, zi (k : Int))]) (st2 := [zi 0]) rfl ?_
      refine zX.sn 1 (pc2 := 71) (l2 := [(5, zi 0), (4, zi 1), (0, .inr (20, v)), (1, .inr (8, zeN e)), (2, zi 1), (3, zi (k : Int))]) (st2 := []) rfl ?_
      refine zX.sn 1 (pc2 := 73) (l2 := [(5, zi 0), (4, zi 1), (0, .inr (20, v)), (1, .inr (8, zeN e)), (2, zi 1), (3, zi (k : Int))]) (st2 := [zi 0]) rfl ?_
      refine zX.sn 1 (pc2 := 74) (l2 := [(5, zi 0), (4, zi 1), (0, .inr (20, v)), (1, .inr (8, zeN e)), (2, zi 1), (3, zi (k : Int))]) (st2 := [zi 1, zi 0]) rfl ?_
      refine zX.icmp (tgt := 104) ⟨rfl, rfl⟩ rfl (by omega) (by omega) (fun (zz : 1 ≤ 0) => absurd zz (by omega)) (fun (e11 : 0 < 1) => ?_)
      refine zX.sn 1 (pc2 := 79) (l2 := [(5, zi 0), (4, zi 1), (0, .inr (20, v)), (1, .inr (8, zeN e)), (2, zi 1), (3, zi (k : Int))]) (st2 := [zi 0]) rfl ?_
      refine zX.sn 1 (pc2 := 80) (l2 := [(5, zi 0), (4, zi 1), (0, .inr (20, v)), (1, .inr (8, zeN e)), (2, zi 1), (3, zi (k : Int))]) (st2 := [.inr (20, v), zi 0]) rfl ?_
      refine zX.getf ⟨rfl, rfl⟩ H_20_v rfl rfl ?_
      refine zX.alen ⟨rfl, rfl⟩ H_35_v ?_
      show zX _ 44 84 [(5, zi 0), (4, zi 1), (0, .inr (20, v)), (1, .inr (8, zeN e)), (2, zi 1), (3, zi (k : Int))] [zi 2, zi 0] c s _ _
      refine zX.icmp (tgt := 104) ⟨rfl, rfl⟩ rfl (by omega) (by omega) (fun (zz : 2 ≤ 0) => absurd zz (by omega)) (fun (e12 : 0 < 2) => ?_)
      refine zX.sn 1 (pc2 := 88) (l2 := [(5, zi 0), (4, zi 1), (0, .inr (20, v)), (1, .inr (8, zeN e)), (2, zi 1), (3, zi (k : Int))]) (st2 := [.inr (20, v)]) rfl ?_
      refine zX.sn 1 (pc2 := 89) (l2 := [(5, zi 0), (4, zi 1), (0, .inr (20, v)), (1, .inr (8, zeN e)), (2, zi 1), (3, zi (k : Int))]) (st2 := [.inr (20, v), .inr (20, v)]) rfl ?_
      refine zX.getf ⟨rfl, rfl⟩ H_20_v rfl rfl ?_
      refine zX.sn 1 (pc2 := 94) (l2 := [(5, zi 0), (4, zi 1), (0, .inr (20, v)), (1, .inr (8, zeN e)), (2, zi 1), (3, zi (k : Int))]) (st2 := [zi 0, .inr (35, v), .inr (20, v)]) rfl ?_
      refine zX.iald (j := 0) ⟨rfl, rfl⟩ H_35_v (by omega) (by omega) (by omega) ?_
      show zX _ 44 95 [(5, zi 0), (4, zi 1), (0, .inr (20, v)), (1, .inr (8, zeN e)), (2, zi 1), (3, zi (k : Int))] [zi (jj 0), .inr (20, v)] c s _ _
      refine zX.call (mid2 := 79) (as := [.inr (20, v), zi (jj 0)]) (rest := []) ⟨rfl, rfl⟩ (fun _ => rfl) (zX.inv rfl H_20_v rfl rfl) ⟨Nat.le_of_ble_eq_true rfl, Nat.le_of_ble_eq_true rfl⟩ ?_
      refine s_tback (ci := 6) (k := a) hja (by omega) hvr (by omega) (by omega) (by first | omega | (simp only [List.length_append, List.length_cons, List.length_nil]; have z1 := zbkL_le fa a; omega)) (show zVo _ 6 v false fi sz gr _ _ from H_20_v) P_told P_out  (fun h3 N3 c3 s3 hv3 ho3 hF3 hb3 => ?_)
      show zX _ 44 98 [(5, zi 0), (4, zi 1), (0, .inr (20, v)), (1, .inr (8, zeN e)), (2, zi 1), (3, zi (k : Int))] [] c3 s3 _ _
      refine zX.s1 (pc2 := 101) (l2 := [(5, zi 1), (4, zi 1), (0, .inr (20, v)), (1, .inr (8, zeN e)), (2, zi 1), (3, zi (k : Int))]) (st2 := []) ⟨rfl, rfl⟩ rfl ?_
      refine zX.sn 1 (pc2 := 71) (l2 := [(5, zi 1), (4, zi 1), (0, .inr (20, v)), (1, .inr (8, zeN e)), (2, zi 1), (3, zi (k : Int))]) (st2 := []) rfl ?_
      refine zX.sn 1 (pc2 := 73) (l2 := [(5, zi 1), (4, zi 1), (0, .inr (20, v)), (1, .inr (8, zeN e)), (2, zi 1), (3, zi (k : Int))]) (st2 := [zi 1]) rfl ?_
      refine zX.sn 1 (pc2 := 74) (l2 := [(5, zi 1), (4, zi 1), (0, .inr (20, v)), (1, .inr (8, zeN e)), (2, zi 1), (3, zi (k : Int))]) (st2 := [zi 1, zi 1]) rfl ?_
      refine zX.icmp (tgt := 104) ⟨rfl, rfl⟩ rfl (by omega) (by omega) (fun (e13 : 1 ≤ 1) => ?_) (fun (zz : 1 < 1) => absurd zz (by omega))
      refine zX.sn 1 (pc2 := 106) (l2 := [(5, zi 1), (4, zi 1), (0, .inr (20, v)), (1, .inr (8, zeN e)), (2, zi 1), (3, zi (k : Int))]) (st2 := [zi 1]) rfl ?_
      refine zX.icmp0 (tgt := 119) ⟨rfl, rfl⟩ rfl (by omega) (fun (zz : 1 = 0) => absurd zz (by omega)) (fun (e14 : ¬ 1 = 0) => ?_)
      refine zX.sn 1 (pc2 := 110) (l2 := [(5, zi 1), (4, zi 1), (0, .inr (20, v)), (1, .inr (8, zeN e)), (2, zi 1), (3, zi (k : Int))]) (st2 := [.inr (20, v)]) rfl ?_
      refine zX.sn 1 (pc2 := 111) (l2 := [(5, zi 1), (4, zi 1), (0, .inr (20, v)), (1, .inr (8, zeN e)), (2, zi 1), (3, zi (k : Int))]) (st2 := [zi (k : Int), .inr (20, v)]) rfl ?_
      refine zX.sn 1 (pc2 := 112) (l2 := [(5, zi 1), (4, zi 1), (0, .inr (20, v)), (1, .inr (8, zeN e)), (2, zi 1), (3, zi (k : Int))]) (st2 := [.inr (20, v), zi (k : Int), .inr (20, v)]) rfl ?_
      refine zX.sn 1 (pc2 := 113) (l2 := [(5, zi 1), (4, zi 1), (0, .inr (20, v)), (1, .inr (8, zeN e)), (2, zi 1), (3, zi (k : Int))]) (st2 := [zi (k : Int), .inr (20, v), zi (k : Int), .inr (20, v)]) rfl ?_
      refine zX.call (mid2 := 40) (as := [.inr (20, v), zi (k : Int)]) (rest := [zi (k : Int), .inr (20, v)]) ⟨rfl, rfl⟩ (fun _ => rfl) (zX.inv rfl ((hF3 20 v (by omega)).trans H_20_v) rfl rfl) ⟨Nat.le_of_ble_eq_true rfl, Nat.le_of_ble_eq_true rfl⟩ ?_
      refine s_sres (k := k) rfl (by omega) hvr hme hff (show zVo _ 6 v false fi sz gr _ [zi me, .inr (26, v), .inr (30, v), .inr (34, v), .inr (35, v)] from ((hF3 20 v (by omega)).trans H_20_v)) ((hF3 34 v (by omega)).trans H_34_v) (zTal.fr P_rows (fun za zb hi => ((hF3 za zb (by omega)).trans rfl))) ?_
      show zX _ 44 116 [(5, zi 1), (4, zi 1), (0, .inr (20, v)), (1, .inr (8, zeN e)), (2, zi 1), (3, zi (k : Int))] [.inl (.long (zsRes v me fn fs ff k)), zi (k : Int), .inr (20, v)] c3 s3 _ _
      refine zX.call (mid2 := 78) (as := [.inr (20, v), zi (k : Int), .inl (.long (zsRes v me fn fs ff k))]) (rest := []) ⟨rfl, rfl⟩ (fun _ => rfl) (zX.inv rfl ((hF3 20 v (by omega)).trans H_20_v) rfl rfl) ⟨Nat.le_of_ble_eq_true rfl, Nat.le_of_ble_eq_true rfl⟩ ?_
      refine s_tell2 (ci := 6) (k := k) rfl (by omega) zsRes_nz hvr (by omega) (by omega) (by first | omega | (simp only [List.length_append, List.length_cons, List.length_nil]; have z1 := zbkL_le fa a; omega)) (show zVo _ 6 v false fi sz gr _ _ from ((hF3 20 v (by omega)).trans H_20_v)) hv3 ho3  (fun h5 N5 c5 s5 hv5 ho5 hF5 hb5 => ?_)
      show zX _ 44 119 [(5, zi 1), (4, zi 1), (0, .inr (20, v)), (1, .inr (8, zeN e)), (2, zi 1), (3, zi (k : Int))] [] c5 s5 _ _
      refine zX.ret rfl rfl ?_
      exact k2 e1 e10 N3 c3 s3 hb3 N5 c5 s5 hb5 _ hv5 ho5 (fun za zb hn => ((hF5 za zb (by omega)).trans ((hF3 za zb (by omega)).trans rfl)))
    · refine zX.sn 1 (pc2 := 52) (l2 := [(4, zi 1), (0, .inr (20, v)), (1, .inr (8, zeN e)), (2, zi 1), (3, zi (k : Int))]) (st2 := [.inr (20, v)]) rfl ?_
      refine zX.sn 1 (pc2 := 53) (l2 := [(4, zi 1), (0, .inr (20, v)), (1, .inr (8, zeN e)), (2, zi 1), (3, zi (k : Int))]) (st2 := [.inr (20, v), .inr (20, v)]) rfl ?_
      refine zX.getf ⟨rfl, rfl⟩ H_20_v rfl rfl ?_
      refine zX.sn 1 (pc2 := 57) (l2 := [(4, zi 1), (0, .inr (20, v)), (1, .inr (8, zeN e)), (2, zi 1), (3, zi (k : Int))]) (st2 := [zi 0, .inr (35, v), .inr (20, v)]) rfl ?_
      refine zX.iald (j := 0) ⟨rfl, rfl⟩ H_35_v (by omega) (by omega) (by omega) ?_
      show zX _ 44 58 [(4, zi 1), (0, .inr (20, v)), (1, .inr (8, zeN e)), (2, zi 1), (3, zi (k : Int))] [zi (jj 0), .inr (20, v)] c s _ _
      refine zX.sn 1 (pc2 := 59) (l2 := [(4, zi 1), (0, .inr (20, v)), (1, .inr (8, zeN e)), (2, zi 1), (3, zi (k : Int))]) (st2 := [zi (k : Int), zi (jj 0), .inr (20, v)]) rfl ?_
      refine zX.sn 1 (pc2 := 60) (l2 := [(4, zi 1), (0, .inr (20, v)), (1, .inr (8, zeN e)), (2, zi 1), (3, zi (k : Int))]) (st2 := [.inr (20, v), zi (k : Int), zi (jj 0), .inr (20, v)]) rfl ?_
      refine zX.sn 1 (pc2 := 61) (l2 := [(4, zi 1), (0, .inr (20, v)), (1, .inr (8, zeN e)), (2, zi 1), (3, zi (k : Int))]) (st2 := [zi (k : Int), .inr (20, v), zi (k : Int), zi (jj 0), .inr (20, v)]) rfl ?_
      refine zX.call (mid2 := 40) (as := [.inr (20, v), zi (k : Int)]) (rest := [zi (k : Int), zi (jj 0), .inr (20, v)]) ⟨rfl, rfl⟩ (fun _ => rfl) (zX.inv rfl H_20_v rfl rfl) ⟨Nat.le_of_ble_eq_true rfl, Nat.le_of_ble_eq_true rfl⟩ ?_
      refine s_sres (k := k) rfl (by omega) hvr hme hff (show zVo _ 6 v false fi sz gr _ [zi me, .inr (26, v), .inr (30, v), .inr (34, v), .inr (35, v)] from H_20_v) H_34_v P_rows ?_
      show zX _ 44 64 [(4, zi 1), (0, .inr (20, v)), (1, .inr (8, zeN e)), (2, zi 1), (3, zi (k : Int))] [.inl (.long (zsRes v me fn fs ff k)), zi (k : Int), zi (jj 0), .inr (20, v)] c s _ _
      refine zX.call (mid2 := 80) (as := [.inr (20, v), zi (jj 0), zi (k : Int), .inl (.long (zsRes v me fn fs ff k))]) (rest := []) ⟨rfl, rfl⟩ (fun _ => rfl) (zX.inv rfl H_20_v rfl rfl) ⟨Nat.le_of_ble_eq_true rfl, Nat.le_of_ble_eq_true rfl⟩ ?_
      refine s_tanew (ci := 6) (k := a) (j := k) hja (by omega) rfl (by omega) zsRes_nz hvr (by omega) (by omega) (by first | omega | (simp only [List.length_append, List.length_cons, List.length_nil]; omega)) (show zVo _ 6 v false fi sz gr _ _ from H_20_v) P_told P_out  (fun h7 N7 c7 s7 hv7 ho7 hF7 hb7 => ?_)
      show zX _ 44 67 [(4, zi 1), (0, .inr (20, v)), (1, .inr (8, zeN e)), (2, zi 1), (3, zi (k : Int))] [] c7 s7 _ _
      refine zX.ret rfl rfl ?_
      exact k3 e1 e10 N7 c7 s7 hb7 _ hv7 ho7 (fun za zb hn => ((hF7 za zb (by omega)).trans rfl))

set_option maxHeartbeats 4000000 in
theorem r_stj2 {d c s : Nat} {h : xH} {Q : xR → Nat → Nat → xH → Prop} {v sz gr : Nat} {fi me : Int} {dr : Int32} {e : zE} {fn fs fg : Nat → Int32} {ff : Nat → Int} {jj : Nat → Int} {k N : Nat} {fa : Nat → Int64} {out : List Int64} {a b : Nat} (hvr : zVr v fi sz gr) (hv : v < 5) (hsz : 1 ≤ sz ∧ sz ≤ 200) (hgr : gr ≤ 200) (hme : me = 99 ∨ me = 115 ∨ me = 109) (hEe : zEr e) (hkye : zeK e < 8) (htme : zeT e < 1000) (hvae : -99 ≤ zeV e ∧ zeV e ≤ 99) (hahe : -1 ≤ zeA e ∧ zeA e < 1000) (hode : zeO e < 240) (hire : 0 ≤ zbi (zeR e) ∧ zbi (zeR e) ≤ 1) (hile : 0 ≤ zbi (zeL e) ∧ zbi (zeL e) ≤ 1) (hff : ∀ j, 0 ≤ ff j ∧ ff j ≤ 1000) (hja : jj 0 = (a : Int)) (hal : a < 8000) (hfa : 0 ≤ ff a ∧ ff a ≤ 1000) (hjb : jj 1 = (b : Int)) (hbl : b < 8000) (hfb : 0 ≤ ff b ∧ ff b ≤ 1000) (hk : k < 8000) (ho : out.length + 8 < 200000) (hfk : 0 ≤ ff k ∧ ff k ≤ 1000) (H_20_v : h (20, v) = some (.inl (6, [zi (v : Int), zi (zbi false), zi fi, zi (sz : Int), zi (gr : Int), .inr (2, 0), .inr (21, v), .inr (23, v), .inr (25, v), .inl (.int dr), zi me, .inr (26, v), .inr (30, v), .inr (34, v), .inr (35, v)]))) (H_8_zeN_e : h (8, zeN e) = some (.inl (1, [zi (zeP e : Int), zi (zbi (zeR e)), zi (zbi (zeL e)), zi (zeK e : Int), zi (zeT e : Int), zi (zeV e), zi (zeO e : Int), zi (zeA e), zi (zeB e)]))) (H_34_v : h (34, v) = some (.inr (0, 8000, zA ff))) (H_35_v : h (35, v) = some (.inr (0, 2, zA jj))) (P_rows : zTal h 26 v 8001 fn fs fg) (P_told : zRes h 21 v 8000 fa) (P_out : zOut h N out)
    (k1 : (zeA e ≤ (((k : Int) / 8) + (sz : Int))) → ∀ N1 : Nat, ∀ c1 : Nat, ∀ s1 : Nat, (zCo N c s N1 c1 s1) → ∀ N2 : Nat, ∀ c2 : Nat, ∀ s2 : Nat, (zCo N1 c1 s1 N2 c2 s2) → ∀ h' : xH, zRes h' 21 v 8000 (zbkF (zbkF fa a) b) → zOut h' N2 ((out ++ zbkL fa a) ++ zbkL (zbkF fa a) b) → (∀ za zb : Nat, ¬ ((21 ≤ za ∧ za < 21 + 2 ∧ zb = v) ∨ (2 ≤ za ∧ za < 4)) → h' (za, zb) = h (za, zb)) → Q (.inl none) c2 s2 h')
    (k2 : ((((k : Int) / 8) + (sz : Int)) < zeA e) → ∀ N3 : Nat, ∀ c3 : Nat, ∀ s3 : Nat, (zCo N c s N3 c3 s3) → ∀ N4 : Nat, ∀ c4 : Nat, ∀ s4 : Nat, (zCo N3 c3 s3 N4 c4 s4) → ∀ N6 : Nat, ∀ c6 : Nat, ∀ s6 : Nat, (zCo N4 c4 s4 N6 c6 s6) → ∀ h' : xH, zRes h' 21 v 8000 (zfi (zbkF (zbkF fa a) b) k (zsRes v me fn fs ff k)) → zOut h' N6 (((out ++ zbkL fa a) ++ zbkL (zbkF fa a) b) ++ [(zsRes v me fn fs ff k)]) → (∀ za zb : Nat, ¬ ((21 ≤ za ∧ za < 21 + 2 ∧ zb = v) ∨ (2 ≤ za ∧ za < 4)) → h' (za, zb) = h (za, zb)) → Q (.inl none) c6 s6 h') :
    zX (d + 3) 44 0 [(0, .inr (20, v)), (1, .inr (8, zeN e)), (2, zi 2), (3, zi (k : Int))] [] c s h Q := by
  refine zX.sn 1 (pc2 := 1) (l2 := [(0, .inr (20, v)), (1, .inr (8, zeN e)), (2, zi 2), (3, zi (k : Int))]) (st2 := [.inr (8, zeN e)]) rfl ?_
  refine zX.getf ⟨rfl, rfl⟩ H_8_zeN_e rfl rfl ?_
  refine zX.sn 1 (pc2 := 5) (l2 := [(0, .inr (20, v)), (1, .inr (8, zeN e)), (2, zi 2), (3, zi (k : Int))]) (st2 := [zi (k : Int), zi (zeA e)]) rfl ?_
  refine zX.call (mid2 := 37) (as := [zi (k : Int)]) (rest := [zi (zeA e)]) ⟨rfl, rfl⟩ (fun _ => rfl) rfl ⟨Nat.le_of_ble_eq_true rfl, Nat.le_of_ble_eq_true rfl⟩ ?_
  show zX _ 37 0 [(0, zi (k : Int))] [] c s _ _
  refine zX.sn 1 (pc2 := 1) (l2 := [(0, zi (k : Int))]) (st2 := [zi (k : Int)]) rfl ?_
  refine zX.sn 1 (pc2 := 3) (l2 := [(0, zi (k : Int))]) (st2 := [zi 8, zi (k : Int)]) rfl ?_
  refine zX.idiv ⟨rfl, rfl⟩ (by omega) (by omega) ?_
  refine zX.ret rfl rfl ?_
  show zX _ 44 8 [(0, .inr (20, v)), (1, .inr (8, zeN e)), (2, zi 2), (3, zi (k : Int))] [zi ((k : Int) / 8), zi (zeA e)] c s _ _
  refine zX.sn 1 (pc2 := 9) (l2 := [(0, .inr (20, v)), (1, .inr (8, zeN e)), (2, zi 2), (3, zi (k : Int))]) (st2 := [.inr (20, v), zi ((k : Int) / 8), zi (zeA e)]) rfl ?_
  refine zX.getf ⟨rfl, rfl⟩ H_20_v rfl rfl ?_
  refine zX.iadd ⟨rfl, rfl⟩ ?_
  refine zX.icmp (tgt := 20) ⟨rfl, rfl⟩ rfl (by omega) (by omega) (fun (e1 : zeA e ≤ (((k : Int) / 8) + (sz : Int))) => ?_) (fun (e1 : (((k : Int) / 8) + (sz : Int)) < zeA e) => ?_)
  · refine zX.sn 1 (pc2 := 21) (l2 := [(0, .inr (20, v)), (1, .inr (8, zeN e)), (2, zi 2), (3, zi (k : Int))]) (st2 := [zi 0]) rfl ?_
    refine zX.sn 1 (pc2 := 23) (l2 := [(4, zi 0), (0, .inr (20, v)), (1, .inr (8, zeN e)), (2, zi 2), (3, zi (k : Int))]) (st2 := []) rfl ?_
    refine zX.sn 1 (pc2 := 24) (l2 := [(4, zi 0), (0, .inr (20, v)), (1, .inr (8, zeN e)), (2, zi 2), (3, zi (k : Int))]) (st2 := [zi 2]) rfl ?_
    refine zX.sn 1 (pc2 := 25) (l2 := [(4, zi 0), (0, .inr (20, v)), (1, .inr (8, zeN e)), (2, zi 2), (3, zi (k : Int))]) (st2 := [zi 1, zi 2]) rfl ?_
    refine zX.icmp (tgt := 68) ⟨rfl, rfl⟩ rfl (by omega) (by omega) (fun (e2 : ¬ 2 = 1) => ?_) (fun (zz : 2 = 1) => absurd zz (by omega))
    refine zX.sn 1 (pc2 := 69) (l2 := [(4, zi 0), (0, .inr (20, v)), (1, .inr (8, zeN e)), (2, zi 2), (3, zi (k : Int))]) (st2 := [zi 0]) rfl ?_
    refine zX.sn 1 (pc2 := 71) (l2 := [(5, zi 0), (4, zi 0), (0, .inr (20, v)), (1, .inr (8, zeN e)), (2, zi 2), (3, zi (k : Int))]) (st2 := []) rfl ?_
    refine zX.sn 1 (pc2 := 73) (l2 := [(5, zi 0), (4, zi 0), (0, .inr (20, v)), (1, .inr (8, zeN e)), (2, zi 2), (3, zi (k : Int))]) (st2 := [zi 0]) rfl ?_
    refine zX.sn 1 (pc2 := 74) (l2 := [(5, zi 0), (4, zi 0), (0, .inr (20, v)), (1, .inr (8, zeN e)), (2, zi 2), (3, zi (k : Int))]) (st2 := [zi 2, zi 0]) rfl ?_
    refine zX.icmp (tgt := 104) ⟨rfl, rfl⟩ rfl (by omega) (by omega) (fun (zz : 2 ≤ 0) => absurd zz (by omega)) (fun (e3 : 0 < 2) => ?_)
    refine zX.sn 1 (pc2 := 79) (l2 := [(5, zi 0), (4, zi 0), (0, .inr (20, v)), (1, .inr (8, zeN e)), (2, zi 2), (3, zi (k : Int))]) (st2 := [zi 0]) rfl ?_
    refine zX.sn 1 (pc2 := 80) (l2 := [(5, zi 0), (4, zi 0), (0, .inr (20, v)), (1, .inr (8, zeN e)), (2, zi 2), (3, zi (k : Int))]) (st2 := [.inr (20, v), zi 0]) rfl ?_
    refine zX.getf ⟨rfl, rfl⟩ H_20_v rfl rfl ?_
    refine zX.alen ⟨rfl, rfl⟩ H_35_v ?_
    show zX _ 44 84 [(5, zi 0), (4, zi 0), (0, .inr (20, v)), (1, .inr (8, zeN e)), (2, zi 2), (3, zi (k : Int))] [zi 2, zi 0] c s _ _
    refine zX.icmp (tgt := 104) ⟨rfl, rfl⟩ rfl (by omega) (by omega) (fun (zz : 2 ≤ 0) => absurd zz (by omega)) (fun (e4 : 0 < 2) => ?_)
    refine zX.sn 1 (pc2 := 88) (l2 := [(5, zi 0), (4, zi 0), (0, .inr (20, v)), (1, .inr (8, zeN e)), (2, zi 2), (3, zi (k : Int))]) (st2 := [.inr (20, v)]) rfl ?_
    refine zX.sn 1 (pc2 := 89) (l2 := [(5, zi 0), (4, zi 0), (0, .inr (20, v)), (1, .inr (8, zeN e)), (2, zi 2), (3, zi (k : Int))]) (st2 := [.inr (20, v), .inr (20, v)]) rfl ?_
    refine zX.getf ⟨rfl, rfl⟩ H_20_v rfl rfl ?_
    refine zX.sn 1 (pc2 := 94) (l2 := [(5, zi 0), (4, zi 0), (0, .inr (20, v)), (1, .inr (8, zeN e)), (2, zi 2), (3, zi (k : Int))]) (st2 := [zi 0, .inr (35, v), .inr (20, v)]) rfl ?_
    refine zX.iald (j := 0) ⟨rfl, rfl⟩ H_35_v (by omega) (by omega) (by omega) ?_
    show zX _ 44 95 [(5, zi 0), (4, zi 0), (0, .inr (20, v)), (1, .inr (8, zeN e)), (2, zi 2), (3, zi (k : Int))] [zi (jj 0), .inr (20, v)] c s _ _
    refine zX.call (mid2 := 79) (as := [.inr (20, v), zi (jj 0)]) (rest := []) ⟨rfl, rfl⟩ (fun _ => rfl) (zX.inv rfl H_20_v rfl rfl) ⟨Nat.le_of_ble_eq_true rfl, Nat.le_of_ble_eq_true rfl⟩ ?_
    refine s_tback (ci := 6) (k := a) hja (by omega) hvr (by omega) (by omega) (by first | omega | (simp only [List.length_append, List.length_cons, List.length_nil]; have z1 := zbkL_le fa a; have z2 := zbkL_le (zbkF fa a) b; omega)) (show zVo _ 6 v false fi sz gr _ _ from H_20_v) P_told P_out  (fun h1 N1 c1 s1 hv1 ho1 hF1 hb1 => ?_)
    show zX _ 44 98 [(5, zi 0), (4, zi 0), (0, .inr (20, v)), (1, .inr (8, zeN e)), (2, zi 2), (3, zi (k : Int))] [] c1 s1 _ _
    refine zX.s1 (pc2 := 101) (l2 := [(5, zi 1), (4, zi 0), (0, .inr (20, v)), (1, .inr (8, zeN e)), (2, zi 2), (3, zi (k : Int))]) (st2 := []) ⟨rfl, rfl⟩ rfl ?_
    refine zX.sn 1 (pc2 := 71) (l2 := [(5, zi 1), (4, zi 0), (0, .inr (20, v)), (1, .inr (8, zeN e)), (2, zi 2), (3, zi (k : Int))]) (st2 := []) rfl ?_
    refine zX.sn 1 (pc2 := 73) (l2 := [(5, zi 1), (4, zi 0), (0, .inr (20, v)), (1, .inr (8, zeN e)), (2, zi 2), (3, zi (k : Int))]) (st2 := [zi 1]) rfl ?_
    refine zX.sn 1 (pc2 := 74) (l2 := [(5, zi 1), (4, zi 0), (0, .inr (20, v)), (1, .inr (8, zeN e)), (2, zi 2), (3, zi (k : Int))]) (st2 := [zi 2, zi 1]) rfl ?_
    refine zX.icmp (tgt := 104) ⟨rfl, rfl⟩ rfl (by omega) (by omega) (fun (zz : 2 ≤ 1) => absurd zz (by omega)) (fun (e5 : 1 < 2) => ?_)
    refine zX.sn 1 (pc2 := 79) (l2 := [(5, zi 1), (4, zi 0), (0, .inr (20, v)), (1, .inr (8, zeN e)), (2, zi 2), (3, zi (k : Int))]) (st2 := [zi 1]) rfl ?_
    refine zX.sn 1 (pc2 := 80) (l2 := [(5, zi 1), (4, zi 0), (0, .inr (20, v)), (1, .inr (8, zeN e)), (2, zi 2), (3, zi (k : Int))]) (st2 := [.inr (20, v), zi 1]) rfl ?_
    refine zX.getf ⟨rfl, rfl⟩ ((hF1 20 v (by omega)).trans H_20_v) rfl rfl ?_
    refine zX.alen ⟨rfl, rfl⟩ ((hF1 35 v (by omega)).trans H_35_v) ?_
    show zX _ 44 84 [(5, zi 1), (4, zi 0), (0, .inr (20, v)), (1, .inr (8, zeN e)), (2, zi 2), (3, zi (k : Int))] [zi 2, zi 1] c1 s1 _ _
    refine zX.icmp (tgt := 104) ⟨rfl, rfl⟩ rfl (by omega) (by omega) (fun (zz : 2 ≤ 1) => absurd zz (by omega)) (fun (e6 : 1 < 2) => ?_)
    refine zX.sn 1 (pc2 := 88) (l2 := [(5, zi 1), (4, zi 0), (0, .inr (20, v)), (1, .inr (8, zeN e)), (2, zi 2), (3, zi (k : Int))]) (st2 := [.inr (20, v)]) rfl ?_
    refine zX.sn 1 (pc2 := 89) (l2 := [(5, zi 1), (4, zi 0), (0, .inr (20, v)), (1, .inr (8, zeN e)), (2, zi 2), (3, zi (k : Int))]) (st2 := [.inr (20, v), .inr (20, v)]) rfl ?_
    refine zX.getf ⟨rfl, rfl⟩ ((hF1 20 v (by omega)).trans H_20_v) rfl rfl ?_
    refine zX.sn 1 (pc2 := 94) (l2 := [(5, zi 1), (4, zi 0), (0, .inr (20, v)), (1, .inr (8, zeN e)), (2, zi 2), (3, zi (k : Int))]) (st2 := [zi 1, .inr (35, v), .inr (20, v)]) rfl ?_
    refine zX.iald (j := 1) ⟨rfl, rfl⟩ ((hF1 35 v (by omega)).trans H_35_v) (by omega) (by omega) (by omega) ?_
    show zX _ 44 95 [(5, zi 1), (4, zi 0), (0, .inr (20, v)), (1, .inr (8, zeN e)), (2, zi 2), (3, zi (k : Int))] [zi (jj 1), .inr (20, v)] c1 s1 _ _
    refine zX.call (mid2 := 79) (as := [.inr (20, v), zi (jj 1)]) (rest := []) ⟨rfl, rfl⟩ (fun _ => rfl) (zX.inv rfl ((hF1 20 v (by omega)).trans H_20_v) rfl rfl) ⟨Nat.le_of_ble_eq_true rfl, Nat.le_of_ble_eq_true rfl⟩ ?_
    refine s_tback (ci := 6) (k := b) hjb (by omega) hvr (by omega) (by omega) (by first | omega | (simp only [List.length_append, List.length_cons, List.length_nil]; have z1 := zbkL_le fa a; have z2 := zbkL_le (zbkF fa a) b; omega)) (show zVo _ 6 v false fi sz gr _ _ from ((hF1 20 v (by omega)).trans H_20_v)) hv1 ho1  (fun h2 N2 c2 s2 hv2 ho2 hF2 hb2 => ?_)
    show zX _ 44 98 [(5, zi 1), (4, zi 0), (0, .inr (20, v)), (1, .inr (8, zeN e)), (2, zi 2), (3, zi (k : Int))] [] c2 s2 _ _
    refine zX.s1 (pc2 := 101) (l2 := [(5, zi 2), (4, zi 0), (0, .inr (20, v)), (1, .inr (8, zeN e)), (2, zi 2), (3, zi (k : Int))]) (st2 := []) ⟨rfl, rfl⟩ rfl ?_
    refine zX.sn 1 (pc2 := 71) (l2 := [(5, zi 2), (4, zi 0), (0, .inr (20, v)), (1, .inr (8, zeN e)), (2, zi 2), (3, zi (k : Int))]) (st2 := []) rfl ?_
    refine zX.sn 1 (pc2 := 73) (l2 := [(5, zi 2), (4, zi 0), (0, .inr (20, v)), (1, .inr (8, zeN e)), (2, zi 2), (3, zi (k : Int))]) (st2 := [zi 2]) rfl ?_
    refine zX.sn 1 (pc2 := 74) (l2 := [(5, zi 2), (4, zi 0), (0, .inr (20, v)), (1, .inr (8, zeN e)), (2, zi 2), (3, zi (k : Int))]) (st2 := [zi 2, zi 2]) rfl ?_
    refine zX.icmp (tgt := 104) ⟨rfl, rfl⟩ rfl (by omega) (by omega) (fun (e7 : 2 ≤ 2) => ?_) (fun (zz : 2 < 2) => absurd zz (by omega))
    refine zX.sn 1 (pc2 := 106) (l2 := [(5, zi 2), (4, zi 0), (0, .inr (20, v)), (1, .inr (8, zeN e)), (2, zi 2), (3, zi (k : Int))]) (st2 := [zi 0]) rfl ?_
    refine zX.icmp0 (tgt := 119) ⟨rfl, rfl⟩ rfl (by omega) (fun (e8 : 0 = 0) => ?_) (fun (zz : ¬ 0 = 0) => absurd zz (by omega))
    refine zX.ret rfl rfl ?_
    exact k1 e1 N1 c1 s1 hb1 N2 c2 s2 hb2 _ hv2 ho2 (fun za zb hn => ((hF2 za zb (by omega)).trans ((hF1 za zb (by omega)).trans rfl)))
  · refine zX.sn 1 (pc2 := 17) (l2 := [(0, .inr (20, v)), (1, .inr (8, zeN e)), (2, zi 2), (3, zi (k : Int))]) (st2 := [zi 1]) rfl ?_
    refine zX.sn 1 (pc2 := 21) (l2 := [(0, .inr (20, v)), (1, .inr (8, zeN e)), (2, zi 2), (3, zi (k : Int))]) (st2 := [zi 1]) rfl ?_
    refine zX.sn 1 (pc2 := 23) (l2 := [(4, zi 1), (0, .inr (20, v)), (1, .inr (8, zeN e)), (2, zi 2), (3, zi (k : Int))]) (st2 := []) rfl ?_
    refine zX.sn 1 (pc2 := 24) (l2 := [(4, zi 1), (0, .inr (20, v)), (1, .inr (8, zeN e)), (2, zi 2), (3, zi (k : Int))]) (st2 := [zi 2]) rfl ?_
    refine zX.sn 1 (pc2 := 25) (l2 := [(4, zi 1), (0, .inr (20, v)), (1, .inr (8, zeN e)), (2, zi 2), (3, zi (k : Int))]) (st2 := [zi 1, zi 2]) rfl ?_
    refine zX.icmp (tgt := 68) ⟨rfl, rfl⟩ rfl (by omega) (by omega) (fun (e9 : ¬ 2 = 1) => ?_) (fun (zz : 2 = 1) => absurd zz (by omega))
    refine zX.sn 1 (pc2 := 69) (l2 := [(4, zi 1), (0, .inr (20, v)), (1, .inr (8, zeN e)), (2, zi 2), (3, zi (k : Int))]) (st2 := [zi 0]) rfl ?_
    refine zX.sn 1 (pc2 := 71) (l2 := [(5, zi 0), (4, zi 1), (0, .inr (20, v)), (1, .inr (8, zeN e)), (2, zi 2), (3, zi (k : Int))]) (st2 := []) rfl ?_
    refine zX.sn 1 (pc2 := 73) (l2 := [(5, zi 0), (4, zi 1), (0, .inr (20, v)), (1, .inr (8, zeN e)), (2, zi 2), (3, zi (k : Int))]) (st2 := [zi 0]) rfl ?_
    refine zX.sn 1 (pc2 := 74) (l2 := [(5, zi 0), (4, zi 1), (0, .inr (20, v)), (1, .inr (8, zeN e)), (2, zi 2), (3, zi (k : Int))]) (st2 := [zi 2, zi 0]) rfl ?_
    refine zX.icmp (tgt := 104) ⟨rfl, rfl⟩ rfl (by omega) (by omega) (fun (zz : 2 ≤ 0) => absurd zz (by omega)) (fun (e10 : 0 < 2) => ?_)
    refine zX.sn 1 (pc2 := 79) (l2 := [(5, zi 0), (4, zi 1), (0, .inr (20, v)), (1, .inr (8, zeN e)), (2, zi 2), (3, zi (k : Int))]) (st2 := [zi 0]) rfl ?_
    refine zX.sn 1 (pc2 := 80) (l2 := [(5, zi 0), (4, zi 1), (0, .inr (20, v)), (1, .inr (8, zeN e)), (2, zi 2), (3, zi (k : Int))]) (st2 := [.inr (20, v), zi 0]) rfl ?_
    refine zX.getf ⟨rfl, rfl⟩ H_20_v rfl rfl ?_
    refine zX.alen ⟨rfl, rfl⟩ H_35_v ?_
    show zX _ 44 84 [(5, zi 0), (4, zi 1), (0, .inr (20, v)), (1, .inr (8, zeN e)), (2, zi 2), (3, zi (k : Int))] [zi 2, zi 0] c s _ _
    refine zX.icmp (tgt := 104) ⟨rfl, rfl⟩ rfl (by omega) (by omega) (fun (zz : 2 ≤ 0) => absurd zz (by omega)) (fun (e11 : 0 < 2) => ?_)
    refine zX.sn 1 (pc2 := 88) (l2 := [(5, zi 0), (4, zi 1), (0, .inr (20, v)), (1, .inr (8, zeN e)), (2, zi 2), (3, zi (k : Int))]) (st2 := [.inr (20, v)]) rfl ?_
    refine zX.sn 1 (pc2 := 89) (l2 := [(5, zi 0), (4, zi 1), (0, .inr (20, v)), (1, .inr (8, zeN e)), (2, zi 2), (3, zi (k : Int))]) (st2 := [.inr (20, v), .inr (20, v)]) rfl ?_
    refine zX.getf ⟨rfl, rfl⟩ H_20_v rfl rfl ?_
    refine zX.sn 1 (pc2 := 94) (l2 := [(5, zi 0), (4, zi 1), (0, .inr (20, v)), (1, .inr (8, zeN e)), (2, zi 2), (3, zi (k : Int))]) (st2 := [zi 0, .inr (35, v), .inr (20, v)]) rfl ?_
    refine zX.iald (j := 0) ⟨rfl, rfl⟩ H_35_v (by omega) (by omega) (by omega) ?_
    show zX _ 44 95 [(5, zi 0), (4, zi 1), (0, .inr (20, v)), (1, .inr (8, zeN e)), (2, zi 2), (3, zi (k : Int))] [zi (jj 0), .inr (20, v)] c s _ _
    refine zX.call (mid2 := 79) (as := [.inr (20, v), zi (jj 0)]) (rest := []) ⟨rfl, rfl⟩ (fun _ => rfl) (zX.inv rfl H_20_v rfl rfl) ⟨Nat.le_of_ble_eq_true rfl, Nat.le_of_ble_eq_true rfl⟩ ?_
    refine s_tback (ci := 6) (k := a) hja (by omega) hvr (by omega) (by omega) (by first | omega | (simp only [List.length_append, List.length_cons, List.length_nil]; have z1 := zbkL_le fa a; have z2 := zbkL_le (zbkF fa a) b; omega)) (show zVo _ 6 v false fi sz gr _ _ from H_20_v) P_told P_out  (fun h3 N3 c3 s3 hv3 ho3 hF3 hb3 => ?_)
    show zX _ 44 98 [(5, zi 0), (4, zi 1), (0, .inr (20, v)), (1, .inr (8, zeN e)), (2, zi 2), (3, zi (k : Int))] [] c3 s3 _ _
    refine zX.s1 (pc2 := 101) (l2 := [(5, zi 1), (4, zi 1), (0, .inr (20, v)), (1, .inr (8, zeN e)), (2, zi 2), (3, zi (k : Int))]) (st2 := []) ⟨rfl, rfl⟩ rfl ?_
    refine zX.sn 1 (pc2 := 71) (l2 := [(5, zi 1), (4, zi 1), (0, .inr (20, v)), (1, .inr (8, zeN e)), (2, zi 2), (3, zi (k : Int))]) (st2 := []) rfl ?_
    refine zX.sn 1 (pc2 := 73) (l2 := [(5, zi 1), (4, zi 1), (0, .inr (20, v)), (1, .inr (8, zeN e)), (2, zi 2), (3, zi (k : Int))]) (st2 := [zi 1]) rfl ?_
    refine zX.sn 1 (pc2 := 74) (l2 := [(5, zi 1), (4, zi 1), (0, .inr (20, v)), (1, .inr (8, zeN e)), (2, zi 2), (3, zi (k : Int))]) (st2 := [zi 2, zi 1]) rfl ?_
    refine zX.icmp (tgt := 104) ⟨rfl, rfl⟩ rfl (by omega) (by omega) (fun (zz : 2 ≤ 1) => absurd zz (by omega)) (fun (e12 : 1 < 2) => ?_)
    refine zX.sn 1 (pc2 := 79) (l2 := [(5, zi 1), (4, zi 1), (0, .inr (20, v)), (1, .inr (8, zeN e)), (2, zi 2), (3, zi (k : Int))]) (st2 := [zi 1]) rfl ?_
    refine zX.sn 1 (pc2 := 80) (l2 := [(5, zi 1), (4, zi 1), (0, .inr (20, v)), (1, .inr (8, zeN e)), (2, zi 2), (3, zi (k : Int))]) (st2 := [.inr (20, v), zi 1]) rfl ?_
    refine zX.getf ⟨rfl, rfl⟩ ((hF3 20 v (by omega)).trans H_20_v) rfl rfl ?_
    refine zX.alen ⟨rfl, rfl⟩ ((hF3 35 v (by omega)).trans H_35_v) ?_
    show zX _ 44 84 [(5, zi 1), (4, zi 1), (0, .inr (20, v)), (1, .inr (8, zeN e)), (2, zi 2), (3, zi (k : Int))] [zi 2, zi 1] c3 s3 _ _
    refine zX.icmp (tgt := 104) ⟨rfl, rfl⟩ rfl (by omega) (by omega) (fun (zz : 2 ≤ 1) => absurd zz (by omega)) (fun (e13 : 1 < 2) => ?_)
    refine zX.sn 1 (pc2 := 88) (l2 := [(5, zi 1), (4, zi 1), (0, .inr (20, v)), (1, .inr (8, zeN e)), (2, zi 2), (3, zi (k : Int))]) (st2 := [.inr (20, v)]) rfl ?_
    refine zX.sn 1 (pc2 := 89) (l2 := [(5, zi 1), (4, zi 1), (0, .inr (20, v)), (1, .inr (8, zeN e)), (2, zi 2), (3, zi (k : Int))]) (st2 := [.inr (20, v), .inr (20, v)]) rfl ?_
    refine zX.getf ⟨rfl, rfl⟩ ((hF3 20 v (by omega)).trans H_20_v) rfl rfl ?_
    refine zX.sn 1 (pc2 := 94) (l2 := [(5, zi 1), (4, zi 1), (0, .inr (20, v)), (1, .inr (8, zeN e)), (2, zi 2), (3, zi (k : Int))]) (st2 := [zi 1, .inr (35, v), .inr (20, v)]) rfl ?_
    refine zX.iald (j := 1) ⟨rfl, rfl⟩ ((hF3 35 v (by omega)).trans H_35_v) (by omega) (by omega) (by omega) ?_
    show zX _ 44 95 [(5, zi 1), (4, zi 1), (0, .inr (20, v)), (1, .inr (8, zeN e)), (2, zi 2), (3, zi (k : Int))] [zi (jj 1), .inr (20, v)] c3 s3 _ _
    refine zX.call (mid2 := 79) (as := [.inr (20, v), zi (jj 1)]) (rest := []) ⟨rfl, rfl⟩ (fun _ => rfl) (zX.inv rfl ((hF3 20 v (by omega)).trans H_20_v) rfl rfl) ⟨Nat.le_of_ble_eq_true rfl, Nat.le_of_ble_eq_true rfl⟩ ?_
    refine s_tback (ci := 6) (k := b) hjb (by omega) hvr (by omega) (by omega) (by first | omega | (simp only [List.length_append, List.length_cons, List.length_nil]; have z1 := zbkL_le fa a; have z2 := zbkL_le (zbkF fa a) b; omega)) (show zVo _ 6 v false fi sz gr _ _ from ((hF3 20 v (by omega)).trans H_20_v)) hv3 ho3  (fun h4 N4 c4 s4 hv4 ho4 hF4 hb4 => ?_)
    show zX _ 44 98 [(5, zi 1), (4, zi 1), (0, .inr (20, v)), (1, .inr (8, zeN e)), (2, zi 2), (3, zi (k : Int))] [] c4 s4 _ _
    refine zX.s1 (pc2 := 101) (l2 := [(5, zi 2), (4, zi 1), (0, .inr (20, v)), (1, .inr (8, zeN e)), (2, zi 2), (3, zi (k : Int))]) (st2 := []) ⟨rfl, rfl⟩ rfl ?_
    refine zX.sn 1 (pc2 := 71) (l2 := [(5, zi 2), (4, zi 1), (0, .inr (20, v)), (1, .inr (8, zeN e)), (2, zi 2), (3, zi (k : Int))]) (st2 := []) rfl ?_
    refine zX.sn 1 (pc2 := 73) (l2 := [(5, zi 2), (4, zi 1), (0, .inr (20, v)), (1, .inr (8, zeN e)), (2, zi 2), (3, zi (k : Int))]) (st2 := [zi 2]) rfl ?_
    refine zX.sn 1 (pc2 := 74) (l2 := [(5, zi 2), (4, zi 1), (0, .inr (20, v)), (1, .inr (8, zeN e)), (2, zi 2), (3, zi (k : Int))]) (st2 := [zi 2, zi 2]) rfl ?_
    refine zX.icmp (tgt := 104) ⟨rfl, rfl⟩ rfl (by omega) (by omega) (fun (e14 : 2 ≤ 2) => ?_) (fun (zz : 2 < 2) => absurd zz (by omega))
    refine zX.sn 1 (pc2 := 106) (l2 := [(5, zi 2), (4, zi 1), (0, .inr (20, v)), (1, .inr (8, zeN e)), (2, zi 2), (3, zi (k : Int))]) (st2 := [zi 1]) rfl ?_
    refine zX.icmp0 (tgt := 119) ⟨rfl, rfl⟩ rfl (by omega) (fun (zz : 1 = 0) => absurd zz (by omega)) (fun (e15 : ¬ 1 = 0) => ?_)
    refine zX.sn 1 (pc2 := 110) (l2 := [(5, zi 2), (4, zi 1), (0, .inr (20, v)), (1, .inr (8, zeN e)), (2, zi 2), (3, zi (k : Int))]) (st2 := [.inr (20, v)]) rfl ?_
    refine zX.sn 1 (pc2 := 111) (l2 := [(5, zi 2), (4, zi 1), (0, .inr (20, v)), (1, .inr (8, zeN e)), (2, zi 2), (3, zi (k : Int))]) (st2 := [zi (k : Int), .inr (20, v)]) rfl ?_
    refine zX.sn 1 (pc2 := 112) (l2 := [(5, zi 2), (4, zi 1), (0, .inr (20, v)), (1, .inr (8, zeN e)), (2, zi 2), (3, zi (k : Int))]) (st2 := [.inr (20, v), zi (k : Int), .inr (20, v)]) rfl ?_
    refine zX.sn 1 (pc2 := 113) (l2 := [(5, zi 2), (4, zi 1), (0, .inr (20, v)), (1, .inr (8, zeN e)), (2, zi 2), (3, zi (k : Int))]) (st2 := [zi (k : Int), .inr (20, v), zi (k : Int), .inr (20, v)]) rfl ?_
    refine zX.call (mid2 := 40) (as := [.inr (20, v), zi (k : Int)]) (rest := [zi (k : Int), .inr (20, v)]) ⟨rfl, rfl⟩ (fun _ => rfl) (zX.inv rfl ((hF4 20 v (by omega)).trans ((hF3 20 v (by omega)).trans H_20_v)) rfl rfl) ⟨Nat.le_of_ble_eq_true rfl, Nat.le_of_ble_eq_true rfl⟩ ?_
    refine s_sres (k := k) rfl (by omega) hvr hme hff (show zVo _ 6 v false fi sz gr _ [zi me, .inr (26, v), .inr (30, v), .inr (34, v), .inr (35, v)] from ((hF4 20 v (by omega)).trans ((hF3 20 v (by omega)).trans H_20_v))) ((hF4 34 v (by omega)).trans ((hF3 34 v (by omega)).trans H_34_v)) (zTal.fr P_rows (fun za zb hi => ((hF4 za zb (by omega)).trans ((hF3 za zb (by omega)).trans rfl)))) ?_
    show zX _ 44 116 [(5, zi 2), (4, zi 1), (0, .inr (20, v)), (1, .inr (8, zeN e)), (2, zi 2), (3, zi (k : Int))] [.inl (.long (zsRes v me fn fs ff k)), zi (k : Int), .inr (20, v)] c4 s4 _ _
    refine zX.call (mid2 := 78) (as := [.inr (20, v), zi (k : Int), .inl (.long (zsRes v me fn fs ff k))]) (rest := []) ⟨rfl, rfl⟩ (fun _ => rfl) (zX.inv rfl ((hF4 20 v (by omega)).trans ((hF3 20 v (by omega)).trans H_20_v)) rfl rfl) ⟨Nat.le_of_ble_eq_true rfl, Nat.le_of_ble_eq_true rfl⟩ ?_
    refine s_tell2 (ci := 6) (k := k) rfl (by omega) zsRes_nz hvr (by omega) (by omega) (by first | omega | (simp only [List.length_append, List.length_cons, List.length_nil]; have z1 := zbkL_le fa a; have z2 := zbkL_le (zbkF fa a) b; omega)) (show zVo _ 6 v false fi sz gr _ _ from ((hF4 20 v (by omega)).trans ((hF3 20 v (by omega)).trans H_20_v))) hv4 ho4  (fun h6 N6 c6 s6 hv6 ho6 hF6 hb6 => ?_)
    show zX _ 44 119 [(5, zi 2), (4, zi 1), (0, .inr (20, v)), (1, .inr (8, zeN e)), (2, zi 2), (3, zi (k : Int))] [] c6 s6 _ _
    refine zX.ret rfl rfl ?_
    exact k2 e1 N3 c3 s3 hb3 N4 c4 s4 hb4 N6 c6 s6 hb6 _ hv6 ho6 (fun za zb hn => ((hF6 za zb (by omega)).trans ((hF4 za zb (by omega)).trans ((hF3 za zb (by omega)).trans rfl))))

set_option maxHeartbeats 4000000 in
theorem r_std0 {d c s : Nat} {h : xH} {Q : xR → Nat → Nat → xH → Prop} {v sz gr : Nat} {fi me : Int} {dr : Int32} {b m : Int} (hvr : zVr v fi sz gr) (hv : v < 5) (hsz : 1 ≤ sz ∧ sz ≤ 200) (hgr : gr ≤ 200) (hme : me = 99 ∨ me = 115 ∨ me = 109) (hb : -1 ≤ b ∧ b < 1000) (hm : -1 ≤ m ∧ m < 1000) (H_20_v : h (20, v) = some (.inl (6, [zi (v : Int), zi (zbi false), zi fi, zi (sz : Int), zi (gr : Int), .inr (2, 0), .inr (21, v), .inr (23, v), .inr (25, v), .inl (.int dr), zi me, .inr (26, v), .inr (30, v), .inr (34, v), .inr (35, v)])))
    (k1 : zX d 45 11 [(0, .inr (20, v)), (2, zi m), (3, zi (if 0 < (b - (sz : Int)) then (b - (sz : Int)) else 0))] [] c s h Q) :
    zX d 45 0 [(0, .inr (20, v)), (1, zi b), (2, zi m)] [] c s h Q := by
  refine zX.sn 1 (pc2 := 1) (l2 := [(0, .inr (20, v)), (1, zi b), (2, zi m)]) (st2 := [zi 0]) rfl ?_
  refine zX.sn 1 (pc2 := 2) (l2 := [(0, .inr (20, v)), (1, zi b), (2, zi m)]) (st2 := [zi b, zi 0]) rfl ?_
  refine zX.sn 1 (pc2 := 3) (l2 := [(0, .inr (20, v)), (1, zi b), (2, zi m)]) (st2 := [.inr (20, v), zi b, zi 0]) rfl ?_
  refine zX.getf ⟨rfl, rfl⟩ H_20_v rfl rfl ?_
  refine zX.isub ⟨rfl, rfl⟩ ?_
  refine zX.maxi ⟨rfl, rfl⟩ (by omega) (by omega) (Nat.le_of_ble_eq_true rfl) ?_
  refine zX.sn 1 (pc2 := 11) (l2 := [(3, zi (if 0 < (b - (sz : Int)) then (b - (sz : Int)) else 0)), (0, .inr (20, v)), (1, zi b), (2, zi m)]) (st2 := []) rfl ?_
  refine zX.re [(0, .inr (20, v)), (2, zi m), (3, zi (if 0 < (b - (sz : Int)) then (b - (sz : Int)) else 0))] [1, 3, 0] [3, 0, 1, 2] rfl rfl (by decide) ?_
  exact k1

set_option maxHeartbeats 4000000 in
theorem r_std1 {d c s : Nat} {h : xH} {Q : xR → Nat → Nat → xH → Prop} {v sz gr : Nat} {fi me : Int} {dr : Int32} {m : Int} {l : Nat} (hvr : zVr v fi sz gr) (hv : v < 5) (hsz : 1 ≤ sz ∧ sz ≤ 200) (hgr : gr ≤ 200) (hme : me = 99 ∨ me = 115 ∨ me = 109) (hm : -1 ≤ m ∧ m < 1000) (hl : l ≤ 1000) (H_20_v : h (20, v) = some (.inl (6, [zi (v : Int), zi (zbi false), zi fi, zi (sz : Int), zi (gr : Int), .inr (2, 0), .inr (21, v), .inr (23, v), .inr (25, v), .inl (.int dr), zi me, .inr (26, v), .inr (30, v), .inr (34, v), .inr (35, v)])))
    (k1 : (1000 ≤ (l : Int)) → Q (.inl none) c s h)
    (k2 : ((l : Int) < 1000) → ((m - (sz : Int)) ≤ (l : Int)) → Q (.inl none) c s h)
    (k3 : ((l : Int) < 1000) → ((l : Int) < (m - (sz : Int))) → zX d 45 31 [(0, .inr (20, v)), (2, zi m), (3, zi (l : Int)), (4, zi 0)] [] c s h Q) :
    zX d 45 11 [(0, .inr (20, v)), (2, zi m), (3, zi (l : Int))] [] c s h Q := by
  refine zX.sn 1 (pc2 := 12) (l2 := [(0, .inr (20, v)), (2, zi m), (3, zi (l : Int))]) (st2 := [zi (l : Int)]) rfl ?_
  refine zX.sn 1 (pc2 := 15) (l2 := [(0, .inr (20, v)), (2, zi m), (3, zi (l : Int))]) (st2 := [zi 1000, zi (l : Int)]) rfl ?_
  refine zX.icmp (tgt := 84) ⟨rfl, rfl⟩ rfl (by omega) (by omega) (fun (e1 : 1000 ≤ (l : Int)) => ?_) (fun (e1 : (l : Int) < 1000) => ?_)
  · refine zX.ret rfl rfl ?_
    exact k1 e1
  · refine zX.sn 1 (pc2 := 19) (l2 := [(0, .inr (20, v)), (2, zi m), (3, zi (l : Int))]) (st2 := [zi (l : Int)]) rfl ?_
    refine zX.sn 1 (pc2 := 20) (l2 := [(0, .inr (20, v)), (2, zi m), (3, zi (l : Int))]) (st2 := [zi m, zi (l : Int)]) rfl ?_
    refine zX.sn 1 (pc2 := 21) (l2 := [(0, .inr (20, v)), (2, zi m), (3, zi (l : Int))]) (st2 := [.inr (20, v), zi m, zi (l : Int)]) rfl ?_
    refine zX.getf ⟨rfl, rfl⟩ H_20_v rfl rfl ?_
    refine zX.isub ⟨rfl, rfl⟩ ?_
    refine zX.icmp (tgt := 84) ⟨rfl, rfl⟩ rfl (by omega) (by omega) (fun (e2 : (m - (sz : Int)) ≤ (l : Int)) => ?_) (fun (e2 : (l : Int) < (m - (sz : Int))) => ?_)
    · refine zX.ret rfl rfl ?_
      exact k2 e1 e2
    · refine zX.sn 1 (pc2 := 29) (l2 := [(0, .inr (20, v)), (2, zi m), (3, zi (l : Int))]) (st2 := [zi 0]) rfl ?_
      refine zX.sn 1 (pc2 := 31) (l2 := [(4, zi 0), (0, .inr (20, v)), (2, zi m), (3, zi (l : Int))]) (st2 := []) rfl ?_
      refine zX.re [(0, .inr (20, v)), (2, zi m), (3, zi (l : Int)), (4, zi 0)] [1, 2, 3, 0] [4, 0, 2, 3] rfl rfl (by decide) ?_
      exact k3 e1 e2

set_option maxHeartbeats 4000000 in
theorem r_std2 {d c s : Nat} {h : xH} {Q : xR → Nat → Nat → xH → Prop} {v sz gr : Nat} {fi me : Int} {dr : Int32} {fn fs fg : Nat → Int32} {ff : Nat → Int} {m : Int} {l k N : Nat} {fa : Nat → Int64} {out : List Int64} (hvr : zVr v fi sz gr) (hv : v < 5) (hsz : 1 ≤ sz ∧ sz ≤ 200) (hgr : gr ≤ 200) (hme : me = 99 ∨ me = 115 ∨ me = 109) (hm : -1 ≤ m ∧ m < 1000) (hff : ∀ j, 0 ≤ ff j ∧ ff j ≤ 1000) (hl : l < 1000) (hk : k ≤ 8) (ho : out.length + 2 < 200000) (H_20_v : h (20, v) = some (.inl (6, [zi (v : Int), zi (zbi false), zi fi, zi (sz : Int), zi (gr : Int), .inr (2, 0), .inr (21, v), .inr (23, v), .inr (25, v), .inl (.int dr), zi me, .inr (26, v), .inr (30, v), .inr (34, v), .inr (35, v)]))) (H_34_v : h (34, v) = some (.inr (0, 8000, zA ff))) (P_rows : zTal h 26 v 8001 fn fs fg) (P_told : zRes h 21 v 8000 fa) (P_out : zOut h N out)
    (k1 : (8 ≤ (k : Int)) → zX (d + 4) 45 11 [(0, .inr (20, v)), (2, zi m), (3, zi ((l : Int) + 1))] [] c s h Q)
    (k2 : ((k : Int) < 8) → (¬ 0 < fn ((l * 8) + k)) → zX (d + 4) 45 31 [(0, .inr (20, v)), (2, zi m), (3, zi (l : Int)), (4, zi ((k : Int) + 1))] [] c s h Q)
    (k3 : ((k : Int) < 8) → (0 < fn ((l * 8) + k)) → ∀ N2 : Nat, ∀ c2 : Nat, ∀ s2 : Nat, (zCo N c s N2 c2 s2) → ∀ h' : xH, zRes h' 21 v 8000 (zanF fa ((l * 8) + k) ((l * 8) + k) (zsRes v me fn fs ff ((l * 8) + k))) → zOut h' N2 (out ++ zanL fa ((l * 8) + k) (zsRes v me fn fs ff ((l * 8) + k))) → (∀ za zb : Nat, ¬ ((21 ≤ za ∧ za < 21 + 2 ∧ zb = v) ∨ (2 ≤ za ∧ za < 4)) → h' (za, zb) = h (za, zb)) → zX (d + 4) 45 31 [(0, .inr (20, v)), (2, zi m), (3, zi (l : Int)), (4, zi ((k : Int) + 1))] [] c2 s2 h' Q) :
    zX (d + 4) 45 31 [(0, .inr (20, v)), (2, zi m), (3, zi (l : Int)), (4, zi (k : Int))] [] c s h Q := by
  refine zX.sn 1 (pc2 := 33) (l2 := [(0, .inr (20, v)), (2, zi m), (3, zi (l : Int)), (4, zi (k : Int))]) (st2 := [zi (k : Int)]) rfl ?_
  refine zX.sn 1 (pc2 := 35) (l2 := [(0, .inr (20, v)), (2, zi m), (3, zi (l : Int)), (4, zi (k : Int))]) (st2 := [zi 8, zi (k : Int)]) rfl ?_
  refine zX.icmp (tgt := 78) ⟨rfl, rfl⟩ rfl (by omega) (by omega) (fun (e1 : 8 ≤ (k : Int)) => ?_) (fun (e1 : (k : Int) < 8) => ?_)
  · refine zX.s1 (pc2 := 81) (l2 := [(3, zi ((l : Int) + 1)), (0, .inr (20, v)), (2, zi m), (4, zi (k : Int))]) (st2 := []) ⟨rfl, rfl⟩ (by rw [show (zi ((l : Int) + 1) : xV) = .inl (.int (Int32.ofInt (l : Int) + 1)) from congrArg (fun z => (.inl (.int z) : xV)) (Int32.ofInt_add _ _)]; rfl) ?_
    refine zX.sn 1 (pc2 := 11) (l2 := [(3, zi ((l : Int) + 1)), (0, .inr (20, v)), (2, zi m), (4, zi (k : Int))]) (st2 := []) rfl ?_
    refine zX.re [(0, .inr (20, v)), (2, zi m), (3, zi ((l : Int) + 1))] [1, 2, 0] [3, 0, 2, 4] rfl rfl (by decide) ?_
    exact k1 e1
  · refine zX.sn 1 (pc2 := 39) (l2 := [(0, .inr (20, v)), (2, zi m), (3, zi (l : Int)), (4, zi (k : Int))]) (st2 := [zi (l : Int)]) rfl ?_
    refine zX.sn 1 (pc2 := 41) (l2 := [(0, .inr (20, v)), (2, zi m), (3, zi (l : Int)), (4, zi (k : Int))]) (st2 := [zi (k : Int), zi (l : Int)]) rfl ?_
    refine zX.call (mid2 := 36) (as := [zi (l : Int), zi (k : Int)]) (rest := []) ⟨rfl, rfl⟩ (fun _ => rfl) rfl ⟨Nat.le_of_ble_eq_true rfl, Nat.le_of_ble_eq_true rfl⟩ ?_
    show zX _ 36 0 [(0, zi (l : Int)), (1, zi (k : Int))] [] c s _ _
    refine zX.sn 1 (pc2 := 1) (l2 := [(0, zi (l : Int)), (1, zi (k : Int))]) (st2 := [zi (l : Int)]) rfl ?_
    refine zX.sn 1 (pc2 := 3) (l2 := [(0, zi (l : Int)), (1, zi (k : Int))]) (st2 := [zi 8, zi (l : Int)]) rfl ?_
    refine zX.imul ⟨rfl, rfl⟩ ?_
    refine zX.sn 1 (pc2 := 5) (l2 := [(0, zi (l : Int)), (1, zi (k : Int))]) (st2 := [zi (k : Int), zi ((l : Int) * 8)]) rfl ?_
    refine zX.iadd ⟨rfl, rfl⟩ ?_
    refine zX.ret rfl rfl ?_
    show zX _ 45 44 [(0, .inr (20, v)), (2, zi m), (3, zi (l : Int)), (4, zi (k : Int))] [zi (((l : Int) * 8) + (k : Int))] c s _ _
    refine zX.sn 1 (pc2 := 46) (l2 := [(5, zi (((l : Int) * 8) + (k : Int))), (0, .inr (20, v)), (2, zi m), (3, zi (l : Int)), (4, zi (k : Int))]) (st2 := []) rfl ?_
    refine zX.sn 1 (pc2 := 47) (l2 := [(5, zi (((l : Int) * 8) + (k : Int))), (0, .inr (20, v)), (2, zi m), (3, zi (l : Int)), (4, zi (k : Int))]) (st2 := [.inr (20, v)]) rfl ?_
    refine zX.getf ⟨rfl, rfl⟩ H_20_v rfl rfl ?_
    refine zX.sn 1 (pc2 := 52) (l2 := [(5, zi (((l : Int) * 8) + (k : Int))), (0, .inr (20, v)), (2, zi m), (3, zi (l : Int)), (4, zi (k : Int))]) (st2 := [zi (((l : Int) * 8) + (k : Int)), .inr (26, v)]) rfl ?_
    refine zX.call (mid2 := 53) (as := [.inr (26, v), zi (((l : Int) * 8) + (k : Int))]) (rest := []) ⟨rfl, rfl⟩ (fun _ => rfl) (zX.inv rfl (P_rows.1) rfl rfl) ⟨Nat.le_of_ble_eq_true rfl, Nat.le_of_ble_eq_true rfl⟩ ?_
    refine s_has (k := ((l * 8) + k)) (by omega) (by omega) (by omega) (by omega) P_rows (fun (e2 : ¬ 0 < fn ((l * 8) + k)) => ?_) (fun (e2 : 0 < fn ((l * 8) + k)) => ?_)
    · show zX _ 45 55 [(5, zi (((l : Int) * 8) + (k : Int))), (0, .inr (20, v)), (2, zi m), (3, zi (l : Int)), (4, zi (k : Int))] [zi 0] c s _ _
      refine zX.icmp0 (tgt := 72) ⟨rfl, rfl⟩ rfl (by omega) (fun (e3 : 0 = 0) => ?_) (fun (zz : ¬ 0 = 0) => absurd zz (by omega))
      refine zX.s1 (pc2 := 75) (l2 := [(4, zi ((k : Int) + 1)), (5, zi (((l : Int) * 8) + (k : Int))), (0, .inr (20, v)), (2, zi m), (3, zi (l : Int))]) (st2 := []) ⟨rfl, rfl⟩ (by rw [show (zi ((k : Int) + 1) : xV) = .inl (.int (Int32.ofInt (k : Int) + 1)) from congrArg (fun z => (.inl (.int z) : xV)) (Int32.ofInt_add _ _)]; rfl) ?_
      refine zX.sn 1 (pc2 := 31) (l2 := [(4, zi ((k : Int) + 1)), (5, zi (((l : Int) * 8) + (k : Int))), (0, .inr (20, v)), (2, zi m), (3, zi (l : Int))]) (st2 := []) rfl ?_
      refine zX.re [(0, .inr (20, v)), (2, zi m), (3, zi (l : Int)), (4, zi ((k : Int) + 1))] [2, 3, 4, 0] [4, 5, 0, 2, 3] rfl rfl (by decide) ?_
      exact k2 e1 e2
    · show zX _ 45 55 [(5, zi (((l : Int) * 8) + (k : Int))), (0, .inr (20, v)), (2, zi m), (3, zi (l : Int)), (4, zi (k : Int))] [zi 1] c s _ _
      refine zX.icmp0 (tgt := 72) ⟨rfl, rfl⟩ rfl (by omega) (fun (zz : 1 = 0) => absurd zz (by omega)) (fun (e4 : ¬ 1 = 0) => ?_)
      refine zX.sn 1 (pc2 := 59) (l2 := [(5, zi (((l : Int) * 8) + (k : Int))), (0, .inr (20, v)), (2, zi m), (3, zi (l : Int)), (4, zi (k : Int))]) (st2 := [.inr (20, v)]) rfl ?_
      refine zX.sn 1 (pc2 := 61) (l2 := [(5, zi (((l : Int) * 8) + (k : Int))), (0, .inr (20, v)), (2, zi m), (3, zi (l : Int)), (4, zi (k : Int))]) (st2 := [zi (((l : Int) * 8) + (k : Int)), .inr (20, v)]) rfl ?_
      refine zX.sn 1 (pc2 := 63) (l2 := [(5, zi (((l : Int) * 8) + (k : Int))), (0, .inr (20, v)), (2, zi m), (3, zi (l : Int)), (4, zi (k : Int))]) (st2 := [zi (((l : Int) * 8) + (k : Int)), zi (((l : Int) * 8) + (k : Int)), .inr (20, v)]) rfl ?_
      refine zX.sn 1 (pc2 := 64) (l2 := [(5, zi (((l : Int) * 8) + (k : Int))), (0, .inr (20, v)), (2, zi m), (3, zi (l : Int)), (4, zi (k : Int))]) (st2 := [.inr (20, v), zi (((l : Int) * 8) + (k : Int)), zi (((l : Int) * 8) + (k : Int)), .inr (20, v)]) rfl ?_
      refine zX.sn 1 (pc2 := 66) (l2 := [(5, zi (((l : Int) * 8) + (k : Int))), (0, .inr (20, v)), (2, zi m), (3, zi (l : Int)), (4, zi (k : Int))]) (st2 := [zi (((l : Int) * 8) + (k : Int)), .inr (20, v), zi (((l : Int) * 8) + (k : Int)), zi (((l : Int) * 8) + (k : Int)), .inr (20, v)]) rfl ?_
      refine zX.call (mid2 := 40) (as := [.inr (20, v), zi (((l : Int) * 8) + (k : Int))]) (rest := [zi (((l : Int) * 8) + (k : Int)), zi (((l : Int) * 8) + (k : Int)), .inr (20, v)]) ⟨rfl, rfl⟩ (fun _ => rfl) (zX.inv rfl H_20_v rfl rfl) ⟨Nat.le_of_ble_eq_true rfl, Nat.le_of_ble_eq_true rfl⟩ ?_
      refine s_sres (k := ((l * 8) + k)) (by omega) (by omega) hvr hme hff (show zVo _ 6 v false fi sz gr _ [zi me, .inr (26, v), .inr (30, v), .inr (34, v), .inr (35, v)] from H_20_v) H_34_v P_rows ?_
      show zX _ 45 69 [(5, zi (((l : Int) * 8) + (k : Int))), (0, .inr (20, v)), (2, zi m), (3, zi (l : Int)), (4, zi (k : Int))] [.inl (.long (zsRes v me fn fs ff ((l * 8) + k))), zi (((l : Int) * 8) + (k : Int)), zi (((l : Int) * 8) + (k : Int)), .inr (20, v)] c s _ _
      refine zX.call (mid2 := 80) (as := [.inr (20, v), zi (((l : Int) * 8) + (k : Int)), zi (((l : Int) * 8) + (k : Int)), .inl (.long (zsRes v me fn fs ff ((l * 8) + k)))]) (rest := []) ⟨rfl, rfl⟩ (fun _ => rfl) (zX.inv rfl H_20_v rfl rfl) ⟨Nat.le_of_ble_eq_true rfl, Nat.le_of_ble_eq_true rfl⟩ ?_
      refine s_tanew (ci := 6) (k := ((l * 8) + k)) (j := ((l * 8) + k)) (by omega) (by omega) (by omega) (by omega) zsRes_nz hvr (by omega) (by omega) (by first | omega | (simp only [List.length_append, List.length_cons, List.length_nil]; omega)) (show zVo _ 6 v false fi sz gr _ _ from H_20_v) P_told P_out  (fun h2 N2 c2 s2 hv2 ho2 hF2 hb2 => ?_)
      show zX _ 45 72 [(5, zi (((l : Int) * 8) + (k : Int))), (0, .inr (20, v)), (2, zi m), (3, zi (l : Int)), (4, zi (k : Int))] [] c2 s2 _ _
      refine zX.s1 (pc2 := 75) (l2 := [(4, zi ((k : Int) + 1)), (5, zi (((l : Int) * 8) + (k : Int))), (0, .inr (20, v)), (2, zi m), (3, zi (l : Int))]) (st2 := []) ⟨rfl, rfl⟩ (by rw [show (zi ((k : Int) + 1) : xV) = .inl (.int (Int32.ofInt (k : Int) + 1)) from congrArg (fun z => (.inl (.int z) : xV)) (Int32.ofInt_add _ _)]; rfl) ?_
      refine zX.sn 1 (pc2 := 31) (l2 := [(4, zi ((k : Int) + 1)), (5, zi (((l : Int) * 8) + (k : Int))), (0, .inr (20, v)), (2, zi m), (3, zi (l : Int))]) (st2 := []) rfl ?_
      refine zX.re [(0, .inr (20, v)), (2, zi m), (3, zi (l : Int)), (4, zi ((k : Int) + 1))] [2, 3, 4, 0] [4, 5, 0, 2, 3] rfl rfl (by decide) ?_
      exact k3 e1 e2 N2 c2 s2 hb2 _ hv2 ho2 (fun za zb hn => ((hF2 za zb (by omega)).trans rfl))

set_option maxHeartbeats 4000000 in
theorem r_slg0 {d c s : Nat} {h : xH} {Q : xR → Nat → Nat → xH → Prop} {v sz gr : Nat} {fi me : Int} {dr : Int32} {b m : Int} (hvr : zVr v fi sz gr) (hv : v < 5) (hsz : 1 ≤ sz ∧ sz ≤ 200) (hgr : gr ≤ 200) (hme : me = 99 ∨ me = 115 ∨ me = 109) (hb : -1 ≤ b ∧ b < 1000) (hm : -1 ≤ m ∧ m < 1000) (H_20_v : h (20, v) = some (.inl (6, [zi (v : Int), zi (zbi false), zi fi, zi (sz : Int), zi (gr : Int), .inr (2, 0), .inr (21, v), .inr (23, v), .inr (25, v), .inl (.int dr), zi me, .inr (26, v), .inr (30, v), .inr (34, v), .inr (35, v)])))
    (k1 : zX d 46 21 [(0, .inr (20, v)), (2, zi m), (3, zi ((2 * (sz : Int)) + (gr : Int))), (4, zi (if 0 < (b - ((2 * (sz : Int)) + (gr : Int))) then (b - ((2 * (sz : Int)) + (gr : Int))) else 0))] [] c s h Q) :
    zX d 46 0 [(0, .inr (20, v)), (1, zi b), (2, zi m)] [] c s h Q := by
  refine zX.sn 1 (pc2 := 1) (l2 := [(0, .inr (20, v)), (1, zi b), (2, zi m)]) (st2 := [zi 2]) rfl ?_
  refine zX.sn 1 (pc2 := 2) (l2 := [(0, .inr (20, v)), (1, zi b), (2, zi m)]) (st2 := [.inr (20, v), zi 2]) rfl ?_
  refine zX.getf ⟨rfl, rfl⟩ H_20_v rfl rfl ?_
  refine zX.imul ⟨rfl, rfl⟩ ?_
  refine zX.sn 1 (pc2 := 7) (l2 := [(0, .inr (20, v)), (1, zi b), (2, zi m)]) (st2 := [.inr (20, v), zi (2 * (sz : Int))]) rfl ?_
  refine zX.getf ⟨rfl, rfl⟩ H_20_v rfl rfl ?_
  refine zX.iadd ⟨rfl, rfl⟩ ?_
  refine zX.sn 1 (pc2 := 12) (l2 := [(3, zi ((2 * (sz : Int)) + (gr : Int))), (0, .inr (20, v)), (1, zi b), (2, zi m)]) (st2 := []) rfl ?_
  refine zX.sn 1 (pc2 := 13) (l2 := [(3, zi ((2 * (sz : Int)) + (gr : Int))), (0, .inr (20, v)), (1, zi b), (2, zi m)]) (st2 := [zi 0]) rfl ?_
  refine zX.sn 1 (pc2 := 14) (l2 := [(3, zi ((2 * (sz : Int)) + (gr : Int))), (0, .inr (20, v)), (1, zi b), (2, zi m)]) (st2 := [zi b, zi 0]) rfl ?_
  refine zX.sn 1 (pc2 := 15) (l2 := [(3, zi ((2 * (sz : Int)) + (gr : Int))), (0, .inr (20, v)), (1, zi b), (2, zi m)]) (st2 := [zi ((2 * (sz : Int)) + (gr : Int)), zi b, zi 0]) rfl ?_
  refine zX.isub ⟨rfl, rfl⟩ ?_
  refine zX.maxi ⟨rfl, rfl⟩ (by omega) (by omega) (Nat.le_of_ble_eq_true rfl) ?_
  refine zX.sn 1 (pc2 := 21) (l2 := [(4, zi (if 0 < (b - ((2 * (sz : Int)) + (gr : Int))) then (b - ((2 * (sz : Int)) + (gr : Int))) else 0)), (3, zi ((2 * (sz : Int)) + (gr : Int))), (0, .inr (20, v)), (1, zi b), (2, zi m)]) (st2 := []) rfl ?_
  refine zX.re [(0, .inr (20, v)), (2, zi m), (3, zi ((2 * (sz : Int)) + (gr : Int))), (4, zi (if 0 < (b - ((2 * (sz : Int)) + (gr : Int))) then (b - ((2 * (sz : Int)) + (gr : Int))) else 0))] [2, 4, 1, 0] [4, 3, 0, 1, 2] rfl rfl (by decide) ?_
  exact k1

set_option maxHeartbeats 4000000 in
theorem r_slg1 {d c s : Nat} {h : xH} {Q : xR → Nat → Nat → xH → Prop} {v sz gr : Nat} {fi me : Int} {dr : Int32} {m stay : Int} {l : Nat} (hvr : zVr v fi sz gr) (hv : v < 5) (hsz : 1 ≤ sz ∧ sz ≤ 200) (hgr : gr ≤ 200) (hme : me = 99 ∨ me = 115 ∨ me = 109) (hm : -1 ≤ m ∧ m < 1000) (hl : l ≤ 1000) (hst : 0 ≤ stay ∧ stay ≤ 1000) (H_20_v : h (20, v) = some (.inl (6, [zi (v : Int), zi (zbi false), zi fi, zi (sz : Int), zi (gr : Int), .inr (2, 0), .inr (21, v), .inr (23, v), .inr (25, v), .inl (.int dr), zi me, .inr (26, v), .inr (30, v), .inr (34, v), .inr (35, v)])))
    (k1 : (1000 ≤ (l : Int)) → Q (.inl none) c s h)
    (k2 : ((l : Int) < 1000) → ((m - stay) ≤ (l : Int)) → Q (.inl none) c s h)
    (k3 : ((l : Int) < 1000) → ((l : Int) < (m - stay)) → zX d 46 40 [(0, .inr (20, v)), (2, zi m), (3, zi stay), (4, zi (l : Int)), (5, zi 0)] [] c s h Q) :
    zX d 46 21 [(0, .inr (20, v)), (2, zi m), (3, zi stay), (4, zi (l : Int))] [] c s h Q := by
  refine zX.sn 1 (pc2 := 23) (l2 := [(0, .inr (20, v)), (2, zi m), (3, zi stay), (4, zi (l : Int))]) (st2 := [zi (l : Int)]) rfl ?_
  refine zX.sn 1 (pc2 := 26) (l2 := [(0, .inr (20, v)), (2, zi m), (3, zi stay), (4, zi (l : Int))]) (st2 := [zi 1000, zi (l : Int)]) rfl ?_
  refine zX.icmp (tgt := 96) ⟨rfl, rfl⟩ rfl (by omega) (by omega) (fun (e1 : 1000 ≤ (l : Int)) => ?_) (fun (e1 : (l : Int) < 1000) => ?_)
  · refine zX.ret rfl rfl ?_
    exact k1 e1
  · refine zX.sn 1 (pc2 := 31) (l2 := [(0, .inr (20, v)), (2, zi m), (3, zi stay), (4, zi (l : Int))]) (st2 := [zi (l : Int)]) rfl ?_
    refine zX.sn 1 (pc2 := 32) (l2 := [(0, .inr (20, v)), (2, zi m), (3, zi stay), (4, zi (l : Int))]) (st2 := [zi m, zi (l : Int)]) rfl ?_
    refine zX.sn 1 (pc2 := 33) (l2 := [(0, .inr (20, v)), (2, zi m), (3, zi stay), (4, zi (l : Int))]) (st2 := [zi stay, zi m, zi (l : Int)]) rfl ?_
    refine zX.isub ⟨rfl, rfl⟩ ?_
    refine zX.icmp (tgt := 96) ⟨rfl, rfl⟩ rfl (by omega) (by omega) (fun (e2 : (m - stay) ≤ (l : Int)) => ?_) (fun (e2 : (l : Int) < (m - stay)) => ?_)
    · refine zX.ret rfl rfl ?_
      exact k2 e1 e2
    · refine zX.sn 1 (pc2 := 38) (l2 := [(0, .inr (20, v)), (2, zi m), (3, zi stay), (4, zi (l : Int))]) (st2 := [zi 0]) rfl ?_
      refine zX.sn 1 (pc2 := 40) (l2 := [(5, zi 0), (0, .inr (20, v)), (2, zi m), (3, zi stay), (4, zi (l : Int))]) (st2 := []) rfl ?_
      refine zX.re [(0, .inr (20, v)), (2, zi m), (3, zi stay), (4, zi (l : Int)), (5, zi 0)] [1, 2, 3, 4, 0] [5, 0, 2, 3, 4] rfl rfl (by decide) ?_
      exact k3 e1 e2

set_option maxHeartbeats 4000000 in
theorem r_slg2 {d c s : Nat} {h : xH} {Q : xR → Nat → Nat → xH → Prop} {v sz gr : Nat} {fi me : Int} {dr : Int32} {fn fs fg : Nat → Int32} {ff : Nat → Int} {m stay : Int} {l k : Nat} {hd : Nat → Int32} (hvr : zVr v fi sz gr) (hv : v < 5) (hsz : 1 ≤ sz ∧ sz ≤ 200) (hgr : gr ≤ 200) (hme : me = 99 ∨ me = 115 ∨ me = 109) (hm : -1 ≤ m ∧ m < 1000) (hst : 0 ≤ stay ∧ stay ≤ 1000) (hl : l < 1000) (hk : k ≤ 8) (H_20_v : h (20, v) = some (.inl (6, [zi (v : Int), zi (zbi false), zi fi, zi (sz : Int), zi (gr : Int), .inr (2, 0), .inr (21, v), .inr (23, v), .inr (25, v), .inl (.int dr), zi me, .inr (26, v), .inr (30, v), .inr (34, v), .inr (35, v)]))) (H_25_v : h (25, v) = some (.inr (0, 8, zI hd))) (P_rows : zTal h 26 v 8001 fn fs fg)
    (k1 : (8 ≤ (k : Int)) → zX (d + 2) 46 21 [(0, .inr (20, v)), (2, zi m), (3, zi stay), (4, zi ((l : Int) + 1))] [] c s h Q)
    (k2 : ((k : Int) < 8) → (¬ 0 < fn ((l * 8) + k)) → zX (d + 2) 46 40 [(0, .inr (20, v)), (2, zi m), (3, zi stay), (4, zi (l : Int)), (5, zi ((k : Int) + 1))] [] c s h Q)
    (k3 : ((k : Int) < 8) → (0 < fn ((l * 8) + k)) → ∀ h' : xH, h' (25, v) = some (.inr (0, 8, zI (zfi hd k (hd k + Int32.ofInt (-1))))) → zTal h' 26 v 8001 (zfi fn ((l * 8) + k) 0) (zfi fs ((l * 8) + k) 0) (zfi fg ((l * 8) + k) 0) → (∀ za zb : Nat, ¬ ((za = 25 ∧ zb = v) ∨ (26 ≤ za ∧ za < 26 + 4 ∧ zb = v)) → h' (za, zb) = h (za, zb)) → zX (d + 2) 46 40 [(0, .inr (20, v)), (2, zi m), (3, zi stay), (4, zi (l : Int)), (5, zi ((k : Int) + 1))] [] c s h' Q) :
    zX (d + 2) 46 40 [(0, .inr (20, v)), (2, zi m), (3, zi stay), (4, zi (l : Int)), (5, zi (k : Int))] [] c s h Q := by
  refine zX.sn 1 (pc2 := 42) (l2 := [(0, .inr (20, v)), (2, zi m), (3, zi stay), (4, zi (l : Int)), (5, zi (k : Int))]) (st2 := [zi (k : Int)]) rfl ?_
  refine zX.sn 1 (pc2 := 44) (l2 := [(0, .inr (20, v)), (2, zi m), (3, zi stay), (4, zi (l : Int)), (5, zi (k : Int))]) (st2 := [zi 8, zi (k : Int)]) rfl ?_
  refine zX.icmp (tgt := 90) ⟨rfl, rfl⟩ rfl (by omega) (by omega) (fun (e1 : 8 ≤ (k : Int)) => ?_) (fun (e1 : (k : Int) < 8) => ?_)
  · refine zX.s1 (pc2 := 93) (l2 := [(4, zi ((l : Int) + 1)), (0, .inr (20, v)), (2, zi m), (3, zi stay), (5, zi (k : Int))]) (st2 := []) ⟨rfl, rfl⟩ (by rw [show (zi ((l : Int) + 1) : xV) = .inl (.int (Int32.ofInt (l : Int) + 1)) from congrArg (fun z => (.inl (.int z) : xV)) (Int32.ofInt_add _ _)]; rfl) ?_
    refine zX.sn 1 (pc2 := 21) (l2 := [(4, zi ((l : Int) + 1)), (0, .inr (20, v)), (2, zi m), (3, zi stay), (5, zi (k : Int))]) (st2 := []) rfl ?_
    refine zX.re [(0, .inr (20, v)), (2, zi m), (3, zi stay), (4, zi ((l : Int) + 1))] [1, 2, 3, 0] [4, 0, 2, 3, 5] rfl rfl (by decide) ?_
    exact k1 e1
  · refine zX.sn 1 (pc2 := 49) (l2 := [(0, .inr (20, v)), (2, zi m), (3, zi stay), (4, zi (l : Int)), (5, zi (k : Int))]) (st2 := [zi (l : Int)]) rfl ?_
    refine zX.sn 1 (pc2 := 51) (l2 := [(0, .inr (20, v)), (2, zi m), (3, zi stay), (4, zi (l : Int)), (5, zi (k : Int))]) (st2 := [zi (k : Int), zi (l : Int)]) rfl ?_
    refine zX.call (mid2 := 36) (as := [zi (l : Int), zi (k : Int)]) (rest := []) ⟨rfl, rfl⟩ (fun _ => rfl) rfl ⟨Nat.le_of_ble_eq_true rfl, Nat.le_of_ble_eq_true rfl⟩ ?_
    show zX _ 36 0 [(0, zi (l : Int)), (1, zi (k : Int))] [] c s _ _
    refine zX.sn 1 (pc2 := 1) (l2 := [(0, zi (l : Int)), (1, zi (k : Int))]) (st2 := [zi (l : Int)]) rfl ?_
    refine zX.sn 1 (pc2 := 3) (l2 := [(0, zi (l : Int)), (1, zi (k : Int))]) (st2 := [zi 8, zi (l : Int)]) rfl ?_
    refine zX.imul ⟨rfl, rfl⟩ ?_
    refine zX.sn 1 (pc2 := 5) (l2 := [(0, zi (l : Int)), (1, zi (k : Int))]) (st2 := [zi (k : Int), zi ((l : Int) * 8)]) rfl ?_
    refine zX.iadd ⟨rfl, rfl⟩ ?_
    refine zX.ret rfl rfl ?_
    show zX _ 46 54 [(0, .inr (20, v)), (2, zi m), (3, zi stay), (4, zi (l : Int)), (5, zi (k : Int))] [zi (((l : Int) * 8) + (k : Int))] c s _ _
    refine zX.sn 1 (pc2 := 56) (l2 := [(6, zi (((l : Int) * 8) + (k : Int))), (0, .inr (20, v)), (2, zi m), (3, zi stay), (4, zi (l : Int)), (5, zi (k : Int))]) (st2 := []) rfl ?_
    refine zX.sn 1 (pc2 := 57) (l2 := [(6, zi (((l : Int) * 8) + (k : Int))), (0, .inr (20, v)), (2, zi m), (3, zi stay), (4, zi (l : Int)), (5, zi (k : Int))]) (st2 := [.inr (20, v)]) rfl ?_
    refine zX.getf ⟨rfl, rfl⟩ H_20_v rfl rfl ?_
    refine zX.sn 1 (pc2 := 62) (l2 := [(6, zi (((l : Int) * 8) + (k : Int))), (0, .inr (20, v)), (2, zi m), (3, zi stay), (4, zi (l : Int)), (5, zi (k : Int))]) (st2 := [zi (((l : Int) * 8) + (k : Int)), .inr (26, v)]) rfl ?_
    refine zX.call (mid2 := 53) (as := [.inr (26, v), zi (((l : Int) * 8) + (k : Int))]) (rest := []) ⟨rfl, rfl⟩ (fun _ => rfl) (zX.inv rfl (P_rows.1) rfl rfl) ⟨Nat.le_of_ble_eq_true rfl, Nat.le_of_ble_eq_true rfl⟩ ?_
    refine s_has (k := ((l * 8) + k)) (by omega) (by omega) (by omega) (by omega) P_rows (fun (e2 : ¬ 0 < fn ((l * 8) + k)) => ?_) (fun (e2 : 0 < fn ((l * 8) + k)) => ?_)
    · show zX _ 46 65 [(6, zi (((l : Int) * 8) + (k : Int))), (0, .inr (20, v)), (2, zi m), (3, zi stay), (4, zi (l : Int)), (5, zi (k : Int))] [zi 0] c s _ _
      refine zX.icmp0 (tgt := 84) ⟨rfl, rfl⟩ rfl (by omega) (fun (e3 : 0 = 0) => ?_) (fun (zz : ¬ 0 = 0) => absurd zz (by omega))
      refine zX.s1 (pc2 := 87) (l2 := [(5, zi ((k : Int) + 1)), (6, zi (((l : Int) * 8) + (k : Int))), (0, .inr (20, v)), (2, zi m), (3, zi stay), (4, zi (l : Int))]) (st2 := []) ⟨rfl, rfl⟩ (by rw [show (zi ((k : Int) + 1) : xV) = .inl (.int (Int32.ofInt (k : Int) + 1)) from congrArg (fun z => (.inl (.int z) : xV)) (Int32.ofInt_add _ _)]; rfl) ?_
      refine zX.sn 1 (pc2 := 40) (l2 := [(5, zi ((k : Int) + 1)), (6, zi (((l : Int) * 8) + (k : Int))), (0, .inr (20, v)), (2, zi m), (3, zi stay), (4, zi (l : Int))]) (st2 := []) rfl ?_
      refine zX.re [(0, .inr (20, v)), (2, zi m), (3, zi stay), (4, zi (l : Int)), (5, zi ((k : Int) + 1))] [2, 3, 4, 5, 0] [5, 6, 0, 2, 3, 4] rfl rfl (by decide) ?_
      exact k2 e1 e2
    · show zX _ 46 65 [(6, zi (((l : Int) * 8) + (k : Int))), (0, .inr (20, v)), (2, zi m), (3, zi stay), (4, zi (l : Int)), (5, zi (k : Int))] [zi 1] c s _ _
      refine zX.icmp0 (tgt := 84) ⟨rfl, rfl⟩ rfl (by omega) (fun (zz : 1 = 0) => absurd zz (by omega)) (fun (e4 : ¬ 1 = 0) => ?_)
      refine zX.sn 1 (pc2 := 69) (l2 := [(6, zi (((l : Int) * 8) + (k : Int))), (0, .inr (20, v)), (2, zi m), (3, zi stay), (4, zi (l : Int)), (5, zi (k : Int))]) (st2 := [.inr (20, v)]) rfl ?_
      refine zX.getf ⟨rfl, rfl⟩ H_20_v rfl rfl ?_
      refine zX.sn 1 (pc2 := 74) (l2 := [(6, zi (((l : Int) * 8) + (k : Int))), (0, .inr (20, v)), (2, zi m), (3, zi stay), (4, zi (l : Int)), (5, zi (k : Int))]) (st2 := [zi (((l : Int) * 8) + (k : Int)), .inr (26, v)]) rfl ?_
      refine zX.call (mid2 := 56) (as := [.inr (26, v), zi (((l : Int) * 8) + (k : Int))]) (rest := []) ⟨rfl, rfl⟩ (fun _ => rfl) (zX.inv rfl (P_rows.1) rfl rfl) ⟨Nat.le_of_ble_eq_true rfl, Nat.le_of_ble_eq_true rfl⟩ ?_
      refine s_tclr (k := ((l * 8) + k)) (by omega) (by omega) (by omega) (by omega) P_rows (fun h1 hv1 hF1 => ?_)
      show zX _ 46 77 [(6, zi (((l : Int) * 8) + (k : Int))), (0, .inr (20, v)), (2, zi m), (3, zi stay), (4, zi (l : Int)), (5, zi (k : Int))] [] c s _ _
      refine zX.sn 1 (pc2 := 78) (l2 := [(6, zi (((l : Int) * 8) + (k : Int))), (0, .inr (20, v)), (2, zi m), (3, zi stay), (4, zi (l : Int)), (5, zi (k : Int))]) (st2 := [.inr (20, v)]) rfl ?_
      refine zX.sn 1 (pc2 := 80) (l2 := [(6, zi (((l : Int) * 8) + (k : Int))), (0, .inr (20, v)), (2, zi m), (3, zi stay), (4, zi (l : Int)), (5, zi (k : Int))]) (st2 := [zi (k : Int), .inr (20, v)]) rfl ?_
      refine zX.sn 1 (pc2 := 81) (l2 := [(6, zi (((l : Int) * 8) + (k : Int))), (0, .inr (20, v)), (2, zi m), (3, zi stay), (4, zi (l : Int)), (5, zi (k : Int))]) (st2 := [zi (-1), zi (k : Int), .inr (20, v)]) rfl ?_
      refine zX.call (mid2 := 81) (as := [.inr (20, v), zi (k : Int), zi (-1)]) (rest := []) ⟨rfl, rfl⟩ (fun _ => rfl) (zX.inv rfl ((hF1 20 v (by omega)).trans H_20_v) rfl rfl) ⟨Nat.le_of_ble_eq_true rfl, Nat.le_of_ble_eq_true rfl⟩ ?_
      refine s_hold (ci := 6) (k := k) rfl (by omega) hvr (by omega) (show zVo _ 6 v false fi sz gr _ _ from ((hF1 20 v (by omega)).trans H_20_v)) ((hF1 25 v (by omega)).trans H_25_v) (fun h2 hv2 hF2 => ?_)
      show zX _ 46 84 [(6, zi (((l : Int) * 8) + (k : Int))), (0, .inr (20, v)), (2, zi m), (3, zi stay), (4, zi (l : Int)), (5, zi (k : Int))] [] c s _ _
      refine zX.s1 (pc2 := 87) (l2 := [(5, zi ((k : Int) + 1)), (6, zi (((l : Int) * 8) + (k : Int))), (0, .inr (20, v)), (2, zi m), (3, zi stay), (4, zi (l : Int))]) (st2 := []) ⟨rfl, rfl⟩ (by rw [show (zi ((k : Int) + 1) : xV) = .inl (.int (Int32.ofInt (k : Int) + 1)) from congrArg (fun z => (.inl (.int z) : xV)) (Int32.ofInt_add _ _)]; rfl) ?_
      refine zX.sn 1 (pc2 := 40) (l2 := [(5, zi ((k : Int) + 1)), (6, zi (((l : Int) * 8) + (k : Int))), (0, .inr (20, v)), (2, zi m), (3, zi stay), (4, zi (l : Int))]) (st2 := []) rfl ?_
      refine zX.re [(0, .inr (20, v)), (2, zi m), (3, zi stay), (4, zi (l : Int)), (5, zi ((k : Int) + 1))] [2, 3, 4, 5, 0] [5, 6, 0, 2, 3, 4] rfl rfl (by decide) ?_
      exact k3 e1 e2 _ hv2 (zTal.fr hv1 (fun za zb hi => ((hF2 za zb (by omega)).trans rfl))) (fun za zb hn => ((hF2 za zb (by omega)).trans ((hF1 za zb (by omega)).trans rfl)))

end ZR62
