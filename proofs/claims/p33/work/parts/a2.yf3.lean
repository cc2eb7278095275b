set_option maxRecDepth 100000
section YA2
theorem zi2c {x : Int} (hx : x = 116 ∨ x = 108 ∨ x = 115 ∨ x = 106 ∨ x = 118 ∨ x = 99 ∨ x = 109 ∨ x = 97 ∨ x = 101) : (.inl (.int (UInt32.toInt32 (Int32.toUInt32 (Int32.ofInt x) % 65536))) : xV) = zi x := by
  rcases hx with rfl | rfl | rfl | rfl | rfl | rfl | rfl | rfl | rfl <;> rfl
/-- a view's kind and numbers out of the law's call -/
def vCf (ch me fi : Int) (sz sp gr : Nat) : zCf := if ch = 116 then (9, fi, sz, gr, me, sz) else if ch = 108 then (9, fi, sz, gr, me, sp) else if ch = 115 then (6, fi, sz, gr, me, sp) else if ch = 106 then (2, fi, sz, gr, me, sp) else (8, fi, sz, gr, me, sp)
variable {d : Nat} {Q : xR → Nat → Nat → xH → Prop} {sc : Option xO} {h : xH} {M c s : Nat} {W : zWl}
theorem v_pre {ch me fi : Int} {sz sp gr : Nat} (hch : ch = 116 ∨ ch = 108 ∨ ch = 115 ∨ ch = 106 ∨ ch = 118) (hme : me = 99 ∨ me = 115 ∨ me = 109) (hfi : fi = 97 ∨ fi = 101) (q : zX d 171 13 [(0, .inr (10, 0)), (1, zi ch), (2, zi me), (3, zi fi), (4, zi (sz : Int)), (5, zi (sp : Int)), (6, zi (gr : Int))] [zi (gr : Int), zi (sp : Int), zi (sz : Int), zi fi, zi me, zi ch, .inr (10, 0)] c s h Q) : zX d 171 0 [(0, .inr (10, 0)), (1, zi ch), (2, zi me), (3, zi fi), (4, zi (sz : Int)), (5, zi (sp : Int)), (6, zi (gr : Int))] [] c s h Q := by
  refine zX.sn 1 (pc2 := 1) (l2 := [(0, .inr (10, 0)), (1, zi ch), (2, zi me), (3, zi fi), (4, zi (sz : Int)), (5, zi (sp : Int)), (6, zi (gr : Int))]) (st2 := [.inr (10, 0)]) rfl ?_
  refine zX.sn 1 (pc2 := 2) (l2 := [(0, .inr (10, 0)), (1, zi ch), (2, zi me), (3, zi fi), (4, zi (sz : Int)), (5, zi (sp : Int)), (6, zi (gr : Int))]) (st2 := [zi ch, .inr (10, 0)]) rfl ?_
  refine zX.sn 1 (pc2 := 3) (l2 := [(0, .inr (10, 0)), (1, zi ch), (2, zi me), (3, zi fi), (4, zi (sz : Int)), (5, zi (sp : Int)), (6, zi (gr : Int))]) (st2 := [.inl (.int (UInt32.toInt32 (Int32.toUInt32 (Int32.ofInt ch) % 65536))), .inr (10, 0)]) rfl ?_
  rw [zi2c (x := ch) (by omega)]
  refine zX.sn 1 (pc2 := 4) (l2 := [(0, .inr (10, 0)), (1, zi ch), (2, zi me), (3, zi fi), (4, zi (sz : Int)), (5, zi (sp : Int)), (6, zi (gr : Int))]) (st2 := [zi me, zi ch, .inr (10, 0)]) rfl ?_
  refine zX.sn 1 (pc2 := 5) (l2 := [(0, .inr (10, 0)), (1, zi ch), (2, zi me), (3, zi fi), (4, zi (sz : Int)), (5, zi (sp : Int)), (6, zi (gr : Int))]) (st2 := [.inl (.int (UInt32.toInt32 (Int32.toUInt32 (Int32.ofInt me) % 65536))), zi ch, .inr (10, 0)]) rfl ?_
  rw [zi2c (x := me) (by omega)]
  refine zX.sn 1 (pc2 := 6) (l2 := [(0, .inr (10, 0)), (1, zi ch), (2, zi me), (3, zi fi), (4, zi (sz : Int)), (5, zi (sp : Int)), (6, zi (gr : Int))]) (st2 := [zi fi, zi me, zi ch, .inr (10, 0)]) rfl ?_
  refine zX.sn 1 (pc2 := 7) (l2 := [(0, .inr (10, 0)), (1, zi ch), (2, zi me), (3, zi fi), (4, zi (sz : Int)), (5, zi (sp : Int)), (6, zi (gr : Int))]) (st2 := [.inl (.int (UInt32.toInt32 (Int32.toUInt32 (Int32.ofInt fi) % 65536))), zi me, zi ch, .inr (10, 0)]) rfl ?_
  rw [zi2c (x := fi) (by omega)]
  refine zX.sn 1 (pc2 := 9) (l2 := [(0, .inr (10, 0)), (1, zi ch), (2, zi me), (3, zi fi), (4, zi (sz : Int)), (5, zi (sp : Int)), (6, zi (gr : Int))]) (st2 := [zi (sz : Int), zi fi, zi me, zi ch, .inr (10, 0)]) rfl ?_
  refine zX.sn 1 (pc2 := 11) (l2 := [(0, .inr (10, 0)), (1, zi ch), (2, zi me), (3, zi fi), (4, zi (sz : Int)), (5, zi (sp : Int)), (6, zi (gr : Int))]) (st2 := [zi (sp : Int), zi (sz : Int), zi fi, zi me, zi ch, .inr (10, 0)]) rfl ?_
  refine zX.sn 1 (pc2 := 13) (l2 := [(0, .inr (10, 0)), (1, zi ch), (2, zi me), (3, zi fi), (4, zi (sz : Int)), (5, zi (sp : Int)), (6, zi (gr : Int))]) (st2 := [zi (gr : Int), zi (sp : Int), zi (sz : Int), zi fi, zi me, zi ch, .inr (10, 0)]) rfl ?_
  exact q
theorem v_z {ch me fi : Int} {sz sp gr : Nat} (hch : ch = 116 ∨ ch = 108 ∨ ch = 115 ∨ ch = 106 ∨ ch = 118) (hme : me = 99 ∨ me = 115 ∨ me = 109) (hfi : fi = 97 ∨ fi = 101) (hF : zFd sc h M W) (q : Q (.inl (some (zi (-1002)))) (c + 1) (s + 6) h) : zX (d + 10) 171 13 [(0, .inr (10, 0)), (1, zi ch), (2, zi me), (3, zi fi), (4, zi 0), (5, zi (sp : Int)), (6, zi (gr : Int))] [zi (gr : Int), zi (sp : Int), zi 0, zi fi, zi me, zi ch, .inr (10, 0)] c s h Q := by
  obtain ⟨N, capv, capj, K, g, hM, hf, hA, hV, hP, hJ, hw, hps, hemp, hsc, hfe, hfv⟩ := id hF
  refine zX.call (mid2 := 103) (as := [.inr (10, 0), zi ch, zi me, zi fi, zi 0, zi (sp : Int), zi (gr : Int)]) (rest := []) ⟨rfl, rfl⟩ (fun _ => rfl) (zX.inv rfl hf rfl rfl) ⟨Nat.le_of_ble_eq_true rfl, Nat.le_of_ble_eq_true rfl⟩ ?_
  refine t_addZ (d := d + 1) hch hme (by omega) ?_
  refine zXK.han (z := (17, 2, 7)) rfl ?_
  show zX _ 171 19 [(0, .inr (10, 0)), (1, zi ch), (2, zi me), (3, zi fi), (4, zi 0), (5, zi (sp : Int)), (6, zi (gr : Int))] [] (c + 1) (s + 6) _ _
  refine zX.sn 1 (pc2 := 22) (l2 := [(0, .inr (10, 0)), (1, zi ch), (2, zi me), (3, zi fi), (4, zi 0), (5, zi (sp : Int)), (6, zi (gr : Int))]) (st2 := [zi (-1002)]) rfl ?_
  refine zX.ret rfl rfl ?_
  exact q
theorem v_st {ch me fi : Int} {sz sp gr : Nat} (hme : me = 99 ∨ me = 115 ∨ me = 109) (hfi : fi = 97 ∨ fi = 101) (hF : zFd sc h M W) (hsz : 1 ≤ sz ∧ sz ≤ 200) (hgr : gr ≤ 200) (hsp : sz < sp ∧ sp ≤ 1000) (q : Q (.inl (some (zi (-1002)))) (c + 1) (s + 6) h) : zX (d + 10) 171 13 [(0, .inr (10, 0)), (1, zi 108), (2, zi me), (3, zi fi), (4, zi (sz : Int)), (5, zi (sp : Int)), (6, zi (gr : Int))] [zi (gr : Int), zi (sp : Int), zi (sz : Int), zi fi, zi me, zi 108, .inr (10, 0)] c s h Q := by
  obtain ⟨N, capv, capj, K, g, hM, hf, hA, hV, hP, hJ, hw, hps, hemp, hsc, hfe, hfv⟩ := id hF
  refine zX.call (mid2 := 103) (as := [.inr (10, 0), zi 108, zi me, zi fi, zi (sz : Int), zi (sp : Int), zi (gr : Int)]) (rest := []) ⟨rfl, rfl⟩ (fun _ => rfl) (zX.inv rfl hf rfl rfl) ⟨Nat.le_of_ble_eq_true rfl, Nat.le_of_ble_eq_true rfl⟩ ?_
  refine t_addStep (d := d + 1) hme (by omega) hsz hgr hsp ?_
  refine zXK.han (z := (17, 2, 7)) rfl ?_
  show zX _ 171 19 [(0, .inr (10, 0)), (1, zi 108), (2, zi me), (3, zi fi), (4, zi (sz : Int)), (5, zi (sp : Int)), (6, zi (gr : Int))] [] (c + 1) (s + 6) _ _
  refine zX.sn 1 (pc2 := 22) (l2 := [(0, .inr (10, 0)), (1, zi 108), (2, zi me), (3, zi fi), (4, zi (sz : Int)), (5, zi (sp : Int)), (6, zi (gr : Int))]) (st2 := [zi (-1002)]) rfl ?_
  refine zX.ret rfl rfl ?_
  exact q
theorem v_full {ch me fi : Int} {sz sp gr : Nat} (hch : ch = 116 ∨ ch = 108 ∨ ch = 115 ∨ ch = 106 ∨ ch = 118) (hme : me = 99 ∨ me = 115 ∨ me = 109) (hfi : fi = 97 ∨ fi = 101) (hF : zFd sc h M W) (hsz : 1 ≤ sz ∧ sz ≤ 200) (hgr : gr ≤ 200) (hsp : 1 ≤ sp ∧ sp ≤ 1000) (hst : ch = 108 → sp ≤ sz) (hno : 5 ≤ (wd_L W).length ∨ wd_rd W = true ∨ wd_ct W = true) (q : Q (.inl (some (zi (-1003)))) (c + 1) (s + 6) h) : zX (d + 10) 171 13 [(0, .inr (10, 0)), (1, zi ch), (2, zi me), (3, zi fi), (4, zi (sz : Int)), (5, zi (sp : Int)), (6, zi (gr : Int))] [zi (gr : Int), zi (sp : Int), zi (sz : Int), zi fi, zi me, zi ch, .inr (10, 0)] c s h Q := by
  obtain ⟨N, capv, capj, K, g, hM, hf, hA, hV, hP, hJ, hw, hps, hemp, hsc, hfe, hfv⟩ := id hF
  refine zX.call (mid2 := 103) (as := [.inr (10, 0), zi ch, zi me, zi fi, zi (sz : Int), zi (sp : Int), zi (gr : Int)]) (rest := []) ⟨rfl, rfl⟩ (fun _ => rfl) (zX.inv rfl hf rfl rfl) ⟨Nat.le_of_ble_eq_true rfl, Nat.le_of_ble_eq_true rfl⟩ ?_
  refine t_addFull (d := d + 1) hch hme (by omega) hsz hgr hsp hst hV.2.1.1 hno hf hA ?_
  refine zXK.han (z := (23, 2, 7)) rfl ?_
  show zX _ 171 25 [(0, .inr (10, 0)), (1, zi ch), (2, zi me), (3, zi fi), (4, zi (sz : Int)), (5, zi (sp : Int)), (6, zi (gr : Int))] [] (c + 1) (s + 6) _ _
  refine zX.sn 1 (pc2 := 28) (l2 := [(0, .inr (10, 0)), (1, zi ch), (2, zi me), (3, zi fi), (4, zi (sz : Int)), (5, zi (sp : Int)), (6, zi (gr : Int))]) (st2 := [zi (-1003)]) rfl ?_
  refine zX.ret rfl rfl ?_
  exact q
set_option maxHeartbeats 1000000 in
theorem v_ok {ch me fi : Int} {sz sp gr : Nat} (hch : ch = 116 ∨ ch = 108 ∨ ch = 115 ∨ ch = 106 ∨ ch = 118) (hme : me = 99 ∨ me = 115 ∨ me = 109) (hfi : fi = 97 ∨ fi = 101) (hF : zFd sc h M W) (hsz : 1 ≤ sz ∧ sz ≤ 200) (hgr : gr ≤ 200) (hsp : ch = 108 → 1 ≤ sp ∧ sp ≤ sz) (hl : (wd_L W).length < 5) (hrd : wd_rd W = false) (hct : wd_ct W = false)
    (q : ∀ h1 M1 c1 s1, zFd sc h1 M1 (wAdd W (vCf ch me fi sz sp gr)) → zCs 30 80000 M c s M1 c1 s1 → Q (.inl (some (zi ((wd_L W).length : Int)))) c1 s1 h1) : zX (d + 10) 171 13 [(0, .inr (10, 0)), (1, zi ch), (2, zi me), (3, zi fi), (4, zi (sz : Int)), (5, zi (sp : Int)), (6, zi (gr : Int))] [zi (gr : Int), zi (sp : Int), zi (sz : Int), zi fi, zi me, zi ch, .inr (10, 0)] c s h Q := by
  obtain ⟨N, capv, capj, K, g, hM, hf, hA, hV, hP, hJ, hw, hps, hemp, hsc, hfe, hfv⟩ := id hF
  have hf2 : h (10, 0) = some (.inl (10, zFn (zFf false false (wd_uw W) (wd_pr W) (wd_cu W) (wd_pj W) (wd_cj W)))) := by
    have := hf
    rw [show wd_fs W = zFf false false (wd_uw W) (wd_pr W) (wd_cu W) (wd_pj W) (wd_cj W) from by show zFf (wd_rd W) (wd_ct W) _ _ _ _ _ = _; rw [hrd, hct]] at this
    exact this
  have hfv2 : ∀ a b : Nat, 20 ≤ a → a < 60 → b % 8 = (wd_L W).length → h (a, b) = none := fun a b z1 z2 z3 => hfv hrd a b z1 z2 (by omega)
  have fin : ∀ (C : zCf) (h1 : xH) (cap1 c1 s1 : Nat), vCf ch me fi sz sp gr = C → zVa h1 N K (wd_L W ++ [(C, zS0)]) (wd_O W) → zAL h1 13 0 cap1 (zVn (wd_L W ++ [(C, zS0)])) → (∀ a b : Nat, ¬ (20 ≤ a ∧ a < 60 ∧ b % 8 = (wd_L W).length ∨ 13 ≤ a ∧ a < 15) → h1 (a, b) = h (a, b)) → capv ≤ cap1 ∧ c1 + capv ≤ c + cap1 + 30 ∧ s1 + 4 * capv ≤ s + 4 * cap1 + 80000 → Q (.inl (some (zi ((wd_L W).length : Int)))) c1 s1 h1 := by
    intro C h1 cap1 c1 s1 hC b1 b2 b3 b4
    refine q h1 (N + zKm K 5 + cap1 + capj + zPc (wd_P W)) c1 s1 ⟨N, cap1, capj, K, g, rfl, (b3 _ _ (by omega)).trans hf, ?_, ?_, hP.mv (fun a b z => b3 a b (by omega)), hJ.mv9 (fun a b z => b3 a b (by omega)) (fun b o ho => (b3 _ _ (by omega)).trans ho), (b3 _ _ (by omega)).trans hw, (b3 _ _ (by omega)).trans hps, (b3 _ _ (by omega)).trans hemp, (b3 _ _ (by omega)).trans hsc, fun q i hq hi => (b3 _ _ (by omega)).trans (hfe q i hq hi), fun hr a b z1 z2 z3 => ?_⟩ (by have := b4.1; have := b4.2.1; have := b4.2.2; omega)
    · show zAL h1 13 0 cap1 (zVn (wd_L W ++ [(vCf ch me fi sz sp gr, zS0)]))
      rw [hC]
      exact b2
    · show zVa h1 N K (wd_L W ++ [(vCf ch me fi sz sp gr, zS0)]) (wd_O W)
      rw [hC]
      exact b1
    · have z3 : (wd_L W ++ [(vCf ch me fi sz sp gr, zS0)]).length ≤ b % 8 := z3
      rw [List.length_append] at z3
      have z3 : (wd_L W).length + 1 ≤ b % 8 := z3
      exact (b3 _ _ (by omega)).trans (hfv hr a b z1 z2 (by omega))
  rcases hch with rfl | rfl | rfl | rfl | rfl
  · refine zX.call (mid2 := 103) (as := [.inr (10, 0), zi 116, zi me, zi fi, zi (sz : Int), zi (sp : Int), zi (gr : Int)]) (rest := []) ⟨rfl, rfl⟩ (fun _ => rfl) (zX.inv rfl hf rfl rfl) ⟨Nat.le_of_ble_eq_true rfl, Nat.le_of_ble_eq_true rfl⟩ ?_
    refine s_addT (d := d) hme (by omega) hsz hgr rfl hl hemp hf2 hA hV hfv2 (fun h1 cap1 c1 s1 b1 b2 b3 b4 => ?_)
    show zX _ 171 16 [(0, .inr (10, 0)), (1, zi 116), (2, zi me), (3, zi fi), (4, zi (sz : Int)), (5, zi (sp : Int)), (6, zi (gr : Int))] [zi ((wd_L W).length : Int)] c1 s1 _ _
    refine zX.ret rfl rfl ?_
    exact fin (9, fi, sz, gr, me, sz) h1 cap1 c1 s1 rfl b1 b2 b3 b4
  · refine zX.call (mid2 := 103) (as := [.inr (10, 0), zi 108, zi me, zi fi, zi (sz : Int), zi (sp : Int), zi (gr : Int)]) (rest := []) ⟨rfl, rfl⟩ (fun _ => rfl) (zX.inv rfl hf rfl rfl) ⟨Nat.le_of_ble_eq_true rfl, Nat.le_of_ble_eq_true rfl⟩ ?_
    refine s_addL (d := d) hme (by omega) hsz hgr (hsp rfl) rfl hl hemp hf2 hA hV hfv2 (fun h1 cap1 c1 s1 b1 b2 b3 b4 => ?_)
    show zX _ 171 16 [(0, .inr (10, 0)), (1, zi 108), (2, zi me), (3, zi fi), (4, zi (sz : Int)), (5, zi (sp : Int)), (6, zi (gr : Int))] [zi ((wd_L W).length : Int)] c1 s1 _ _
    refine zX.ret rfl rfl ?_
    exact fin (9, fi, sz, gr, me, sp) h1 cap1 c1 s1 rfl b1 b2 b3 b4
  · refine zX.call (mid2 := 103) (as := [.inr (10, 0), zi 115, zi me, zi fi, zi (sz : Int), zi (sp : Int), zi (gr : Int)]) (rest := []) ⟨rfl, rfl⟩ (fun _ => rfl) (zX.inv rfl hf rfl rfl) ⟨Nat.le_of_ble_eq_true rfl, Nat.le_of_ble_eq_true rfl⟩ ?_
    refine s_addS (d := d) (sp := sp) hme (by omega) hsz hgr rfl hl hemp hf2 hA hV hfv2 (fun h1 cap1 c1 s1 b1 b2 b3 b4 => ?_)
    show zX _ 171 16 [(0, .inr (10, 0)), (1, zi 115), (2, zi me), (3, zi fi), (4, zi (sz : Int)), (5, zi (sp : Int)), (6, zi (gr : Int))] [zi ((wd_L W).length : Int)] c1 s1 _ _
    refine zX.ret rfl rfl ?_
    exact fin (6, fi, sz, gr, me, sp) h1 cap1 c1 s1 rfl b1 b2 b3 b4
  · refine zX.call (mid2 := 103) (as := [.inr (10, 0), zi 106, zi me, zi fi, zi (sz : Int), zi (sp : Int), zi (gr : Int)]) (rest := []) ⟨rfl, rfl⟩ (fun _ => rfl) (zX.inv rfl hf rfl rfl) ⟨Nat.le_of_ble_eq_true rfl, Nat.le_of_ble_eq_true rfl⟩ ?_
    refine s_addJ (d := d) (sp := sp) hme (by omega) hsz hgr rfl hl hemp hf2 hA hV hfv2 (fun h1 cap1 c1 s1 b1 b2 b3 b4 => ?_)
    show zX _ 171 16 [(0, .inr (10, 0)), (1, zi 106), (2, zi me), (3, zi fi), (4, zi (sz : Int)), (5, zi (sp : Int)), (6, zi (gr : Int))] [zi ((wd_L W).length : Int)] c1 s1 _ _
    refine zX.ret rfl rfl ?_
    exact fin (2, fi, sz, gr, me, sp) h1 cap1 c1 s1 rfl b1 b2 b3 b4
  · refine zX.call (mid2 := 103) (as := [.inr (10, 0), zi 118, zi me, zi fi, zi (sz : Int), zi (sp : Int), zi (gr : Int)]) (rest := []) ⟨rfl, rfl⟩ (fun _ => rfl) (zX.inv rfl hf rfl rfl) ⟨Nat.le_of_ble_eq_true rfl, Nat.le_of_ble_eq_true rfl⟩ ?_
    refine s_addV (d := d) (sp := sp) hme (by omega) hsz hgr rfl hl hemp hf2 hA hV hfv2 (fun h1 cap1 c1 s1 b1 b2 b3 b4 => ?_)
    show zX _ 171 16 [(0, .inr (10, 0)), (1, zi 118), (2, zi me), (3, zi fi), (4, zi (sz : Int)), (5, zi (sp : Int)), (6, zi (gr : Int))] [zi ((wd_L W).length : Int)] c1 s1 _ _
    refine zX.ret rfl rfl ?_
    exact fin (8, fi, sz, gr, me, sp) h1 cap1 c1 s1 rfl b1 b2 b3 b4
/-- the script's k-th number, or what stands for it -/
def zce (n : Nat) (f : Nat → Int32) (k : Nat) : Int32 := if k < n then f k else Int32.ofInt (660001 * (k : Int) + 29)
theorem s_cell {n k : Nat} {f : Nat → Int32} (hs0 : h (0, 0) = some (.inr (9, n, zI f))) (hn : n ≤ 1000) (hk : k < 1000) (q : Q (.inl (some (.inl (.int (zce n f k))))) c s h) : zX d 168 0 [(0, .inr (0, 0)), (1, zi (k : Int))] [] c s h Q := by
  refine zX.sn 1 (pc2 := 1) (l2 := [(0, .inr (0, 0)), (1, zi (k : Int))]) (st2 := [zi (k : Int)]) rfl ?_
  refine zX.sn 1 (pc2 := 2) (l2 := [(0, .inr (0, 0)), (1, zi (k : Int))]) (st2 := [.inr (0, 0), zi (k : Int)]) rfl ?_
  refine zX.alen ⟨rfl, rfl⟩ hs0 ?_
  refine zX.icmp (tgt := 12) ⟨rfl, rfl⟩ rfl (by omega) (by omega) (fun (z : (n : Int) ≤ (k : Int)) => ?_) (fun (z : (k : Int) < (n : Int)) => ?_)
  · refine zX.s2 [] (pc2 := 14) (l2 := [(0, .inr (0, 0)), (1, zi (k : Int))]) (st2 := [zi 660001]) ⟨rfl, rfl⟩ (fun _ => rfl) rfl (fun _ => rfl) ?_
    refine zX.sn 1 (pc2 := 15) (l2 := [(0, .inr (0, 0)), (1, zi (k : Int))]) (st2 := [zi (k : Int), zi 660001]) rfl ?_
    refine zX.imul ⟨rfl, rfl⟩ ?_
    refine zX.sn 1 (pc2 := 18) (l2 := [(0, .inr (0, 0)), (1, zi (k : Int))]) (st2 := [zi 29, zi (660001 * (k : Int))]) rfl ?_
    refine zX.iadd ⟨rfl, rfl⟩ ?_
    refine zX.ret rfl rfl ?_
    rw [show zce n f k = Int32.ofInt (660001 * (k : Int) + 29) from if_neg (by omega)] at q
    exact q
  · refine zX.sn 1 (pc2 := 7) (l2 := [(0, .inr (0, 0)), (1, zi (k : Int))]) (st2 := [.inr (0, 0)]) rfl ?_
    refine zX.sn 1 (pc2 := 8) (l2 := [(0, .inr (0, 0)), (1, zi (k : Int))]) (st2 := [zi (k : Int), .inr (0, 0)]) rfl ?_
    refine zX.sald (j := k) ⟨rfl, rfl⟩ hs0 rfl (by omega) (by omega) ?_
    show zX _ 168 9 [(0, .inr (0, 0)), (1, zi (k : Int))] [.inl (.int (f k))] c s _ _
    refine zX.sn 1 (pc2 := 19) (l2 := [(0, .inr (0, 0)), (1, zi (k : Int))]) (st2 := [.inl (.int (f k))]) rfl ?_
    refine zX.ret rfl rfl ?_
    rw [show zce n f k = f k from if_pos (by omega)] at q
    exact q
/-- a number below n -/
def zlo (x : Int32) (n : Nat) : Nat := zmsk x 2147483647 % n
theorem zlo_lt {x : Int32} {n : Nat} (hn : 0 < n) : zlo x n < n := Nat.mod_lt _ hn
theorem s_low {x : Int32} {n : Nat} (hn : 0 < n ∧ n < 1000) (q : Q (.inl (some (zi (zlo x n : Int)))) c s h) : zX d 169 0 [(0, .inl (.int x)), (1, zi (n : Int))] [] c s h Q := by
  refine zX.sn 1 (pc2 := 1) (l2 := [(0, .inl (.int x)), (1, zi (n : Int))]) (st2 := [.inl (.int x)]) rfl ?_
  refine zX.s2 [] (pc2 := 3) (l2 := [(0, .inl (.int x)), (1, zi (n : Int))]) (st2 := [zi 2147483647, .inl (.int x)]) ⟨rfl, rfl⟩ (fun _ => rfl) rfl (fun _ => rfl) ?_
  refine zX.sn 1 (pc2 := 4) (l2 := [(0, .inl (.int x)), (1, zi (n : Int))]) (st2 := [.inl (.int (x &&& (Int32.ofInt 2147483647)))]) rfl ?_
  have hz : ((.inl (.int (x &&& Int32.ofInt ((2147483647 : Nat) : Int))) : xV)) = zi (zmsk x 2147483647 : Int) := congrArg (fun z => (.inl (.int z) : xV)) (zmsk_eq _ _)
  have hle := zmsk_le x (m := 2147483647) (by omega)
  show zX _ 169 4 [(0, .inl (.int x)), (1, zi (n : Int))] [.inl (.int (x &&& Int32.ofInt ((2147483647 : Nat) : Int)))] c s _ _
  rw [hz]
  refine zX.sn 1 (pc2 := 5) (l2 := [(0, .inl (.int x)), (1, zi (n : Int))]) (st2 := [zi (n : Int), zi (zmsk x 2147483647 : Int)]) rfl ?_
  refine zX.irem ⟨rfl, rfl⟩ (by omega) (by omega) ?_
  refine zX.ret rfl rfl ?_
  exact q
end YA2
