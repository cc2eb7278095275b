set_option maxRecDepth 100000
section YA7
variable {d : Nat} {Q : xR → Nat → Nat → xH → Prop} {sc : Option xO} {h : xH} {M c s : Nat} {W W1 : zWl} {I : Nat → zWl → Prop} {e : Nat}
theorem zFd.l5 (hF : zFd sc h M W) : (wd_L W).length ≤ 5 := by
  obtain ⟨N, capv, capj, K, g, hM, hf, hA, hV, hP, hJ, hw, hps, hemp, hsc, hfe, hfv⟩ := id hF
  exact hV.2.1.1
set_option maxHeartbeats 2000000 in
theorem o_vw3 {hh : Int32} {ch me fi : Int} (hG : zGd I) (he : e < 60) (hI : I e W) (hF : zFd sc h M W) (hch : ch = 116 ∨ ch = 108 ∨ ch = 115 ∨ ch = 106 ∨ ch = 118) (hme : me = 99 ∨ me = 115 ∨ me = 109) (hfi : fi = 97 ∨ fi = 101)
    (q : ∀ W1 h1 M1 c1 s1, I (e + 1) W1 → zFd sc h1 M1 W1 → zCs 40 80200 M c s M1 c1 s1 → zX (d + 12) 174 18 [(0, .inr (0, 0)), (1, .inr (10, 0)), (2, zi ((wd_L W1).length : Int)), (3, zi (wd_pz W1)), (4, zi (wd_pr W1 : Int)), (5, zi ((e + 1 : Nat) : Int))] [] c1 s1 h1 Q) : zX (d + 12) 174 240 [(0, .inr (0, 0)), (1, .inr (10, 0)), (2, zi ((wd_L W).length : Int)), (3, zi (wd_pz W)), (4, zi (wd_pr W : Int)), (5, zi (e : Int)), (7, .inl (.int hh)), (10, .inl (.long (zsta W))), (12, zi 0)] [zi fi, zi me, zi ch, .inr (10, 0)] c s h Q := by
  have hc := hG.1 _ _ hI
  have hO := hF.ole
  have hp1 := hc.2.1.1
  have hl5 := hF.l5
  refine zX.sn 1 (pc2 := 242) (l2 := [(0, .inr (0, 0)), (1, .inr (10, 0)), (2, zi ((wd_L W).length : Int)), (3, zi (wd_pz W)), (4, zi (wd_pr W : Int)), (5, zi (e : Int)), (7, .inl (.int hh)), (10, .inl (.long (zsta W))), (12, zi 0)]) (st2 := [.inl (.int hh), zi fi, zi me, zi ch, .inr (10, 0)]) rfl ?_
  refine zX.sn 1 (pc2 := 244) (l2 := [(0, .inr (0, 0)), (1, .inr (10, 0)), (2, zi ((wd_L W).length : Int)), (3, zi (wd_pz W)), (4, zi (wd_pr W : Int)), (5, zi (e : Int)), (7, .inl (.int hh)), (10, .inl (.long (zsta W))), (12, zi 0)]) (st2 := [zi 7, .inl (.int hh), zi fi, zi me, zi ch, .inr (10, 0)]) rfl ?_
  refine zX.sn 1 (pc2 := 245) (l2 := [(0, .inr (0, 0)), (1, .inr (10, 0)), (2, zi ((wd_L W).length : Int)), (3, zi (wd_pz W)), (4, zi (wd_pr W : Int)), (5, zi (e : Int)), (7, .inl (.int hh)), (10, .inl (.long (zsta W))), (12, zi 0)]) (st2 := [.inl (.int (hh >>> ((Int32.ofInt 7) &&& 31))), zi fi, zi me, zi ch, .inr (10, 0)]) rfl ?_
  refine zX.sn 1 (pc2 := 247) (l2 := [(0, .inr (0, 0)), (1, .inr (10, 0)), (2, zi ((wd_L W).length : Int)), (3, zi (wd_pz W)), (4, zi (wd_pr W : Int)), (5, zi (e : Int)), (7, .inl (.int hh)), (10, .inl (.long (zsta W))), (12, zi 0)]) (st2 := [zi 22, .inl (.int (hh >>> ((Int32.ofInt 7) &&& 31))), zi fi, zi me, zi ch, .inr (10, 0)]) rfl ?_
  refine zX.call (mid2 := 169) (as := [.inl (.int (hh >>> ((Int32.ofInt 7) &&& 31))), zi 22]) (rest := [zi fi, zi me, zi ch, .inr (10, 0)]) ⟨rfl, rfl⟩ (fun _ => rfl) rfl ⟨Nat.le_of_ble_eq_true rfl, Nat.le_of_ble_eq_true rfl⟩ ?_
  refine s_low (x := (hh >>> ((Int32.ofInt 7) &&& 31))) (n := 22) (by omega) ?_
  show zX _ 174 250 [(0, .inr (0, 0)), (1, .inr (10, 0)), (2, zi ((wd_L W).length : Int)), (3, zi (wd_pz W)), (4, zi (wd_pr W : Int)), (5, zi (e : Int)), (7, .inl (.int hh)), (10, .inl (.long (zsta W))), (12, zi 0)] [zi (zlo (hh >>> ((Int32.ofInt 7) &&& 31)) 22 : Int), zi fi, zi me, zi ch, .inr (10, 0)] c s _ _
  have hb250 := zlo_lt (x := (hh >>> ((Int32.ofInt 7) &&& 31))) (n := 22) (by omega)
  refine zX.sn 1 (pc2 := 251) (l2 := [(0, .inr (0, 0)), (1, .inr (10, 0)), (2, zi ((wd_L W).length : Int)), (3, zi (wd_pz W)), (4, zi (wd_pr W : Int)), (5, zi (e : Int)), (7, .inl (.int hh)), (10, .inl (.long (zsta W))), (12, zi 0)]) (st2 := [zi 1, zi (zlo (hh >>> ((Int32.ofInt 7) &&& 31)) 22 : Int), zi fi, zi me, zi ch, .inr (10, 0)]) rfl ?_
  refine zX.sn 1 (pc2 := 253) (l2 := [(0, .inr (0, 0)), (1, .inr (10, 0)), (2, zi ((wd_L W).length : Int)), (3, zi (wd_pz W)), (4, zi (wd_pr W : Int)), (5, zi (e : Int)), (7, .inl (.int hh)), (10, .inl (.long (zsta W))), (12, zi 0)]) (st2 := [.inl (.int hh), zi 1, zi (zlo (hh >>> ((Int32.ofInt 7) &&& 31)) 22 : Int), zi fi, zi me, zi ch, .inr (10, 0)]) rfl ?_
  refine zX.sn 1 (pc2 := 255) (l2 := [(0, .inr (0, 0)), (1, .inr (10, 0)), (2, zi ((wd_L W).length : Int)), (3, zi (wd_pz W)), (4, zi (wd_pr W : Int)), (5, zi (e : Int)), (7, .inl (.int hh)), (10, .inl (.long (zsta W))), (12, zi 0)]) (st2 := [zi 9, .inl (.int hh), zi 1, zi (zlo (hh >>> ((Int32.ofInt 7) &&& 31)) 22 : Int), zi fi, zi me, zi ch, .inr (10, 0)]) rfl ?_
  refine zX.sn 1 (pc2 := 256) (l2 := [(0, .inr (0, 0)), (1, .inr (10, 0)), (2, zi ((wd_L W).length : Int)), (3, zi (wd_pz W)), (4, zi (wd_pr W : Int)), (5, zi (e : Int)), (7, .inl (.int hh)), (10, .inl (.long (zsta W))), (12, zi 0)]) (st2 := [.inl (.int (hh >>> ((Int32.ofInt 9) &&& 31))), zi 1, zi (zlo (hh >>> ((Int32.ofInt 7) &&& 31)) 22 : Int), zi fi, zi me, zi ch, .inr (10, 0)]) rfl ?_
  refine zX.sn 1 (pc2 := 258) (l2 := [(0, .inr (0, 0)), (1, .inr (10, 0)), (2, zi ((wd_L W).length : Int)), (3, zi (wd_pz W)), (4, zi (wd_pr W : Int)), (5, zi (e : Int)), (7, .inl (.int hh)), (10, .inl (.long (zsta W))), (12, zi 0)]) (st2 := [zi 9, .inl (.int (hh >>> ((Int32.ofInt 9) &&& 31))), zi 1, zi (zlo (hh >>> ((Int32.ofInt 7) &&& 31)) 22 : Int), zi fi, zi me, zi ch, .inr (10, 0)]) rfl ?_
  refine zX.call (mid2 := 169) (as := [.inl (.int (hh >>> ((Int32.ofInt 9) &&& 31))), zi 9]) (rest := [zi 1, zi (zlo (hh >>> ((Int32.ofInt 7) &&& 31)) 22 : Int), zi fi, zi me, zi ch, .inr (10, 0)]) ⟨rfl, rfl⟩ (fun _ => rfl) rfl ⟨Nat.le_of_ble_eq_true rfl, Nat.le_of_ble_eq_true rfl⟩ ?_
  refine s_low (x := (hh >>> ((Int32.ofInt 9) &&& 31))) (n := 9) (by omega) ?_
  show zX _ 174 261 [(0, .inr (0, 0)), (1, .inr (10, 0)), (2, zi ((wd_L W).length : Int)), (3, zi (wd_pz W)), (4, zi (wd_pr W : Int)), (5, zi (e : Int)), (7, .inl (.int hh)), (10, .inl (.long (zsta W))), (12, zi 0)] [zi (zlo (hh >>> ((Int32.ofInt 9) &&& 31)) 9 : Int), zi 1, zi (zlo (hh >>> ((Int32.ofInt 7) &&& 31)) 22 : Int), zi fi, zi me, zi ch, .inr (10, 0)] c s _ _
  have hb261 := zlo_lt (x := (hh >>> ((Int32.ofInt 9) &&& 31))) (n := 9) (by omega)
  refine zX.iadd ⟨rfl, rfl⟩ ?_
  refine zX.sn 1 (pc2 := 264) (l2 := [(0, .inr (0, 0)), (1, .inr (10, 0)), (2, zi ((wd_L W).length : Int)), (3, zi (wd_pz W)), (4, zi (wd_pr W : Int)), (5, zi (e : Int)), (7, .inl (.int hh)), (10, .inl (.long (zsta W))), (12, zi 0)]) (st2 := [.inl (.int hh), zi (1 + (zlo (hh >>> ((Int32.ofInt 9) &&& 31)) 9 : Int)), zi (zlo (hh >>> ((Int32.ofInt 7) &&& 31)) 22 : Int), zi fi, zi me, zi ch, .inr (10, 0)]) rfl ?_
  refine zX.sn 1 (pc2 := 266) (l2 := [(0, .inr (0, 0)), (1, .inr (10, 0)), (2, zi ((wd_L W).length : Int)), (3, zi (wd_pz W)), (4, zi (wd_pr W : Int)), (5, zi (e : Int)), (7, .inl (.int hh)), (10, .inl (.long (zsta W))), (12, zi 0)]) (st2 := [zi 13, .inl (.int hh), zi (1 + (zlo (hh >>> ((Int32.ofInt 9) &&& 31)) 9 : Int)), zi (zlo (hh >>> ((Int32.ofInt 7) &&& 31)) 22 : Int), zi fi, zi me, zi ch, .inr (10, 0)]) rfl ?_
  refine zX.sn 1 (pc2 := 267) (l2 := [(0, .inr (0, 0)), (1, .inr (10, 0)), (2, zi ((wd_L W).length : Int)), (3, zi (wd_pz W)), (4, zi (wd_pr W : Int)), (5, zi (e : Int)), (7, .inl (.int hh)), (10, .inl (.long (zsta W))), (12, zi 0)]) (st2 := [.inl (.int (hh >>> ((Int32.ofInt 13) &&& 31))), zi (1 + (zlo (hh >>> ((Int32.ofInt 9) &&& 31)) 9 : Int)), zi (zlo (hh >>> ((Int32.ofInt 7) &&& 31)) 22 : Int), zi fi, zi me, zi ch, .inr (10, 0)]) rfl ?_
  refine zX.sn 1 (pc2 := 269) (l2 := [(0, .inr (0, 0)), (1, .inr (10, 0)), (2, zi ((wd_L W).length : Int)), (3, zi (wd_pz W)), (4, zi (wd_pr W : Int)), (5, zi (e : Int)), (7, .inl (.int hh)), (10, .inl (.long (zsta W))), (12, zi 0)]) (st2 := [zi 20, .inl (.int (hh >>> ((Int32.ofInt 13) &&& 31))), zi (1 + (zlo (hh >>> ((Int32.ofInt 9) &&& 31)) 9 : Int)), zi (zlo (hh >>> ((Int32.ofInt 7) &&& 31)) 22 : Int), zi fi, zi me, zi ch, .inr (10, 0)]) rfl ?_
  refine zX.call (mid2 := 169) (as := [.inl (.int (hh >>> ((Int32.ofInt 13) &&& 31))), zi 20]) (rest := [zi (1 + (zlo (hh >>> ((Int32.ofInt 9) &&& 31)) 9 : Int)), zi (zlo (hh >>> ((Int32.ofInt 7) &&& 31)) 22 : Int), zi fi, zi me, zi ch, .inr (10, 0)]) ⟨rfl, rfl⟩ (fun _ => rfl) rfl ⟨Nat.le_of_ble_eq_true rfl, Nat.le_of_ble_eq_true rfl⟩ ?_
  refine s_low (x := (hh >>> ((Int32.ofInt 13) &&& 31))) (n := 20) (by omega) ?_
  show zX _ 174 272 [(0, .inr (0, 0)), (1, .inr (10, 0)), (2, zi ((wd_L W).length : Int)), (3, zi (wd_pz W)), (4, zi (wd_pr W : Int)), (5, zi (e : Int)), (7, .inl (.int hh)), (10, .inl (.long (zsta W))), (12, zi 0)] [zi (zlo (hh >>> ((Int32.ofInt 13) &&& 31)) 20 : Int), zi (1 + (zlo (hh >>> ((Int32.ofInt 9) &&& 31)) 9 : Int)), zi (zlo (hh >>> ((Int32.ofInt 7) &&& 31)) 22 : Int), zi fi, zi me, zi ch, .inr (10, 0)] c s _ _
  have hb272 := zlo_lt (x := (hh >>> ((Int32.ofInt 13) &&& 31))) (n := 20) (by omega)
  have h22 := zlo_lt (x := hh >>> ((Int32.ofInt 7) &&& 31)) (n := 22) (by omega)
  have h9 := zlo_lt (x := hh >>> ((Int32.ofInt 9) &&& 31)) (n := 9) (by omega)
  have h20 := zlo_lt (x := hh >>> ((Int32.ofInt 13) &&& 31)) (n := 20) (by omega)
  rw [show (1 + (zlo (hh >>> ((Int32.ofInt 9) &&& 31)) 9 : Int)) = ((1 + zlo (hh >>> ((Int32.ofInt 9) &&& 31)) 9 : Nat) : Int) from rfl]
  generalize hsz : zlo (hh >>> ((Int32.ofInt 7) &&& 31)) 22 = sz at h22 ⊢
  generalize hsp0 : zlo (hh >>> ((Int32.ofInt 9) &&& 31)) 9 = sp0 at h9 ⊢
  generalize hgr : zlo (hh >>> ((Int32.ofInt 13) &&& 31)) 20 = gr at h20 ⊢
  by_cases hz : sz = 0
  · subst hz
    refine zX.call (mid2 := 171) (as := [.inr (10, 0), zi ch, zi me, zi fi, zi 0, zi ((1 + sp0 : Nat) : Int), zi (gr : Int)]) (rest := []) ⟨rfl, rfl⟩ (fun _ => rfl) rfl ⟨Nat.le_of_ble_eq_true rfl, Nat.le_of_ble_eq_true rfl⟩ ?_
    refine v_pre (d := d + 11) (sz := 0) hch hme hfi ?_
    refine v_z (d := d + 1) (sz := 0) hch hme hfi hF ?_
    show zX _ 174 275 [(0, .inr (0, 0)), (1, .inr (10, 0)), (2, zi ((wd_L W).length : Int)), (3, zi (wd_pz W)), (4, zi (wd_pr W : Int)), (5, zi (e : Int)), (7, .inl (.int hh)), (10, .inl (.long (zsta W))), (12, zi 0)] [zi (-1002)] (c + 1) (s + 6) _ _
    refine zX.sn 1 (pc2 := 277) (l2 := [(12, zi (-1002)), (0, .inr (0, 0)), (1, .inr (10, 0)), (2, zi ((wd_L W).length : Int)), (3, zi (wd_pz W)), (4, zi (wd_pr W : Int)), (5, zi (e : Int)), (7, .inl (.int hh)), (10, .inl (.long (zsta W)))]) (st2 := []) rfl ?_
    refine zX.sn 1 (pc2 := 278) (l2 := [(12, zi (-1002)), (0, .inr (0, 0)), (1, .inr (10, 0)), (2, zi ((wd_L W).length : Int)), (3, zi (wd_pz W)), (4, zi (wd_pr W : Int)), (5, zi (e : Int)), (7, .inl (.int hh)), (10, .inl (.long (zsta W)))]) (st2 := [zi ((wd_L W).length : Int)]) rfl ?_
    refine zX.sn 1 (pc2 := 280) (l2 := [(12, zi (-1002)), (0, .inr (0, 0)), (1, .inr (10, 0)), (2, zi ((wd_L W).length : Int)), (3, zi (wd_pz W)), (4, zi (wd_pr W : Int)), (5, zi (e : Int)), (7, .inl (.int hh)), (10, .inl (.long (zsta W)))]) (st2 := [zi (-1002), zi ((wd_L W).length : Int)]) rfl ?_
    refine zX.icmp0 (x := (-1002)) (tgt := 287) ⟨rfl, rfl⟩ rfl (by omega) (fun _ => ?_) (fun (zz : 0 ≤ ((-1002) : Int)) => absurd zz (by omega))
    refine zX.sn 1 (pc2 := 288) (l2 := [(12, zi (-1002)), (0, .inr (0, 0)), (1, .inr (10, 0)), (2, zi ((wd_L W).length : Int)), (3, zi (wd_pz W)), (4, zi (wd_pr W : Int)), (5, zi (e : Int)), (7, .inl (.int hh)), (10, .inl (.long (zsta W)))]) (st2 := [zi 0, zi ((wd_L W).length : Int)]) rfl ?_
    refine zX.iadd ⟨rfl, rfl⟩ ?_
    refine zX.sn 1 (pc2 := 290) (l2 := [(2, zi (((wd_L W).length : Int) + 0)), (12, zi (-1002)), (0, .inr (0, 0)), (1, .inr (10, 0)), (3, zi (wd_pz W)), (4, zi (wd_pr W : Int)), (5, zi (e : Int)), (7, .inl (.int hh)), (10, .inl (.long (zsta W)))]) (st2 := []) rfl ?_
    refine zX.sn 1 (pc2 := 292) (l2 := [(2, zi (((wd_L W).length : Int) + 0)), (12, zi (-1002)), (0, .inr (0, 0)), (1, .inr (10, 0)), (3, zi (wd_pz W)), (4, zi (wd_pr W : Int)), (5, zi (e : Int)), (7, .inl (.int hh)), (10, .inl (.long (zsta W)))]) (st2 := [zi (-1002)]) rfl ?_
    refine zX.icmp0 (x := (-1002)) (tgt := 305) ⟨rfl, rfl⟩ rfl (by omega) (fun _ => ?_) (fun (zz : 0 ≤ ((-1002) : Int)) => absurd zz (by omega))
    refine zX.sn 1 (pc2 := 781) (l2 := [(2, zi (((wd_L W).length : Int) + 0)), (12, zi (-1002)), (0, .inr (0, 0)), (1, .inr (10, 0)), (3, zi (wd_pz W)), (4, zi (wd_pr W : Int)), (5, zi (e : Int)), (7, .inl (.int hh)), (10, .inl (.long (zsta W)))]) (st2 := []) rfl ?_
    refine zX.re [(0, .inr (0, 0)), (1, .inr (10, 0)), (2, zi (((wd_L W).length : Int) + 0)), (3, zi (wd_pz W)), (4, zi (wd_pr W : Int)), (5, zi (e : Int)), (10, .inl (.long (zsta W))), (12, zi (-1002))] [2, 3, 0, 4, 5, 6, 8, 1] [2, 12, 0, 1, 3, 4, 5, 7, 10] rfl rfl (by decide) ?_
    rw [Int.add_zero]
    refine l_tail (d := d) (W := W) (W1 := W) (gt := (-1002)) (by omega) (Or.inr rfl) (hG.1 _ _ (hG.2.2.1 e W he hI)) he hF (fun h9 M9 c9 s9 r1 r2 => q W h9 M9 c9 s9 (hG.2.2.1 e W he hI) r1 (by have := r2.1; have := r2.2.1; have := r2.2.2; omega))
  · by_cases hst : ch = 108 ∧ sz < 1 + sp0
    · obtain ⟨rfl, hst2⟩ := hst
      refine zX.call (mid2 := 171) (as := [.inr (10, 0), zi 108, zi me, zi fi, zi (sz : Int), zi ((1 + sp0 : Nat) : Int), zi (gr : Int)]) (rest := []) ⟨rfl, rfl⟩ (fun _ => rfl) rfl ⟨Nat.le_of_ble_eq_true rfl, Nat.le_of_ble_eq_true rfl⟩ ?_
      refine v_pre (d := d + 11) hch hme hfi ?_
      refine v_st (d := d + 1) (ch := 108) hme hfi hF (by omega) (by omega) (by omega) ?_
      show zX _ 174 275 [(0, .inr (0, 0)), (1, .inr (10, 0)), (2, zi ((wd_L W).length : Int)), (3, zi (wd_pz W)), (4, zi (wd_pr W : Int)), (5, zi (e : Int)), (7, .inl (.int hh)), (10, .inl (.long (zsta W))), (12, zi 0)] [zi (-1002)] (c + 1) (s + 6) _ _
      refine zX.sn 1 (pc2 := 277) (l2 := [(12, zi (-1002)), (0, .inr (0, 0)), (1, .inr (10, 0)), (2, zi ((wd_L W).length : Int)), (3, zi (wd_pz W)), (4, zi (wd_pr W : Int)), (5, zi (e : Int)), (7, .inl (.int hh)), (10, .inl (.long (zsta W)))]) (st2 := []) rfl ?_
      refine zX.sn 1 (pc2 := 278) (l2 := [(12, zi (-1002)), (0, .inr (0, 0)), (1, .inr (10, 0)), (2, zi ((wd_L W).length : Int)), (3, zi (wd_pz W)), (4, zi (wd_pr W : Int)), (5, zi (e : Int)), (7, .inl (.int hh)), (10, .inl (.long (zsta W)))]) (st2 := [zi ((wd_L W).length : Int)]) rfl ?_
      refine zX.sn 1 (pc2 := 280) (l2 := [(12, zi (-1002)), (0, .inr (0, 0)), (1, .inr (10, 0)), (2, zi ((wd_L W).length : Int)), (3, zi (wd_pz W)), (4, zi (wd_pr W : Int)), (5, zi (e : Int)), (7, .inl (.int hh)), (10, .inl (.long (zsta W)))]) (st2 := [zi (-1002), zi ((wd_L W).length : Int)]) rfl ?_
      refine zX.icmp0 (x := (-1002)) (tgt := 287) ⟨rfl, rfl⟩ rfl (by omega) (fun _ => ?_) (fun (zz : 0 ≤ ((-1002) : Int)) => absurd zz (by omega))
      refine zX.sn 1 (pc2 := 288) (l2 := [(12, zi (-1002)), (0, .inr (0, 0)), (1, .inr (10, 0)), (2, zi ((wd_L W).length : Int)), (3, zi (wd_pz W)), (4, zi (wd_pr W : Int)), (5, zi (e : Int)), (7, .inl (.int hh)), (10, .inl (.long (zsta W)))]) (st2 := [zi 0, zi ((wd_L W).length : Int)]) rfl ?_
      refine zX.iadd ⟨rfl, rfl⟩ ?_
      refine zX.sn 1 (pc2 := 290) (l2 := [(2, zi (((wd_L W).length : Int) + 0)), (12, zi (-1002)), (0, .inr (0, 0)), (1, .inr (10, 0)), (3, zi (wd_pz W)), (4, zi (wd_pr W : Int)), (5, zi (e : Int)), (7, .inl (.int hh)), (10, .inl (.long (zsta W)))]) (st2 := []) rfl ?_
      refine zX.sn 1 (pc2 := 292) (l2 := [(2, zi (((wd_L W).length : Int) + 0)), (12, zi (-1002)), (0, .inr (0, 0)), (1, .inr (10, 0)), (3, zi (wd_pz W)), (4, zi (wd_pr W : Int)), (5, zi (e : Int)), (7, .inl (.int hh)), (10, .inl (.long (zsta W)))]) (st2 := [zi (-1002)]) rfl ?_
      refine zX.icmp0 (x := (-1002)) (tgt := 305) ⟨rfl, rfl⟩ rfl (by omega) (fun _ => ?_) (fun (zz : 0 ≤ ((-1002) : Int)) => absurd zz (by omega))
      refine zX.sn 1 (pc2 := 781) (l2 := [(2, zi (((wd_L W).length : Int) + 0)), (12, zi (-1002)), (0, .inr (0, 0)), (1, .inr (10, 0)), (3, zi (wd_pz W)), (4, zi (wd_pr W : Int)), (5, zi (e : Int)), (7, .inl (.int hh)), (10, .inl (.long (zsta W)))]) (st2 := []) rfl ?_
      refine zX.re [(0, .inr (0, 0)), (1, .inr (10, 0)), (2, zi (((wd_L W).length : Int) + 0)), (3, zi (wd_pz W)), (4, zi (wd_pr W : Int)), (5, zi (e : Int)), (10, .inl (.long (zsta W))), (12, zi (-1002))] [2, 3, 0, 4, 5, 6, 8, 1] [2, 12, 0, 1, 3, 4, 5, 7, 10] rfl rfl (by decide) ?_
      rw [Int.add_zero]
      refine l_tail (d := d) (W := W) (W1 := W) (gt := (-1002)) (by omega) (Or.inr rfl) (hG.1 _ _ (hG.2.2.1 e W he hI)) he hF (fun h9 M9 c9 s9 r1 r2 => q W h9 M9 c9 s9 (hG.2.2.1 e W he hI) r1 (by have := r2.1; have := r2.2.1; have := r2.2.2; omega))
    · by_cases hno : (wd_L W).length < 5 ∧ wd_rd W = false ∧ wd_ct W = false
      · obtain ⟨hl, hrd, hct⟩ := hno
        refine zX.call (mid2 := 171) (as := [.inr (10, 0), zi ch, zi me, zi fi, zi (sz : Int), zi ((1 + sp0 : Nat) : Int), zi (gr : Int)]) (rest := []) ⟨rfl, rfl⟩ (fun _ => rfl) rfl ⟨Nat.le_of_ble_eq_true rfl, Nat.le_of_ble_eq_true rfl⟩ ?_
        refine v_pre (d := d + 11) hch hme hfi ?_
        refine v_ok (d := d + 1) hch hme hfi hF (by omega) (by omega) (fun z => ⟨by omega, by by_cases z9 : sz < 1 + sp0; exact absurd ⟨z, z9⟩ hst; omega⟩) hl hrd hct (fun h1 M1 c1 s1 g1 g2 => ?_)
        show zX _ 174 275 [(0, .inr (0, 0)), (1, .inr (10, 0)), (2, zi ((wd_L W).length : Int)), (3, zi (wd_pz W)), (4, zi (wd_pr W : Int)), (5, zi (e : Int)), (7, .inl (.int hh)), (10, .inl (.long (zsta W))), (12, zi 0)] [zi ((wd_L W).length : Int)] c1 s1 _ _
        refine zX.sn 1 (pc2 := 277) (l2 := [(12, zi ((wd_L W).length : Int)), (0, .inr (0, 0)), (1, .inr (10, 0)), (2, zi ((wd_L W).length : Int)), (3, zi (wd_pz W)), (4, zi (wd_pr W : Int)), (5, zi (e : Int)), (7, .inl (.int hh)), (10, .inl (.long (zsta W)))]) (st2 := []) rfl ?_
        refine zX.sn 1 (pc2 := 278) (l2 := [(12, zi ((wd_L W).length : Int)), (0, .inr (0, 0)), (1, .inr (10, 0)), (2, zi ((wd_L W).length : Int)), (3, zi (wd_pz W)), (4, zi (wd_pr W : Int)), (5, zi (e : Int)), (7, .inl (.int hh)), (10, .inl (.long (zsta W)))]) (st2 := [zi ((wd_L W).length : Int)]) rfl ?_
        refine zX.sn 1 (pc2 := 280) (l2 := [(12, zi ((wd_L W).length : Int)), (0, .inr (0, 0)), (1, .inr (10, 0)), (2, zi ((wd_L W).length : Int)), (3, zi (wd_pz W)), (4, zi (wd_pr W : Int)), (5, zi (e : Int)), (7, .inl (.int hh)), (10, .inl (.long (zsta W)))]) (st2 := [zi ((wd_L W).length : Int), zi ((wd_L W).length : Int)]) rfl ?_
        refine zX.icmp0 (tgt := 287) ⟨rfl, rfl⟩ rfl (by omega) (fun (zz : ((wd_L W).length : Int) < 0) => absurd zz (by omega)) (fun _ => ?_)
        refine zX.sn 1 (pc2 := 284) (l2 := [(12, zi ((wd_L W).length : Int)), (0, .inr (0, 0)), (1, .inr (10, 0)), (2, zi ((wd_L W).length : Int)), (3, zi (wd_pz W)), (4, zi (wd_pr W : Int)), (5, zi (e : Int)), (7, .inl (.int hh)), (10, .inl (.long (zsta W)))]) (st2 := [zi 1, zi ((wd_L W).length : Int)]) rfl ?_
        refine zX.sn 1 (pc2 := 288) (l2 := [(12, zi ((wd_L W).length : Int)), (0, .inr (0, 0)), (1, .inr (10, 0)), (2, zi ((wd_L W).length : Int)), (3, zi (wd_pz W)), (4, zi (wd_pr W : Int)), (5, zi (e : Int)), (7, .inl (.int hh)), (10, .inl (.long (zsta W)))]) (st2 := [zi 1, zi ((wd_L W).length : Int)]) rfl ?_
        refine zX.iadd ⟨rfl, rfl⟩ ?_
        refine zX.sn 1 (pc2 := 290) (l2 := [(2, zi (((wd_L W).length : Int) + 1)), (12, zi ((wd_L W).length : Int)), (0, .inr (0, 0)), (1, .inr (10, 0)), (3, zi (wd_pz W)), (4, zi (wd_pr W : Int)), (5, zi (e : Int)), (7, .inl (.int hh)), (10, .inl (.long (zsta W)))]) (st2 := []) rfl ?_
        refine zX.sn 1 (pc2 := 292) (l2 := [(2, zi (((wd_L W).length : Int) + 1)), (12, zi ((wd_L W).length : Int)), (0, .inr (0, 0)), (1, .inr (10, 0)), (3, zi (wd_pz W)), (4, zi (wd_pr W : Int)), (5, zi (e : Int)), (7, .inl (.int hh)), (10, .inl (.long (zsta W)))]) (st2 := [zi ((wd_L W).length : Int)]) rfl ?_
        refine zX.icmp0 (tgt := 305) ⟨rfl, rfl⟩ rfl (by omega) (fun (zz : ((wd_L W).length : Int) < 0) => absurd zz (by omega)) (fun _ => ?_)
        refine zX.sn 1 (pc2 := 297) (l2 := [(2, zi (((wd_L W).length : Int) + 1)), (12, zi ((wd_L W).length : Int)), (0, .inr (0, 0)), (1, .inr (10, 0)), (3, zi (wd_pz W)), (4, zi (wd_pr W : Int)), (5, zi (e : Int)), (7, .inl (.int hh)), (10, .inl (.long (zsta W)))]) (st2 := [zi ((wd_L W).length : Int)]) rfl ?_
        refine zX.sn 1 (pc2 := 298) (l2 := [(2, zi (((wd_L W).length : Int) + 1)), (12, zi ((wd_L W).length : Int)), (0, .inr (0, 0)), (1, .inr (10, 0)), (3, zi (wd_pz W)), (4, zi (wd_pr W : Int)), (5, zi (e : Int)), (7, .inl (.int hh)), (10, .inl (.long (zsta W)))]) (st2 := [zi (((wd_L W).length : Int) + 1), zi ((wd_L W).length : Int)]) rfl ?_
        refine zX.sn 1 (pc2 := 299) (l2 := [(2, zi (((wd_L W).length : Int) + 1)), (12, zi ((wd_L W).length : Int)), (0, .inr (0, 0)), (1, .inr (10, 0)), (3, zi (wd_pz W)), (4, zi (wd_pr W : Int)), (5, zi (e : Int)), (7, .inl (.int hh)), (10, .inl (.long (zsta W)))]) (st2 := [zi 1, zi (((wd_L W).length : Int) + 1), zi ((wd_L W).length : Int)]) rfl ?_
        refine zX.isub ⟨rfl, rfl⟩ ?_
        refine zX.icmp (tgt := 305) ⟨rfl, rfl⟩ rfl (by omega) (by omega) (fun _ => ?_) (fun (zz : ¬ ((wd_L W).length : Int) = ((((wd_L W).length : Int) + 1) - 1)) => absurd zz (by omega))
        refine zX.sn 1 (pc2 := 781) (l2 := [(2, zi (((wd_L W).length : Int) + 1)), (12, zi ((wd_L W).length : Int)), (0, .inr (0, 0)), (1, .inr (10, 0)), (3, zi (wd_pz W)), (4, zi (wd_pr W : Int)), (5, zi (e : Int)), (7, .inl (.int hh)), (10, .inl (.long (zsta W)))]) (st2 := []) rfl ?_
        refine zX.re [(0, .inr (0, 0)), (1, .inr (10, 0)), (2, zi (((wd_L W).length : Int) + 1)), (3, zi (wd_pz W)), (4, zi (wd_pr W : Int)), (5, zi (e : Int)), (10, .inl (.long (zsta W))), (12, zi ((wd_L W).length : Int))] [2, 3, 0, 4, 5, 6, 8, 1] [2, 12, 0, 1, 3, 4, 5, 7, 10] rfl rfl (by decide) ?_
        have hln : ((wd_L W).length : Int) + 1 = ((wd_L (wAdd W (vCf ch me fi sz (1 + sp0) gr))).length : Int) := by
          show _ = ((wd_L W ++ [_]).length : Int)
          rw [List.length_append]
          rfl
        rw [hln]
        have hI1 := hG.2.2.2.1 e W ch me fi sz (1 + sp0) gr he hI hch hme hfi ⟨by omega, h22⟩ ⟨by omega, by omega⟩ h20 (fun z => by by_cases z9 : sz < 1 + sp0; exact absurd ⟨z, z9⟩ hst; omega) hl hrd hct
        refine l_tail (d := d) (W := W) (gt := ((wd_L W).length : Int)) (by omega) (Or.inl (by omega)) (hG.1 _ _ hI1) he g1 (fun h9 M9 c9 s9 r1 r2 => q _ h9 M9 c9 s9 hI1 r1 (by have := g2.1; have := g2.2.1; have := g2.2.2; have := r2.1; have := r2.2.1; have := r2.2.2; omega))
      · have hno2 : 5 ≤ (wd_L W).length ∨ wd_rd W = true ∨ wd_ct W = true := by
          by_cases z1 : (wd_L W).length < 5
          · cases z2 : wd_rd W with
            | true => exact Or.inr (Or.inl rfl)
            | false =>
              cases z3 : wd_ct W with
              | true => exact Or.inr (Or.inr rfl)
              | false => exact absurd ⟨z1, z2, z3⟩ hno
          · exact Or.inl (by omega)
        refine zX.call (mid2 := 171) (as := [.inr (10, 0), zi ch, zi me, zi fi, zi (sz : Int), zi ((1 + sp0 : Nat) : Int), zi (gr : Int)]) (rest := []) ⟨rfl, rfl⟩ (fun _ => rfl) rfl ⟨Nat.le_of_ble_eq_true rfl, Nat.le_of_ble_eq_true rfl⟩ ?_
        refine v_pre (d := d + 11) hch hme hfi ?_
        refine v_full (d := d + 1) hch hme hfi hF (by omega) (by omega) (by omega) (fun z => by by_cases z9 : sz < 1 + sp0; exact absurd ⟨z, z9⟩ hst; omega) hno2 ?_
        show zX _ 174 275 [(0, .inr (0, 0)), (1, .inr (10, 0)), (2, zi ((wd_L W).length : Int)), (3, zi (wd_pz W)), (4, zi (wd_pr W : Int)), (5, zi (e : Int)), (7, .inl (.int hh)), (10, .inl (.long (zsta W))), (12, zi 0)] [zi (-1003)] (c + 1) (s + 6) _ _
        refine zX.sn 1 (pc2 := 277) (l2 := [(12, zi (-1003)), (0, .inr (0, 0)), (1, .inr (10, 0)), (2, zi ((wd_L W).length : Int)), (3, zi (wd_pz W)), (4, zi (wd_pr W : Int)), (5, zi (e : Int)), (7, .inl (.int hh)), (10, .inl (.long (zsta W)))]) (st2 := []) rfl ?_
        refine zX.sn 1 (pc2 := 278) (l2 := [(12, zi (-1003)), (0, .inr (0, 0)), (1, .inr (10, 0)), (2, zi ((wd_L W).length : Int)), (3, zi (wd_pz W)), (4, zi (wd_pr W : Int)), (5, zi (e : Int)), (7, .inl (.int hh)), (10, .inl (.long (zsta W)))]) (st2 := [zi ((wd_L W).length : Int)]) rfl ?_
        refine zX.sn 1 (pc2 := 280) (l2 := [(12, zi (-1003)), (0, .inr (0, 0)), (1, .inr (10, 0)), (2, zi ((wd_L W).length : Int)), (3, zi (wd_pz W)), (4, zi (wd_pr W : Int)), (5, zi (e : Int)), (7, .inl (.int hh)), (10, .inl (.long (zsta W)))]) (st2 := [zi (-1003), zi ((wd_L W).length : Int)]) rfl ?_
        refine zX.icmp0 (x := (-1003)) (tgt := 287) ⟨rfl, rfl⟩ rfl (by omega) (fun _ => ?_) (fun (zz : 0 ≤ ((-1003) : Int)) => absurd zz (by omega))
        refine zX.sn 1 (pc2 := 288) (l2 := [(12, zi (-1003)), (0, .inr (0, 0)), (1, .inr (10, 0)), (2, zi ((wd_L W).length : Int)), (3, zi (wd_pz W)), (4, zi (wd_pr W : Int)), (5, zi (e : Int)), (7, .inl (.int hh)), (10, .inl (.long (zsta W)))]) (st2 := [zi 0, zi ((wd_L W).length : Int)]) rfl ?_
        refine zX.iadd ⟨rfl, rfl⟩ ?_
        refine zX.sn 1 (pc2 := 290) (l2 := [(2, zi (((wd_L W).length : Int) + 0)), (12, zi (-1003)), (0, .inr (0, 0)), (1, .inr (10, 0)), (3, zi (wd_pz W)), (4, zi (wd_pr W : Int)), (5, zi (e : Int)), (7, .inl (.int hh)), (10, .inl (.long (zsta W)))]) (st2 := []) rfl ?_
        refine zX.sn 1 (pc2 := 292) (l2 := [(2, zi (((wd_L W).length : Int) + 0)), (12, zi (-1003)), (0, .inr (0, 0)), (1, .inr (10, 0)), (3, zi (wd_pz W)), (4, zi (wd_pr W : Int)), (5, zi (e : Int)), (7, .inl (.int hh)), (10, .inl (.long (zsta W)))]) (st2 := [zi (-1003)]) rfl ?_
        refine zX.icmp0 (x := (-1003)) (tgt := 305) ⟨rfl, rfl⟩ rfl (by omega) (fun _ => ?_) (fun (zz : 0 ≤ ((-1003) : Int)) => absurd zz (by omega))
        refine zX.sn 1 (pc2 := 781) (l2 := [(2, zi (((wd_L W).length : Int) + 0)), (12, zi (-1003)), (0, .inr (0, 0)), (1, .inr (10, 0)), (3, zi (wd_pz W)), (4, zi (wd_pr W : Int)), (5, zi (e : Int)), (7, .inl (.int hh)), (10, .inl (.long (zsta W)))]) (st2 := []) rfl ?_
        refine zX.re [(0, .inr (0, 0)), (1, .inr (10, 0)), (2, zi (((wd_L W).length : Int) + 0)), (3, zi (wd_pz W)), (4, zi (wd_pr W : Int)), (5, zi (e : Int)), (10, .inl (.long (zsta W))), (12, zi (-1003))] [2, 3, 0, 4, 5, 6, 8, 1] [2, 12, 0, 1, 3, 4, 5, 7, 10] rfl rfl (by decide) ?_
        rw [Int.add_zero]
        refine l_tail (d := d) (W := W) (W1 := W) (gt := (-1003)) (by omega) (Or.inr rfl) (hG.1 _ _ (hG.2.2.1 e W he hI)) he hF (fun h9 M9 c9 s9 r1 r2 => q W h9 M9 c9 s9 (hG.2.2.1 e W he hI) r1 (by have := r2.1; have := r2.2.1; have := r2.2.2; omega))
set_option maxHeartbeats 2000000 in
theorem o_vw2 {hh : Int32} {ch me : Int} (hG : zGd I) (he : e < 60) (hI : I e W) (hF : zFd sc h M W) (hch : ch = 116 ∨ ch = 108 ∨ ch = 115 ∨ ch = 106 ∨ ch = 118) (hme : me = 99 ∨ me = 115 ∨ me = 109)
    (q : ∀ W1 h1 M1 c1 s1, I (e + 1) W1 → zFd sc h1 M1 W1 → zCs 40 80200 M c s M1 c1 s1 → zX (d + 12) 174 18 [(0, .inr (0, 0)), (1, .inr (10, 0)), (2, zi ((wd_L W1).length : Int)), (3, zi (wd_pz W1)), (4, zi (wd_pr W1 : Int)), (5, zi ((e + 1 : Nat) : Int))] [] c1 s1 h1 Q) : zX (d + 12) 174 215 [(0, .inr (0, 0)), (1, .inr (10, 0)), (2, zi ((wd_L W).length : Int)), (3, zi (wd_pz W)), (4, zi (wd_pr W : Int)), (5, zi (e : Int)), (7, .inl (.int hh)), (10, .inl (.long (zsta W))), (12, zi 0), (13, zi ch)] [zi me] c s h Q := by
  have hc := hG.1 _ _ hI
  have hO := hF.ole
  have hp1 := hc.2.1.1
  refine zX.sn 1 (pc2 := 217) (l2 := [(14, zi me), (0, .inr (0, 0)), (1, .inr (10, 0)), (2, zi ((wd_L W).length : Int)), (3, zi (wd_pz W)), (4, zi (wd_pr W : Int)), (5, zi (e : Int)), (7, .inl (.int hh)), (10, .inl (.long (zsta W))), (12, zi 0), (13, zi ch)]) (st2 := []) rfl ?_
  refine zX.sn 1 (pc2 := 218) (l2 := [(14, zi me), (0, .inr (0, 0)), (1, .inr (10, 0)), (2, zi ((wd_L W).length : Int)), (3, zi (wd_pz W)), (4, zi (wd_pr W : Int)), (5, zi (e : Int)), (7, .inl (.int hh)), (10, .inl (.long (zsta W))), (12, zi 0), (13, zi ch)]) (st2 := [.inr (10, 0)]) rfl ?_
  refine zX.sn 1 (pc2 := 220) (l2 := [(14, zi me), (0, .inr (0, 0)), (1, .inr (10, 0)), (2, zi ((wd_L W).length : Int)), (3, zi (wd_pz W)), (4, zi (wd_pr W : Int)), (5, zi (e : Int)), (7, .inl (.int hh)), (10, .inl (.long (zsta W))), (12, zi 0), (13, zi ch)]) (st2 := [zi ch, .inr (10, 0)]) rfl ?_
  refine zX.sn 1 (pc2 := 222) (l2 := [(14, zi me), (0, .inr (0, 0)), (1, .inr (10, 0)), (2, zi ((wd_L W).length : Int)), (3, zi (wd_pz W)), (4, zi (wd_pr W : Int)), (5, zi (e : Int)), (7, .inl (.int hh)), (10, .inl (.long (zsta W))), (12, zi 0), (13, zi ch)]) (st2 := [zi me, zi ch, .inr (10, 0)]) rfl ?_
  refine zX.sn 1 (pc2 := 224) (l2 := [(14, zi me), (0, .inr (0, 0)), (1, .inr (10, 0)), (2, zi ((wd_L W).length : Int)), (3, zi (wd_pz W)), (4, zi (wd_pr W : Int)), (5, zi (e : Int)), (7, .inl (.int hh)), (10, .inl (.long (zsta W))), (12, zi 0), (13, zi ch)]) (st2 := [.inl (.int hh), zi me, zi ch, .inr (10, 0)]) rfl ?_
  refine zX.sn 1 (pc2 := 225) (l2 := [(14, zi me), (0, .inr (0, 0)), (1, .inr (10, 0)), (2, zi ((wd_L W).length : Int)), (3, zi (wd_pz W)), (4, zi (wd_pr W : Int)), (5, zi (e : Int)), (7, .inl (.int hh)), (10, .inl (.long (zsta W))), (12, zi 0), (13, zi ch)]) (st2 := [zi 5, .inl (.int hh), zi me, zi ch, .inr (10, 0)]) rfl ?_
  refine zX.sn 1 (pc2 := 226) (l2 := [(14, zi me), (0, .inr (0, 0)), (1, .inr (10, 0)), (2, zi ((wd_L W).length : Int)), (3, zi (wd_pz W)), (4, zi (wd_pr W : Int)), (5, zi (e : Int)), (7, .inl (.int hh)), (10, .inl (.long (zsta W))), (12, zi 0), (13, zi ch)]) (st2 := [.inl (.int (hh >>> ((Int32.ofInt 5) &&& 31))), zi me, zi ch, .inr (10, 0)]) rfl ?_
  refine zX.sn 1 (pc2 := 227) (l2 := [(14, zi me), (0, .inr (0, 0)), (1, .inr (10, 0)), (2, zi ((wd_L W).length : Int)), (3, zi (wd_pz W)), (4, zi (wd_pr W : Int)), (5, zi (e : Int)), (7, .inl (.int hh)), (10, .inl (.long (zsta W))), (12, zi 0), (13, zi ch)]) (st2 := [zi 3, .inl (.int (hh >>> ((Int32.ofInt 5) &&& 31))), zi me, zi ch, .inr (10, 0)]) rfl ?_
  refine zX.call (mid2 := 169) (as := [.inl (.int (hh >>> ((Int32.ofInt 5) &&& 31))), zi 3]) (rest := [zi me, zi ch, .inr (10, 0)]) ⟨rfl, rfl⟩ (fun _ => rfl) rfl ⟨Nat.le_of_ble_eq_true rfl, Nat.le_of_ble_eq_true rfl⟩ ?_
  refine s_low (x := (hh >>> ((Int32.ofInt 5) &&& 31))) (n := 3) (by omega) ?_
  show zX _ 174 230 [(14, zi me), (0, .inr (0, 0)), (1, .inr (10, 0)), (2, zi ((wd_L W).length : Int)), (3, zi (wd_pz W)), (4, zi (wd_pr W : Int)), (5, zi (e : Int)), (7, .inl (.int hh)), (10, .inl (.long (zsta W))), (12, zi 0), (13, zi ch)] [zi (zlo (hh >>> ((Int32.ofInt 5) &&& 31)) 3 : Int), zi me, zi ch, .inr (10, 0)] c s _ _
  have hb230 := zlo_lt (x := (hh >>> ((Int32.ofInt 5) &&& 31))) (n := 3) (by omega)
  refine zX.icmp0 (tgt := 238) ⟨rfl, rfl⟩ rfl (by omega) (fun (z : ¬ (zlo (hh >>> ((Int32.ofInt 5) &&& 31)) 3 : Int) = 0) => ?_) (fun (z : (zlo (hh >>> ((Int32.ofInt 5) &&& 31)) 3 : Int) = 0) => ?_)
  · refine zX.sn 1 (pc2 := 240) (l2 := [(14, zi me), (0, .inr (0, 0)), (1, .inr (10, 0)), (2, zi ((wd_L W).length : Int)), (3, zi (wd_pz W)), (4, zi (wd_pr W : Int)), (5, zi (e : Int)), (7, .inl (.int hh)), (10, .inl (.long (zsta W))), (12, zi 0), (13, zi ch)]) (st2 := [zi 97, zi me, zi ch, .inr (10, 0)]) rfl ?_
    refine zX.re [(0, .inr (0, 0)), (1, .inr (10, 0)), (2, zi ((wd_L W).length : Int)), (3, zi (wd_pz W)), (4, zi (wd_pr W : Int)), (5, zi (e : Int)), (7, .inl (.int hh)), (10, .inl (.long (zsta W))), (12, zi 0)] [1, 2, 3, 4, 5, 6, 7, 8, 9] [14, 0, 1, 2, 3, 4, 5, 7, 10, 12, 13] rfl rfl (by decide) ?_
    exact o_vw3 (d := d) hG he hI hF hch hme (by omega) q
  · refine zX.sn 1 (pc2 := 235) (l2 := [(14, zi me), (0, .inr (0, 0)), (1, .inr (10, 0)), (2, zi ((wd_L W).length : Int)), (3, zi (wd_pz W)), (4, zi (wd_pr W : Int)), (5, zi (e : Int)), (7, .inl (.int hh)), (10, .inl (.long (zsta W))), (12, zi 0), (13, zi ch)]) (st2 := [zi 101, zi me, zi ch, .inr (10, 0)]) rfl ?_
    refine zX.sn 1 (pc2 := 240) (l2 := [(14, zi me), (0, .inr (0, 0)), (1, .inr (10, 0)), (2, zi ((wd_L W).length : Int)), (3, zi (wd_pz W)), (4, zi (wd_pr W : Int)), (5, zi (e : Int)), (7, .inl (.int hh)), (10, .inl (.long (zsta W))), (12, zi 0), (13, zi ch)]) (st2 := [zi 101, zi me, zi ch, .inr (10, 0)]) rfl ?_
    refine zX.re [(0, .inr (0, 0)), (1, .inr (10, 0)), (2, zi ((wd_L W).length : Int)), (3, zi (wd_pz W)), (4, zi (wd_pr W : Int)), (5, zi (e : Int)), (7, .inl (.int hh)), (10, .inl (.long (zsta W))), (12, zi 0)] [1, 2, 3, 4, 5, 6, 7, 8, 9] [14, 0, 1, 2, 3, 4, 5, 7, 10, 12, 13] rfl rfl (by decide) ?_
    exact o_vw3 (d := d) hG he hI hF hch hme (by omega) q
set_option maxHeartbeats 2000000 in
theorem o_vw1 {hh : Int32} {ch : Int} (hG : zGd I) (he : e < 60) (hI : I e W) (hF : zFd sc h M W) (hch : ch = 116 ∨ ch = 108 ∨ ch = 115 ∨ ch = 106 ∨ ch = 118)
    (q : ∀ W1 h1 M1 c1 s1, I (e + 1) W1 → zFd sc h1 M1 W1 → zCs 40 80200 M c s M1 c1 s1 → zX (d + 12) 174 18 [(0, .inr (0, 0)), (1, .inr (10, 0)), (2, zi ((wd_L W1).length : Int)), (3, zi (wd_pz W1)), (4, zi (wd_pr W1 : Int)), (5, zi ((e + 1 : Nat) : Int))] [] c1 s1 h1 Q) : zX (d + 12) 174 178 [(0, .inr (0, 0)), (1, .inr (10, 0)), (2, zi ((wd_L W).length : Int)), (3, zi (wd_pz W)), (4, zi (wd_pr W : Int)), (5, zi (e : Int)), (7, .inl (.int hh)), (10, .inl (.long (zsta W))), (12, zi 0)] [zi ch] c s h Q := by
  have hc := hG.1 _ _ hI
  have hO := hF.ole
  have hp1 := hc.2.1.1
  refine zX.sn 1 (pc2 := 180) (l2 := [(13, zi ch), (0, .inr (0, 0)), (1, .inr (10, 0)), (2, zi ((wd_L W).length : Int)), (3, zi (wd_pz W)), (4, zi (wd_pr W : Int)), (5, zi (e : Int)), (7, .inl (.int hh)), (10, .inl (.long (zsta W))), (12, zi 0)]) (st2 := []) rfl ?_
  refine zX.sn 1 (pc2 := 182) (l2 := [(13, zi ch), (0, .inr (0, 0)), (1, .inr (10, 0)), (2, zi ((wd_L W).length : Int)), (3, zi (wd_pz W)), (4, zi (wd_pr W : Int)), (5, zi (e : Int)), (7, .inl (.int hh)), (10, .inl (.long (zsta W))), (12, zi 0)]) (st2 := [.inl (.int hh)]) rfl ?_
  refine zX.sn 1 (pc2 := 183) (l2 := [(13, zi ch), (0, .inr (0, 0)), (1, .inr (10, 0)), (2, zi ((wd_L W).length : Int)), (3, zi (wd_pz W)), (4, zi (wd_pr W : Int)), (5, zi (e : Int)), (7, .inl (.int hh)), (10, .inl (.long (zsta W))), (12, zi 0)]) (st2 := [zi 3, .inl (.int hh)]) rfl ?_
  refine zX.sn 1 (pc2 := 184) (l2 := [(13, zi ch), (0, .inr (0, 0)), (1, .inr (10, 0)), (2, zi ((wd_L W).length : Int)), (3, zi (wd_pz W)), (4, zi (wd_pr W : Int)), (5, zi (e : Int)), (7, .inl (.int hh)), (10, .inl (.long (zsta W))), (12, zi 0)]) (st2 := [.inl (.int (hh >>> ((Int32.ofInt 3) &&& 31)))]) rfl ?_
  refine zX.sn 1 (pc2 := 185) (l2 := [(13, zi ch), (0, .inr (0, 0)), (1, .inr (10, 0)), (2, zi ((wd_L W).length : Int)), (3, zi (wd_pz W)), (4, zi (wd_pr W : Int)), (5, zi (e : Int)), (7, .inl (.int hh)), (10, .inl (.long (zsta W))), (12, zi 0)]) (st2 := [zi 3, .inl (.int (hh >>> ((Int32.ofInt 3) &&& 31)))]) rfl ?_
  refine zX.call (mid2 := 169) (as := [.inl (.int (hh >>> ((Int32.ofInt 3) &&& 31))), zi 3]) (rest := []) ⟨rfl, rfl⟩ (fun _ => rfl) rfl ⟨Nat.le_of_ble_eq_true rfl, Nat.le_of_ble_eq_true rfl⟩ ?_
  refine s_low (x := (hh >>> ((Int32.ofInt 3) &&& 31))) (n := 3) (by omega) ?_
  show zX _ 174 188 [(13, zi ch), (0, .inr (0, 0)), (1, .inr (10, 0)), (2, zi ((wd_L W).length : Int)), (3, zi (wd_pz W)), (4, zi (wd_pr W : Int)), (5, zi (e : Int)), (7, .inl (.int hh)), (10, .inl (.long (zsta W))), (12, zi 0)] [zi (zlo (hh >>> ((Int32.ofInt 3) &&& 31)) 3 : Int)] c s _ _
  have hb188 := zlo_lt (x := (hh >>> ((Int32.ofInt 3) &&& 31))) (n := 3) (by omega)
  refine zX.icmp0 (tgt := 196) ⟨rfl, rfl⟩ rfl (by omega) (fun (z : ¬ (zlo (hh >>> ((Int32.ofInt 3) &&& 31)) 3 : Int) = 0) => ?_) (fun (z : (zlo (hh >>> ((Int32.ofInt 3) &&& 31)) 3 : Int) = 0) => ?_)
  · refine zX.sn 1 (pc2 := 198) (l2 := [(13, zi ch), (0, .inr (0, 0)), (1, .inr (10, 0)), (2, zi ((wd_L W).length : Int)), (3, zi (wd_pz W)), (4, zi (wd_pr W : Int)), (5, zi (e : Int)), (7, .inl (.int hh)), (10, .inl (.long (zsta W))), (12, zi 0)]) (st2 := [.inl (.int hh)]) rfl ?_
    refine zX.sn 1 (pc2 := 199) (l2 := [(13, zi ch), (0, .inr (0, 0)), (1, .inr (10, 0)), (2, zi ((wd_L W).length : Int)), (3, zi (wd_pz W)), (4, zi (wd_pr W : Int)), (5, zi (e : Int)), (7, .inl (.int hh)), (10, .inl (.long (zsta W))), (12, zi 0)]) (st2 := [zi 3, .inl (.int hh)]) rfl ?_
    refine zX.sn 1 (pc2 := 200) (l2 := [(13, zi ch), (0, .inr (0, 0)), (1, .inr (10, 0)), (2, zi ((wd_L W).length : Int)), (3, zi (wd_pz W)), (4, zi (wd_pr W : Int)), (5, zi (e : Int)), (7, .inl (.int hh)), (10, .inl (.long (zsta W))), (12, zi 0)]) (st2 := [.inl (.int (hh >>> ((Int32.ofInt 3) &&& 31)))]) rfl ?_
    refine zX.sn 1 (pc2 := 201) (l2 := [(13, zi ch), (0, .inr (0, 0)), (1, .inr (10, 0)), (2, zi ((wd_L W).length : Int)), (3, zi (wd_pz W)), (4, zi (wd_pr W : Int)), (5, zi (e : Int)), (7, .inl (.int hh)), (10, .inl (.long (zsta W))), (12, zi 0)]) (st2 := [zi 3, .inl (.int (hh >>> ((Int32.ofInt 3) &&& 31)))]) rfl ?_
    refine zX.call (mid2 := 169) (as := [.inl (.int (hh >>> ((Int32.ofInt 3) &&& 31))), zi 3]) (rest := []) ⟨rfl, rfl⟩ (fun _ => rfl) rfl ⟨Nat.le_of_ble_eq_true rfl, Nat.le_of_ble_eq_true rfl⟩ ?_
    refine s_low (x := (hh >>> ((Int32.ofInt 3) &&& 31))) (n := 3) (by omega) ?_
    show zX _ 174 204 [(13, zi ch), (0, .inr (0, 0)), (1, .inr (10, 0)), (2, zi ((wd_L W).length : Int)), (3, zi (wd_pz W)), (4, zi (wd_pr W : Int)), (5, zi (e : Int)), (7, .inl (.int hh)), (10, .inl (.long (zsta W))), (12, zi 0)] [zi (zlo (hh >>> ((Int32.ofInt 3) &&& 31)) 3 : Int)] c s _ _
    have hb204 := zlo_lt (x := (hh >>> ((Int32.ofInt 3) &&& 31))) (n := 3) (by omega)
    refine zX.sn 1 (pc2 := 205) (l2 := [(13, zi ch), (0, .inr (0, 0)), (1, .inr (10, 0)), (2, zi ((wd_L W).length : Int)), (3, zi (wd_pz W)), (4, zi (wd_pr W : Int)), (5, zi (e : Int)), (7, .inl (.int hh)), (10, .inl (.long (zsta W))), (12, zi 0)]) (st2 := [zi 1, zi (zlo (hh >>> ((Int32.ofInt 3) &&& 31)) 3 : Int)]) rfl ?_
    refine zX.icmp (tgt := 213) ⟨rfl, rfl⟩ rfl (by omega) (by omega) (fun (z2 : ¬ (zlo (hh >>> ((Int32.ofInt 3) &&& 31)) 3 : Int) = 1) => ?_) (fun (z2 : (zlo (hh >>> ((Int32.ofInt 3) &&& 31)) 3 : Int) = 1) => ?_)
    · refine zX.sn 1 (pc2 := 215) (l2 := [(13, zi ch), (0, .inr (0, 0)), (1, .inr (10, 0)), (2, zi ((wd_L W).length : Int)), (3, zi (wd_pz W)), (4, zi (wd_pr W : Int)), (5, zi (e : Int)), (7, .inl (.int hh)), (10, .inl (.long (zsta W))), (12, zi 0)]) (st2 := [zi 109]) rfl ?_
      refine zX.re [(0, .inr (0, 0)), (1, .inr (10, 0)), (2, zi ((wd_L W).length : Int)), (3, zi (wd_pz W)), (4, zi (wd_pr W : Int)), (5, zi (e : Int)), (7, .inl (.int hh)), (10, .inl (.long (zsta W))), (12, zi 0), (13, zi ch)] [1, 2, 3, 4, 5, 6, 7, 8, 9, 0] [13, 0, 1, 2, 3, 4, 5, 7, 10, 12] rfl rfl (by decide) ?_
      exact o_vw2 (d := d) hG he hI hF hch (by omega) q
    · refine zX.sn 1 (pc2 := 210) (l2 := [(13, zi ch), (0, .inr (0, 0)), (1, .inr (10, 0)), (2, zi ((wd_L W).length : Int)), (3, zi (wd_pz W)), (4, zi (wd_pr W : Int)), (5, zi (e : Int)), (7, .inl (.int hh)), (10, .inl (.long (zsta W))), (12, zi 0)]) (st2 := [zi 115]) rfl ?_
      refine zX.sn 1 (pc2 := 215) (l2 := [(13, zi ch), (0, .inr (0, 0)), (1, .inr (10, 0)), (2, zi ((wd_L W).length : Int)), (3, zi (wd_pz W)), (4, zi (wd_pr W : Int)), (5, zi (e : Int)), (7, .inl (.int hh)), (10, .inl (.long (zsta W))), (12, zi 0)]) (st2 := [zi 115]) rfl ?_
      refine zX.re [(0, .inr (0, 0)), (1, .inr (10, 0)), (2, zi ((wd_L W).length : Int)), (3, zi (wd_pz W)), (4, zi (wd_pr W : Int)), (5, zi (e : Int)), (7, .inl (.int hh)), (10, .inl (.long (zsta W))), (12, zi 0), (13, zi ch)] [1, 2, 3, 4, 5, 6, 7, 8, 9, 0] [13, 0, 1, 2, 3, 4, 5, 7, 10, 12] rfl rfl (by decide) ?_
      exact o_vw2 (d := d) hG he hI hF hch (by omega) q
  · refine zX.sn 1 (pc2 := 193) (l2 := [(13, zi ch), (0, .inr (0, 0)), (1, .inr (10, 0)), (2, zi ((wd_L W).length : Int)), (3, zi (wd_pz W)), (4, zi (wd_pr W : Int)), (5, zi (e : Int)), (7, .inl (.int hh)), (10, .inl (.long (zsta W))), (12, zi 0)]) (st2 := [zi 99]) rfl ?_
    refine zX.sn 1 (pc2 := 215) (l2 := [(13, zi ch), (0, .inr (0, 0)), (1, .inr (10, 0)), (2, zi ((wd_L W).length : Int)), (3, zi (wd_pz W)), (4, zi (wd_pr W : Int)), (5, zi (e : Int)), (7, .inl (.int hh)), (10, .inl (.long (zsta W))), (12, zi 0)]) (st2 := [zi 99]) rfl ?_
    refine zX.re [(0, .inr (0, 0)), (1, .inr (10, 0)), (2, zi ((wd_L W).length : Int)), (3, zi (wd_pz W)), (4, zi (wd_pr W : Int)), (5, zi (e : Int)), (7, .inl (.int hh)), (10, .inl (.long (zsta W))), (12, zi 0), (13, zi ch)] [1, 2, 3, 4, 5, 6, 7, 8, 9, 0] [13, 0, 1, 2, 3, 4, 5, 7, 10, 12] rfl rfl (by decide) ?_
    exact o_vw2 (d := d) hG he hI hF hch (by omega) q
set_option maxHeartbeats 2000000 in
theorem o_view {hh : Int32} {pt so : Nat} (hG : zGd I) (he : e < 60) (hI : I e W) (hpt : pt ≤ 3) (hF : zFd sc h M W) 
    (q : ∀ W1 h1 M1 c1 s1, I (e + 1) W1 → zFd sc h1 M1 W1 → zCs 40 80200 M c s M1 c1 s1 → zX (d + 12) 174 18 [(0, .inr (0, 0)), (1, .inr (10, 0)), (2, zi ((wd_L W1).length : Int)), (3, zi (wd_pz W1)), (4, zi (wd_pr W1 : Int)), (5, zi ((e + 1 : Nat) : Int))] [] c1 s1 h1 Q) : zX (d + 12) 174 117 [(0, .inr (0, 0)), (1, .inr (10, 0)), (2, zi ((wd_L W).length : Int)), (3, zi (wd_pz W)), (4, zi (wd_pr W : Int)), (5, zi (e : Int)), (7, .inl (.int hh)), (8, zi (pt : Int)), (9, zi (so : Int)), (10, .inl (.long (zsta W))), (12, zi 0)] [] c s h Q := by
  have hc := hG.1 _ _ hI
  have hO := hF.ole
  have hp1 := hc.2.1.1
  refine zX.sn 1 (pc2 := 119) (l2 := [(0, .inr (0, 0)), (1, .inr (10, 0)), (2, zi ((wd_L W).length : Int)), (3, zi (wd_pz W)), (4, zi (wd_pr W : Int)), (5, zi (e : Int)), (7, .inl (.int hh)), (8, zi (pt : Int)), (9, zi (so : Int)), (10, .inl (.long (zsta W))), (12, zi 0)]) (st2 := [.inl (.int hh)]) rfl ?_
  refine zX.sn 1 (pc2 := 120) (l2 := [(0, .inr (0, 0)), (1, .inr (10, 0)), (2, zi ((wd_L W).length : Int)), (3, zi (wd_pz W)), (4, zi (wd_pr W : Int)), (5, zi (e : Int)), (7, .inl (.int hh)), (8, zi (pt : Int)), (9, zi (so : Int)), (10, .inl (.long (zsta W))), (12, zi 0)]) (st2 := [zi 5, .inl (.int hh)]) rfl ?_
  refine zX.call (mid2 := 169) (as := [.inl (.int hh), zi 5]) (rest := []) ⟨rfl, rfl⟩ (fun _ => rfl) rfl ⟨Nat.le_of_ble_eq_true rfl, Nat.le_of_ble_eq_true rfl⟩ ?_
  refine s_low (x := hh) (n := 5) (by omega) ?_
  show zX _ 174 123 [(0, .inr (0, 0)), (1, .inr (10, 0)), (2, zi ((wd_L W).length : Int)), (3, zi (wd_pz W)), (4, zi (wd_pr W : Int)), (5, zi (e : Int)), (7, .inl (.int hh)), (8, zi (pt : Int)), (9, zi (so : Int)), (10, .inl (.long (zsta W))), (12, zi 0)] [zi (zlo hh 5 : Int)] c s _ _
  have hb123 := zlo_lt (x := hh) (n := 5) (by omega)
  refine zX.icmp0 (tgt := 131) ⟨rfl, rfl⟩ rfl (by omega) (fun (z0 : ¬ (zlo hh 5 : Int) = 0) => ?_) (fun (z0 : (zlo hh 5 : Int) = 0) => ?_)
  · refine zX.sn 1 (pc2 := 133) (l2 := [(0, .inr (0, 0)), (1, .inr (10, 0)), (2, zi ((wd_L W).length : Int)), (3, zi (wd_pz W)), (4, zi (wd_pr W : Int)), (5, zi (e : Int)), (7, .inl (.int hh)), (8, zi (pt : Int)), (9, zi (so : Int)), (10, .inl (.long (zsta W))), (12, zi 0)]) (st2 := [.inl (.int hh)]) rfl ?_
    refine zX.sn 1 (pc2 := 134) (l2 := [(0, .inr (0, 0)), (1, .inr (10, 0)), (2, zi ((wd_L W).length : Int)), (3, zi (wd_pz W)), (4, zi (wd_pr W : Int)), (5, zi (e : Int)), (7, .inl (.int hh)), (8, zi (pt : Int)), (9, zi (so : Int)), (10, .inl (.long (zsta W))), (12, zi 0)]) (st2 := [zi 5, .inl (.int hh)]) rfl ?_
    refine zX.call (mid2 := 169) (as := [.inl (.int hh), zi 5]) (rest := []) ⟨rfl, rfl⟩ (fun _ => rfl) rfl ⟨Nat.le_of_ble_eq_true rfl, Nat.le_of_ble_eq_true rfl⟩ ?_
    refine s_low (x := hh) (n := 5) (by omega) ?_
    show zX _ 174 137 [(0, .inr (0, 0)), (1, .inr (10, 0)), (2, zi ((wd_L W).length : Int)), (3, zi (wd_pz W)), (4, zi (wd_pr W : Int)), (5, zi (e : Int)), (7, .inl (.int hh)), (8, zi (pt : Int)), (9, zi (so : Int)), (10, .inl (.long (zsta W))), (12, zi 0)] [zi (zlo hh 5 : Int)] c s _ _
    have hb137 := zlo_lt (x := hh) (n := 5) (by omega)
    refine zX.sn 1 (pc2 := 138) (l2 := [(0, .inr (0, 0)), (1, .inr (10, 0)), (2, zi ((wd_L W).length : Int)), (3, zi (wd_pz W)), (4, zi (wd_pr W : Int)), (5, zi (e : Int)), (7, .inl (.int hh)), (8, zi (pt : Int)), (9, zi (so : Int)), (10, .inl (.long (zsta W))), (12, zi 0)]) (st2 := [zi 1, zi (zlo hh 5 : Int)]) rfl ?_
    refine zX.icmp (tgt := 146) ⟨rfl, rfl⟩ rfl (by omega) (by omega) (fun (z1 : ¬ (zlo hh 5 : Int) = 1) => ?_) (fun (z1 : (zlo hh 5 : Int) = 1) => ?_)
    · refine zX.sn 1 (pc2 := 148) (l2 := [(0, .inr (0, 0)), (1, .inr (10, 0)), (2, zi ((wd_L W).length : Int)), (3, zi (wd_pz W)), (4, zi (wd_pr W : Int)), (5, zi (e : Int)), (7, .inl (.int hh)), (8, zi (pt : Int)), (9, zi (so : Int)), (10, .inl (.long (zsta W))), (12, zi 0)]) (st2 := [.inl (.int hh)]) rfl ?_
      refine zX.sn 1 (pc2 := 149) (l2 := [(0, .inr (0, 0)), (1, .inr (10, 0)), (2, zi ((wd_L W).length : Int)), (3, zi (wd_pz W)), (4, zi (wd_pr W : Int)), (5, zi (e : Int)), (7, .inl (.int hh)), (8, zi (pt : Int)), (9, zi (so : Int)), (10, .inl (.long (zsta W))), (12, zi 0)]) (st2 := [zi 5, .inl (.int hh)]) rfl ?_
      refine zX.call (mid2 := 169) (as := [.inl (.int hh), zi 5]) (rest := []) ⟨rfl, rfl⟩ (fun _ => rfl) rfl ⟨Nat.le_of_ble_eq_true rfl, Nat.le_of_ble_eq_true rfl⟩ ?_
      refine s_low (x := hh) (n := 5) (by omega) ?_
      show zX _ 174 152 [(0, .inr (0, 0)), (1, .inr (10, 0)), (2, zi ((wd_L W).length : Int)), (3, zi (wd_pz W)), (4, zi (wd_pr W : Int)), (5, zi (e : Int)), (7, .inl (.int hh)), (8, zi (pt : Int)), (9, zi (so : Int)), (10, .inl (.long (zsta W))), (12, zi 0)] [zi (zlo hh 5 : Int)] c s _ _
      have hb152 := zlo_lt (x := hh) (n := 5) (by omega)
      refine zX.sn 1 (pc2 := 153) (l2 := [(0, .inr (0, 0)), (1, .inr (10, 0)), (2, zi ((wd_L W).length : Int)), (3, zi (wd_pz W)), (4, zi (wd_pr W : Int)), (5, zi (e : Int)), (7, .inl (.int hh)), (8, zi (pt : Int)), (9, zi (so : Int)), (10, .inl (.long (zsta W))), (12, zi 0)]) (st2 := [zi 2, zi (zlo hh 5 : Int)]) rfl ?_
      refine zX.icmp (tgt := 161) ⟨rfl, rfl⟩ rfl (by omega) (by omega) (fun (z2 : ¬ (zlo hh 5 : Int) = 2) => ?_) (fun (z2 : (zlo hh 5 : Int) = 2) => ?_)
      · refine zX.sn 1 (pc2 := 163) (l2 := [(0, .inr (0, 0)), (1, .inr (10, 0)), (2, zi ((wd_L W).length : Int)), (3, zi (wd_pz W)), (4, zi (wd_pr W : Int)), (5, zi (e : Int)), (7, .inl (.int hh)), (8, zi (pt : Int)), (9, zi (so : Int)), (10, .inl (.long (zsta W))), (12, zi 0)]) (st2 := [.inl (.int hh)]) rfl ?_
        refine zX.sn 1 (pc2 := 164) (l2 := [(0, .inr (0, 0)), (1, .inr (10, 0)), (2, zi ((wd_L W).length : Int)), (3, zi (wd_pz W)), (4, zi (wd_pr W : Int)), (5, zi (e : Int)), (7, .inl (.int hh)), (8, zi (pt : Int)), (9, zi (so : Int)), (10, .inl (.long (zsta W))), (12, zi 0)]) (st2 := [zi 5, .inl (.int hh)]) rfl ?_
        refine zX.call (mid2 := 169) (as := [.inl (.int hh), zi 5]) (rest := []) ⟨rfl, rfl⟩ (fun _ => rfl) rfl ⟨Nat.le_of_ble_eq_true rfl, Nat.le_of_ble_eq_true rfl⟩ ?_
        refine s_low (x := hh) (n := 5) (by omega) ?_
        show zX _ 174 167 [(0, .inr (0, 0)), (1, .inr (10, 0)), (2, zi ((wd_L W).length : Int)), (3, zi (wd_pz W)), (4, zi (wd_pr W : Int)), (5, zi (e : Int)), (7, .inl (.int hh)), (8, zi (pt : Int)), (9, zi (so : Int)), (10, .inl (.long (zsta W))), (12, zi 0)] [zi (zlo hh 5 : Int)] c s _ _
        have hb167 := zlo_lt (x := hh) (n := 5) (by omega)
        refine zX.sn 1 (pc2 := 168) (l2 := [(0, .inr (0, 0)), (1, .inr (10, 0)), (2, zi ((wd_L W).length : Int)), (3, zi (wd_pz W)), (4, zi (wd_pr W : Int)), (5, zi (e : Int)), (7, .inl (.int hh)), (8, zi (pt : Int)), (9, zi (so : Int)), (10, .inl (.long (zsta W))), (12, zi 0)]) (st2 := [zi 3, zi (zlo hh 5 : Int)]) rfl ?_
        refine zX.icmp (tgt := 176) ⟨rfl, rfl⟩ rfl (by omega) (by omega) (fun (z3 : ¬ (zlo hh 5 : Int) = 3) => ?_) (fun (z3 : (zlo hh 5 : Int) = 3) => ?_)
        · refine zX.sn 1 (pc2 := 178) (l2 := [(0, .inr (0, 0)), (1, .inr (10, 0)), (2, zi ((wd_L W).length : Int)), (3, zi (wd_pz W)), (4, zi (wd_pr W : Int)), (5, zi (e : Int)), (7, .inl (.int hh)), (8, zi (pt : Int)), (9, zi (so : Int)), (10, .inl (.long (zsta W))), (12, zi 0)]) (st2 := [zi 118]) rfl ?_
          refine zX.re [(0, .inr (0, 0)), (1, .inr (10, 0)), (2, zi ((wd_L W).length : Int)), (3, zi (wd_pz W)), (4, zi (wd_pr W : Int)), (5, zi (e : Int)), (7, .inl (.int hh)), (10, .inl (.long (zsta W))), (12, zi 0)] [0, 1, 2, 3, 4, 5, 6, 9, 10] [0, 1, 2, 3, 4, 5, 7, 8, 9, 10, 12] rfl rfl (by decide) ?_
          exact o_vw1 (d := d) hG he hI hF (by omega) q
        · refine zX.sn 1 (pc2 := 173) (l2 := [(0, .inr (0, 0)), (1, .inr (10, 0)), (2, zi ((wd_L W).length : Int)), (3, zi (wd_pz W)), (4, zi (wd_pr W : Int)), (5, zi (e : Int)), (7, .inl (.int hh)), (8, zi (pt : Int)), (9, zi (so : Int)), (10, .inl (.long (zsta W))), (12, zi 0)]) (st2 := [zi 106]) rfl ?_
          refine zX.sn 1 (pc2 := 178) (l2 := [(0, .inr (0, 0)), (1, .inr (10, 0)), (2, zi ((wd_L W).length : Int)), (3, zi (wd_pz W)), (4, zi (wd_pr W : Int)), (5, zi (e : Int)), (7, .inl (.int hh)), (8, zi (pt : Int)), (9, zi (so : Int)), (10, .inl (.long (zsta W))), (12, zi 0)]) (st2 := [zi 106]) rfl ?_
          refine zX.re [(0, .inr (0, 0)), (1, .inr (10, 0)), (2, zi ((wd_L W).length : Int)), (3, zi (wd_pz W)), (4, zi (wd_pr W : Int)), (5, zi (e : Int)), (7, .inl (.int hh)), (10, .inl (.long (zsta W))), (12, zi 0)] [0, 1, 2, 3, 4, 5, 6, 9, 10] [0, 1, 2, 3, 4, 5, 7, 8, 9, 10, 12] rfl rfl (by decide) ?_
          exact o_vw1 (d := d) hG he hI hF (by omega) q
      · refine zX.sn 1 (pc2 := 158) (l2 := [(0, .inr (0, 0)), (1, .inr (10, 0)), (2, zi ((wd_L W).length : Int)), (3, zi (wd_pz W)), (4, zi (wd_pr W : Int)), (5, zi (e : Int)), (7, .inl (.int hh)), (8, zi (pt : Int)), (9, zi (so : Int)), (10, .inl (.long (zsta W))), (12, zi 0)]) (st2 := [zi 115]) rfl ?_
        refine zX.sn 1 (pc2 := 178) (l2 := [(0, .inr (0, 0)), (1, .inr (10, 0)), (2, zi ((wd_L W).length : Int)), (3, zi (wd_pz W)), (4, zi (wd_pr W : Int)), (5, zi (e : Int)), (7, .inl (.int hh)), (8, zi (pt : Int)), (9, zi (so : Int)), (10, .inl (.long (zsta W))), (12, zi 0)]) (st2 := [zi 115]) rfl ?_
        refine zX.re [(0, .inr (0, 0)), (1, .inr (10, 0)), (2, zi ((wd_L W).length : Int)), (3, zi (wd_pz W)), (4, zi (wd_pr W : Int)), (5, zi (e : Int)), (7, .inl (.int hh)), (10, .inl (.long (zsta W))), (12, zi 0)] [0, 1, 2, 3, 4, 5, 6, 9, 10] [0, 1, 2, 3, 4, 5, 7, 8, 9, 10, 12] rfl rfl (by decide) ?_
        exact o_vw1 (d := d) hG he hI hF (by omega) q
    · refine zX.sn 1 (pc2 := 143) (l2 := [(0, .inr (0, 0)), (1, .inr (10, 0)), (2, zi ((wd_L W).length : Int)), (3, zi (wd_pz W)), (4, zi (wd_pr W : Int)), (5, zi (e : Int)), (7, .inl (.int hh)), (8, zi (pt : Int)), (9, zi (so : Int)), (10, .inl (.long (zsta W))), (12, zi 0)]) (st2 := [zi 108]) rfl ?_
      refine zX.sn 1 (pc2 := 178) (l2 := [(0, .inr (0, 0)), (1, .inr (10, 0)), (2, zi ((wd_L W).length : Int)), (3, zi (wd_pz W)), (4, zi (wd_pr W : Int)), (5, zi (e : Int)), (7, .inl (.int hh)), (8, zi (pt : Int)), (9, zi (so : Int)), (10, .inl (.long (zsta W))), (12, zi 0)]) (st2 := [zi 108]) rfl ?_
      refine zX.re [(0, .inr (0, 0)), (1, .inr (10, 0)), (2, zi ((wd_L W).length : Int)), (3, zi (wd_pz W)), (4, zi (wd_pr W : Int)), (5, zi (e : Int)), (7, .inl (.int hh)), (10, .inl (.long (zsta W))), (12, zi 0)] [0, 1, 2, 3, 4, 5, 6, 9, 10] [0, 1, 2, 3, 4, 5, 7, 8, 9, 10, 12] rfl rfl (by decide) ?_
      exact o_vw1 (d := d) hG he hI hF (by omega) q
  · refine zX.sn 1 (pc2 := 128) (l2 := [(0, .inr (0, 0)), (1, .inr (10, 0)), (2, zi ((wd_L W).length : Int)), (3, zi (wd_pz W)), (4, zi (wd_pr W : Int)), (5, zi (e : Int)), (7, .inl (.int hh)), (8, zi (pt : Int)), (9, zi (so : Int)), (10, .inl (.long (zsta W))), (12, zi 0)]) (st2 := [zi 116]) rfl ?_
    refine zX.sn 1 (pc2 := 178) (l2 := [(0, .inr (0, 0)), (1, .inr (10, 0)), (2, zi ((wd_L W).length : Int)), (3, zi (wd_pz W)), (4, zi (wd_pr W : Int)), (5, zi (e : Int)), (7, .inl (.int hh)), (8, zi (pt : Int)), (9, zi (so : Int)), (10, .inl (.long (zsta W))), (12, zi 0)]) (st2 := [zi 116]) rfl ?_
    refine zX.re [(0, .inr (0, 0)), (1, .inr (10, 0)), (2, zi ((wd_L W).length : Int)), (3, zi (wd_pz W)), (4, zi (wd_pr W : Int)), (5, zi (e : Int)), (7, .inl (.int hh)), (10, .inl (.long (zsta W))), (12, zi 0)] [0, 1, 2, 3, 4, 5, 6, 9, 10] [0, 1, 2, 3, 4, 5, 7, 8, 9, 10, 12] rfl rfl (by decide) ?_
    exact o_vw1 (d := d) hG he hI hF (by omega) q
set_option maxHeartbeats 2000000 in
theorem l_disp {hh : Int32} {pt so : Nat} (hG : zGd I) (he : e < 60) (hI : I e W) (hpt : pt ≤ 3) (hF : zFd sc h M W) (hso : so < 32)
    (q : ∀ W1 h1 M1 c1 s1, I (e + 1) W1 → zFd sc h1 M1 W1 → zCs 50 80300 M c s M1 c1 s1 → zX (d + 12) 174 18 [(0, .inr (0, 0)), (1, .inr (10, 0)), (2, zi ((wd_L W1).length : Int)), (3, zi (wd_pz W1)), (4, zi (wd_pr W1 : Int)), (5, zi ((e + 1 : Nat) : Int))] [] c1 s1 h1 Q) : zX (d + 12) 174 101 [(0, .inr (0, 0)), (1, .inr (10, 0)), (2, zi ((wd_L W).length : Int)), (3, zi (wd_pz W)), (4, zi (wd_pr W : Int)), (5, zi (e : Int)), (7, .inl (.int hh)), (8, zi (pt : Int)), (9, zi (so : Int))] [] c s h Q := by
  have hc := hG.1 _ _ hI
  refine zX.sn 1 (pc2 := 102) (l2 := [(0, .inr (0, 0)), (1, .inr (10, 0)), (2, zi ((wd_L W).length : Int)), (3, zi (wd_pz W)), (4, zi (wd_pr W : Int)), (5, zi (e : Int)), (7, .inl (.int hh)), (8, zi (pt : Int)), (9, zi (so : Int))]) (st2 := [.inr (10, 0)]) rfl ?_
  refine zX.sn 1 (pc2 := 103) (l2 := [(0, .inr (0, 0)), (1, .inr (10, 0)), (2, zi ((wd_L W).length : Int)), (3, zi (wd_pz W)), (4, zi (wd_pr W : Int)), (5, zi (e : Int)), (7, .inl (.int hh)), (8, zi (pt : Int)), (9, zi (so : Int))]) (st2 := [zi ((wd_L W).length : Int), .inr (10, 0)]) rfl ?_
  refine zX.call (mid2 := 172) (as := [.inr (10, 0), zi ((wd_L W).length : Int)]) (rest := []) ⟨rfl, rfl⟩ (fun _ => rfl) rfl ⟨Nat.le_of_ble_eq_true rfl, Nat.le_of_ble_eq_true rfl⟩ ?_
  refine s_state (d := d) hc.1 hF (fun c1 s1 hcs => ?_)
  show zX _ 174 106 [(0, .inr (0, 0)), (1, .inr (10, 0)), (2, zi ((wd_L W).length : Int)), (3, zi (wd_pz W)), (4, zi (wd_pr W : Int)), (5, zi (e : Int)), (7, .inl (.int hh)), (8, zi (pt : Int)), (9, zi (so : Int))] [.inl (.long (zsta W))] c1 s1 _ _
  refine zX.sn 1 (pc2 := 108) (l2 := [(10, .inl (.long (zsta W))), (0, .inr (0, 0)), (1, .inr (10, 0)), (2, zi ((wd_L W).length : Int)), (3, zi (wd_pz W)), (4, zi (wd_pr W : Int)), (5, zi (e : Int)), (7, .inl (.int hh)), (8, zi (pt : Int)), (9, zi (so : Int))]) (st2 := []) rfl ?_
  refine zX.sn 1 (pc2 := 109) (l2 := [(10, .inl (.long (zsta W))), (0, .inr (0, 0)), (1, .inr (10, 0)), (2, zi ((wd_L W).length : Int)), (3, zi (wd_pz W)), (4, zi (wd_pr W : Int)), (5, zi (e : Int)), (7, .inl (.int hh)), (8, zi (pt : Int)), (9, zi (so : Int))]) (st2 := [zi 0]) rfl ?_
  refine zX.sn 1 (pc2 := 111) (l2 := [(12, zi 0), (10, .inl (.long (zsta W))), (0, .inr (0, 0)), (1, .inr (10, 0)), (2, zi ((wd_L W).length : Int)), (3, zi (wd_pz W)), (4, zi (wd_pr W : Int)), (5, zi (e : Int)), (7, .inl (.int hh)), (8, zi (pt : Int)), (9, zi (so : Int))]) (st2 := []) rfl ?_
  refine zX.sn 1 (pc2 := 113) (l2 := [(12, zi 0), (10, .inl (.long (zsta W))), (0, .inr (0, 0)), (1, .inr (10, 0)), (2, zi ((wd_L W).length : Int)), (3, zi (wd_pz W)), (4, zi (wd_pr W : Int)), (5, zi (e : Int)), (7, .inl (.int hh)), (8, zi (pt : Int)), (9, zi (so : Int))]) (st2 := [zi (so : Int)]) rfl ?_
  refine zX.sn 1 (pc2 := 114) (l2 := [(12, zi 0), (10, .inl (.long (zsta W))), (0, .inr (0, 0)), (1, .inr (10, 0)), (2, zi ((wd_L W).length : Int)), (3, zi (wd_pz W)), (4, zi (wd_pr W : Int)), (5, zi (e : Int)), (7, .inl (.int hh)), (8, zi (pt : Int)), (9, zi (so : Int))]) (st2 := [zi 2, zi (so : Int)]) rfl ?_
  refine zX.icmp (tgt := 308) ⟨rfl, rfl⟩ rfl (by omega) (by omega) (fun (y0 : 2 ≤ (so : Int)) => ?_) (fun (y0 : (so : Int) < 2) => ?_)
  · refine zX.sn 1 (pc2 := 310) (l2 := [(12, zi 0), (10, .inl (.long (zsta W))), (0, .inr (0, 0)), (1, .inr (10, 0)), (2, zi ((wd_L W).length : Int)), (3, zi (wd_pz W)), (4, zi (wd_pr W : Int)), (5, zi (e : Int)), (7, .inl (.int hh)), (8, zi (pt : Int)), (9, zi (so : Int))]) (st2 := [zi (so : Int)]) rfl ?_
    refine zX.sn 1 (pc2 := 311) (l2 := [(12, zi 0), (10, .inl (.long (zsta W))), (0, .inr (0, 0)), (1, .inr (10, 0)), (2, zi ((wd_L W).length : Int)), (3, zi (wd_pz W)), (4, zi (wd_pr W : Int)), (5, zi (e : Int)), (7, .inl (.int hh)), (8, zi (pt : Int)), (9, zi (so : Int))]) (st2 := [zi 2, zi (so : Int)]) rfl ?_
    refine zX.icmp (tgt := 335) ⟨rfl, rfl⟩ rfl (by omega) (by omega) (fun (y1 : ¬ (so : Int) = 2) => ?_) (fun (y1 : (so : Int) = 2) => ?_)
    · refine zX.sn 1 (pc2 := 337) (l2 := [(12, zi 0), (10, .inl (.long (zsta W))), (0, .inr (0, 0)), (1, .inr (10, 0)), (2, zi ((wd_L W).length : Int)), (3, zi (wd_pz W)), (4, zi (wd_pr W : Int)), (5, zi (e : Int)), (7, .inl (.int hh)), (8, zi (pt : Int)), (9, zi (so : Int))]) (st2 := [zi (so : Int)]) rfl ?_
      refine zX.sn 1 (pc2 := 339) (l2 := [(12, zi 0), (10, .inl (.long (zsta W))), (0, .inr (0, 0)), (1, .inr (10, 0)), (2, zi ((wd_L W).length : Int)), (3, zi (wd_pz W)), (4, zi (wd_pr W : Int)), (5, zi (e : Int)), (7, .inl (.int hh)), (8, zi (pt : Int)), (9, zi (so : Int))]) (st2 := [zi 14, zi (so : Int)]) rfl ?_
      refine zX.icmp (tgt := 436) ⟨rfl, rfl⟩ rfl (by omega) (by omega) (fun (y2 : 14 ≤ (so : Int)) => ?_) (fun (y2 : (so : Int) < 14) => ?_)
      · refine zX.sn 1 (pc2 := 438) (l2 := [(12, zi 0), (10, .inl (.long (zsta W))), (0, .inr (0, 0)), (1, .inr (10, 0)), (2, zi ((wd_L W).length : Int)), (3, zi (wd_pz W)), (4, zi (wd_pr W : Int)), (5, zi (e : Int)), (7, .inl (.int hh)), (8, zi (pt : Int)), (9, zi (so : Int))]) (st2 := [zi (so : Int)]) rfl ?_
        refine zX.sn 1 (pc2 := 440) (l2 := [(12, zi 0), (10, .inl (.long (zsta W))), (0, .inr (0, 0)), (1, .inr (10, 0)), (2, zi ((wd_L W).length : Int)), (3, zi (wd_pz W)), (4, zi (wd_pr W : Int)), (5, zi (e : Int)), (7, .inl (.int hh)), (8, zi (pt : Int)), (9, zi (so : Int))]) (st2 := [zi 17, zi (so : Int)]) rfl ?_
        refine zX.icmp (tgt := 464) ⟨rfl, rfl⟩ rfl (by omega) (by omega) (fun (y3 : 17 ≤ (so : Int)) => ?_) (fun (y3 : (so : Int) < 17) => ?_)
        · refine zX.sn 1 (pc2 := 466) (l2 := [(12, zi 0), (10, .inl (.long (zsta W))), (0, .inr (0, 0)), (1, .inr (10, 0)), (2, zi ((wd_L W).length : Int)), (3, zi (wd_pz W)), (4, zi (wd_pr W : Int)), (5, zi (e : Int)), (7, .inl (.int hh)), (8, zi (pt : Int)), (9, zi (so : Int))]) (st2 := [zi (so : Int)]) rfl ?_
          refine zX.sn 1 (pc2 := 468) (l2 := [(12, zi 0), (10, .inl (.long (zsta W))), (0, .inr (0, 0)), (1, .inr (10, 0)), (2, zi ((wd_L W).length : Int)), (3, zi (wd_pz W)), (4, zi (wd_pr W : Int)), (5, zi (e : Int)), (7, .inl (.int hh)), (8, zi (pt : Int)), (9, zi (so : Int))]) (st2 := [zi 27, zi (so : Int)]) rfl ?_
          refine zX.icmp (tgt := 539) ⟨rfl, rfl⟩ rfl (by omega) (by omega) (fun (y4 : 27 ≤ (so : Int)) => ?_) (fun (y4 : (so : Int) < 27) => ?_)
          · refine zX.sn 1 (pc2 := 541) (l2 := [(12, zi 0), (10, .inl (.long (zsta W))), (0, .inr (0, 0)), (1, .inr (10, 0)), (2, zi ((wd_L W).length : Int)), (3, zi (wd_pz W)), (4, zi (wd_pr W : Int)), (5, zi (e : Int)), (7, .inl (.int hh)), (8, zi (pt : Int)), (9, zi (so : Int))]) (st2 := [zi (so : Int)]) rfl ?_
            refine zX.sn 1 (pc2 := 543) (l2 := [(12, zi 0), (10, .inl (.long (zsta W))), (0, .inr (0, 0)), (1, .inr (10, 0)), (2, zi ((wd_L W).length : Int)), (3, zi (wd_pz W)), (4, zi (wd_pr W : Int)), (5, zi (e : Int)), (7, .inl (.int hh)), (8, zi (pt : Int)), (9, zi (so : Int))]) (st2 := [zi 27, zi (so : Int)]) rfl ?_
            refine zX.icmp (tgt := 604) ⟨rfl, rfl⟩ rfl (by omega) (by omega) (fun (y5 : ¬ (so : Int) = 27) => ?_) (fun (y5 : (so : Int) = 27) => ?_)
            · refine zX.sn 1 (pc2 := 606) (l2 := [(12, zi 0), (10, .inl (.long (zsta W))), (0, .inr (0, 0)), (1, .inr (10, 0)), (2, zi ((wd_L W).length : Int)), (3, zi (wd_pz W)), (4, zi (wd_pr W : Int)), (5, zi (e : Int)), (7, .inl (.int hh)), (8, zi (pt : Int)), (9, zi (so : Int))]) (st2 := [zi (so : Int)]) rfl ?_
              refine zX.sn 1 (pc2 := 608) (l2 := [(12, zi 0), (10, .inl (.long (zsta W))), (0, .inr (0, 0)), (1, .inr (10, 0)), (2, zi ((wd_L W).length : Int)), (3, zi (wd_pz W)), (4, zi (wd_pr W : Int)), (5, zi (e : Int)), (7, .inl (.int hh)), (8, zi (pt : Int)), (9, zi (so : Int))]) (st2 := [zi 28, zi (so : Int)]) rfl ?_
              refine zX.icmp (tgt := 671) ⟨rfl, rfl⟩ rfl (by omega) (by omega) (fun (y6 : ¬ (so : Int) = 28) => ?_) (fun (y6 : (so : Int) = 28) => ?_)
              · refine zX.sn 1 (pc2 := 673) (l2 := [(12, zi 0), (10, .inl (.long (zsta W))), (0, .inr (0, 0)), (1, .inr (10, 0)), (2, zi ((wd_L W).length : Int)), (3, zi (wd_pz W)), (4, zi (wd_pr W : Int)), (5, zi (e : Int)), (7, .inl (.int hh)), (8, zi (pt : Int)), (9, zi (so : Int))]) (st2 := [zi (so : Int)]) rfl ?_
                refine zX.sn 1 (pc2 := 675) (l2 := [(12, zi 0), (10, .inl (.long (zsta W))), (0, .inr (0, 0)), (1, .inr (10, 0)), (2, zi ((wd_L W).length : Int)), (3, zi (wd_pz W)), (4, zi (wd_pr W : Int)), (5, zi (e : Int)), (7, .inl (.int hh)), (8, zi (pt : Int)), (9, zi (so : Int))]) (st2 := [zi 29, zi (so : Int)]) rfl ?_
                refine zX.icmp (tgt := 723) ⟨rfl, rfl⟩ rfl (by omega) (by omega) (fun (y7 : ¬ (so : Int) = 29) => ?_) (fun (y7 : (so : Int) = 29) => ?_)
                · refine zX.re [(0, .inr (0, 0)), (1, .inr (10, 0)), (2, zi ((wd_L W).length : Int)), (3, zi (wd_pz W)), (4, zi (wd_pr W : Int)), (5, zi (e : Int)), (7, .inl (.int hh)), (8, zi (pt : Int)), (9, zi (so : Int)), (10, .inl (.long (zsta W))), (12, zi 0)] [2, 3, 4, 5, 6, 7, 8, 9, 10, 1, 0] [12, 10, 0, 1, 2, 3, 4, 5, 7, 8, 9] rfl rfl (by decide) ?_
                  exact o_mov (d := d) hG he hI hpt hF (fun W1 h1 M1 c2 s2 r1 r2 r3 => q W1 h1 M1 c2 s2 r1 r2 (by have := r3.1; have := r3.2.1; have := r3.2.2; omega))
                · refine zX.re [(0, .inr (0, 0)), (1, .inr (10, 0)), (2, zi ((wd_L W).length : Int)), (3, zi (wd_pz W)), (4, zi (wd_pr W : Int)), (5, zi (e : Int)), (7, .inl (.int hh)), (8, zi (pt : Int)), (9, zi (so : Int)), (10, .inl (.long (zsta W))), (12, zi 0)] [2, 3, 4, 5, 6, 7, 8, 9, 10, 1, 0] [12, 10, 0, 1, 2, 3, 4, 5, 7, 8, 9] rfl rfl (by decide) ?_
                  exact o_cra (d := d) hG he hI hpt hF (fun W1 h1 M1 c2 s2 r1 r2 r3 => q W1 h1 M1 c2 s2 r1 r2 (by have := r3.1; have := r3.2.1; have := r3.2.2; omega))
              · refine zX.re [(0, .inr (0, 0)), (1, .inr (10, 0)), (2, zi ((wd_L W).length : Int)), (3, zi (wd_pz W)), (4, zi (wd_pr W : Int)), (5, zi (e : Int)), (7, .inl (.int hh)), (8, zi (pt : Int)), (9, zi (so : Int)), (10, .inl (.long (zsta W))), (12, zi 0)] [2, 3, 4, 5, 6, 7, 8, 9, 10, 1, 0] [12, 10, 0, 1, 2, 3, 4, 5, 7, 8, 9] rfl rfl (by decide) ?_
                exact o_com (d := d) hG he hI hpt hF (fun W1 h1 M1 c2 s2 r1 r2 r3 => q W1 h1 M1 c2 s2 r1 r2 (by have := r3.1; have := r3.2.1; have := r3.2.2; omega))
            · refine zX.re [(0, .inr (0, 0)), (1, .inr (10, 0)), (2, zi ((wd_L W).length : Int)), (3, zi (wd_pz W)), (4, zi (wd_pr W : Int)), (5, zi (e : Int)), (7, .inl (.int hh)), (8, zi (pt : Int)), (9, zi (so : Int)), (10, .inl (.long (zsta W))), (12, zi 0)] [2, 3, 4, 5, 6, 7, 8, 9, 10, 1, 0] [12, 10, 0, 1, 2, 3, 4, 5, 7, 8, 9] rfl rfl (by decide) ?_
              exact o_cut (d := d) hG he hI hpt hF (fun W1 h1 M1 c2 s2 r1 r2 r3 => q W1 h1 M1 c2 s2 r1 r2 (by have := r3.1; have := r3.2.1; have := r3.2.2; omega))
          · refine zX.re [(0, .inr (0, 0)), (1, .inr (10, 0)), (2, zi ((wd_L W).length : Int)), (3, zi (wd_pz W)), (4, zi (wd_pr W : Int)), (5, zi (e : Int)), (7, .inl (.int hh)), (8, zi (pt : Int)), (9, zi (so : Int)), (10, .inl (.long (zsta W))), (12, zi 0)] [2, 3, 4, 5, 6, 7, 8, 9, 10, 1, 0] [12, 10, 0, 1, 2, 3, 4, 5, 7, 8, 9] rfl rfl (by decide) ?_
            exact o_rea (d := d) hG he hI hpt hF (fun W1 h1 M1 c2 s2 r1 r2 r3 => q W1 h1 M1 c2 s2 r1 r2 (by have := r3.1; have := r3.2.1; have := r3.2.2; omega))
        · refine zX.re [(0, .inr (0, 0)), (1, .inr (10, 0)), (2, zi ((wd_L W).length : Int)), (3, zi (wd_pz W)), (4, zi (wd_pr W : Int)), (5, zi (e : Int)), (7, .inl (.int hh)), (8, zi (pt : Int)), (9, zi (so : Int)), (10, .inl (.long (zsta W))), (12, zi 0)] [2, 3, 4, 5, 6, 7, 8, 9, 10, 1, 0] [12, 10, 0, 1, 2, 3, 4, 5, 7, 8, 9] rfl rfl (by decide) ?_
          exact o_mark (d := d) hG he hI hpt hF (fun W1 h1 M1 c2 s2 r1 r2 r3 => q W1 h1 M1 c2 s2 r1 r2 (by have := r3.1; have := r3.2.1; have := r3.2.2; omega))
      · refine zX.re [(0, .inr (0, 0)), (1, .inr (10, 0)), (2, zi ((wd_L W).length : Int)), (3, zi (wd_pz W)), (4, zi (wd_pr W : Int)), (5, zi (e : Int)), (7, .inl (.int hh)), (8, zi (pt : Int)), (9, zi (so : Int)), (10, .inl (.long (zsta W))), (12, zi 0)] [2, 3, 4, 5, 6, 7, 8, 9, 10, 1, 0] [12, 10, 0, 1, 2, 3, 4, 5, 7, 8, 9] rfl rfl (by decide) ?_
        exact o_row (d := d) hG he hI hpt hF (fun W1 h1 M1 c2 s2 r1 r2 r3 => q W1 h1 M1 c2 s2 r1 r2 (by have := r3.1; have := r3.2.1; have := r3.2.2; omega))
    · refine zX.re [(0, .inr (0, 0)), (1, .inr (10, 0)), (2, zi ((wd_L W).length : Int)), (3, zi (wd_pz W)), (4, zi (wd_pr W : Int)), (5, zi (e : Int)), (7, .inl (.int hh)), (8, zi (pt : Int)), (9, zi (so : Int)), (10, .inl (.long (zsta W))), (12, zi 0)] [2, 3, 4, 5, 6, 7, 8, 9, 10, 1, 0] [12, 10, 0, 1, 2, 3, 4, 5, 7, 8, 9] rfl rfl (by decide) ?_
      exact o_slk (d := d) hG he hI hpt hF (fun W1 h1 M1 c2 s2 r1 r2 r3 => q W1 h1 M1 c2 s2 r1 r2 (by have := r3.1; have := r3.2.1; have := r3.2.2; omega))
  · refine zX.re [(0, .inr (0, 0)), (1, .inr (10, 0)), (2, zi ((wd_L W).length : Int)), (3, zi (wd_pz W)), (4, zi (wd_pr W : Int)), (5, zi (e : Int)), (7, .inl (.int hh)), (8, zi (pt : Int)), (9, zi (so : Int)), (10, .inl (.long (zsta W))), (12, zi 0)] [2, 3, 4, 5, 6, 7, 8, 9, 10, 1, 0] [12, 10, 0, 1, 2, 3, 4, 5, 7, 8, 9] rfl rfl (by decide) ?_
    exact o_view (d := d) hG he hI hpt hF (fun W1 h1 M1 c2 s2 r1 r2 r3 => q W1 h1 M1 c2 s2 r1 r2 (by have := r3.1; have := r3.2.1; have := r3.2.2; omega))
theorem zmsk31 (x : Int32) : ((.inl (.int (x &&& Int32.ofInt 31)) : xV)) = zi ((zmsk x 31 : Nat) : Int) := congrArg (fun z => (.inl (.int z) : xV)) (zmsk_eq x 31)
theorem zFd.scr (hF : zFd sc h M W) : h (0, 0) = sc := by
  obtain ⟨N, capv, capj, K, g, hM, hf, hA, hV, hP, hJ, hw, hps, hemp, hsc, hfe, hfv⟩ := id hF
  exact hsc
set_option maxHeartbeats 2000000 in
theorem l_b73 {gg hh : Int32} {pt : Nat} (hG : zGd I) (he : e < 60) (hI : I e W) (hpt : pt ≤ 3) (hF : zFd sc h M W)
    (q : ∀ W1 h1 M1 c1 s1, I (e + 1) W1 → zFd sc h1 M1 W1 → zCs 50 80300 M c s M1 c1 s1 → zX (d + 12) 174 18 [(0, .inr (0, 0)), (1, .inr (10, 0)), (2, zi ((wd_L W1).length : Int)), (3, zi (wd_pz W1)), (4, zi (wd_pr W1 : Int)), (5, zi ((e + 1 : Nat) : Int))] [] c1 s1 h1 Q) : zX (d + 12) 174 73 [(0, .inr (0, 0)), (1, .inr (10, 0)), (2, zi ((wd_L W).length : Int)), (3, zi (wd_pz W)), (4, zi (wd_pr W : Int)), (5, zi (e : Int)), (6, .inl (.int gg)), (7, .inl (.int hh)), (8, zi (pt : Int))] [] c s h Q := by
  refine zX.sn 1 (pc2 := 75) (l2 := [(0, .inr (0, 0)), (1, .inr (10, 0)), (2, zi ((wd_L W).length : Int)), (3, zi (wd_pz W)), (4, zi (wd_pr W : Int)), (5, zi (e : Int)), (6, .inl (.int gg)), (7, .inl (.int hh)), (8, zi (pt : Int))]) (st2 := [zi (e : Int)]) rfl ?_
  refine zX.sn 1 (pc2 := 76) (l2 := [(0, .inr (0, 0)), (1, .inr (10, 0)), (2, zi ((wd_L W).length : Int)), (3, zi (wd_pz W)), (4, zi (wd_pr W : Int)), (5, zi (e : Int)), (6, .inl (.int gg)), (7, .inl (.int hh)), (8, zi (pt : Int))]) (st2 := [zi 3, zi (e : Int)]) rfl ?_
  refine zX.icmp (tgt := 83) ⟨rfl, rfl⟩ rfl (by omega) (by omega) (fun (z1 : 3 ≤ (e : Int)) => ?_) (fun (z1 : (e : Int) < 3) => ?_)
  · refine zX.sn 1 (pc2 := 85) (l2 := [(0, .inr (0, 0)), (1, .inr (10, 0)), (2, zi ((wd_L W).length : Int)), (3, zi (wd_pz W)), (4, zi (wd_pr W : Int)), (5, zi (e : Int)), (6, .inl (.int gg)), (7, .inl (.int hh)), (8, zi (pt : Int))]) (st2 := [zi (e : Int)]) rfl ?_
    refine zX.sn 1 (pc2 := 87) (l2 := [(0, .inr (0, 0)), (1, .inr (10, 0)), (2, zi ((wd_L W).length : Int)), (3, zi (wd_pz W)), (4, zi (wd_pr W : Int)), (5, zi (e : Int)), (6, .inl (.int gg)), (7, .inl (.int hh)), (8, zi (pt : Int))]) (st2 := [zi 8, zi (e : Int)]) rfl ?_
    refine zX.icmp (tgt := 94) ⟨rfl, rfl⟩ rfl (by omega) (by omega) (fun (z2 : 8 ≤ (e : Int)) => ?_) (fun (z2 : (e : Int) < 8) => ?_)
    · refine zX.sn 1 (pc2 := 96) (l2 := [(0, .inr (0, 0)), (1, .inr (10, 0)), (2, zi ((wd_L W).length : Int)), (3, zi (wd_pz W)), (4, zi (wd_pr W : Int)), (5, zi (e : Int)), (6, .inl (.int gg)), (7, .inl (.int hh)), (8, zi (pt : Int))]) (st2 := [.inl (.int gg)]) rfl ?_
      refine zX.sn 1 (pc2 := 98) (l2 := [(0, .inr (0, 0)), (1, .inr (10, 0)), (2, zi ((wd_L W).length : Int)), (3, zi (wd_pz W)), (4, zi (wd_pr W : Int)), (5, zi (e : Int)), (6, .inl (.int gg)), (7, .inl (.int hh)), (8, zi (pt : Int))]) (st2 := [zi 31, .inl (.int gg)]) rfl ?_
      refine zX.sn 1 (pc2 := 99) (l2 := [(0, .inr (0, 0)), (1, .inr (10, 0)), (2, zi ((wd_L W).length : Int)), (3, zi (wd_pz W)), (4, zi (wd_pr W : Int)), (5, zi (e : Int)), (6, .inl (.int gg)), (7, .inl (.int hh)), (8, zi (pt : Int))]) (st2 := [.inl (.int (gg &&& (Int32.ofInt 31)))]) rfl ?_
      rw [zmsk31 gg]
      refine zX.sn 1 (pc2 := 101) (l2 := [(9, zi ((zmsk gg 31 : Nat) : Int)), (0, .inr (0, 0)), (1, .inr (10, 0)), (2, zi ((wd_L W).length : Int)), (3, zi (wd_pz W)), (4, zi (wd_pr W : Int)), (5, zi (e : Int)), (6, .inl (.int gg)), (7, .inl (.int hh)), (8, zi (pt : Int))]) (st2 := []) rfl ?_
      refine zX.re [(0, .inr (0, 0)), (1, .inr (10, 0)), (2, zi ((wd_L W).length : Int)), (3, zi (wd_pz W)), (4, zi (wd_pr W : Int)), (5, zi (e : Int)), (7, .inl (.int hh)), (8, zi (pt : Int)), (9, zi ((zmsk gg 31 : Nat) : Int))] [1, 2, 3, 4, 5, 6, 8, 9, 0] [9, 0, 1, 2, 3, 4, 5, 6, 7, 8] rfl rfl (by decide) ?_
      exact l_disp (d := d) hG he hI hpt hF (Nat.lt_of_le_of_lt (zmsk_le gg (by omega)) (by omega)) q
    · refine zX.sn 1 (pc2 := 91) (l2 := [(0, .inr (0, 0)), (1, .inr (10, 0)), (2, zi ((wd_L W).length : Int)), (3, zi (wd_pz W)), (4, zi (wd_pr W : Int)), (5, zi (e : Int)), (6, .inl (.int gg)), (7, .inl (.int hh)), (8, zi (pt : Int))]) (st2 := [zi 4]) rfl ?_
      refine zX.sn 1 (pc2 := 99) (l2 := [(0, .inr (0, 0)), (1, .inr (10, 0)), (2, zi ((wd_L W).length : Int)), (3, zi (wd_pz W)), (4, zi (wd_pr W : Int)), (5, zi (e : Int)), (6, .inl (.int gg)), (7, .inl (.int hh)), (8, zi (pt : Int))]) (st2 := [zi 4]) rfl ?_
      rw [show (zi 4 : xV) = zi ((4 : Nat) : Int) from rfl]
      refine zX.sn 1 (pc2 := 101) (l2 := [(9, zi ((4 : Nat) : Int)), (0, .inr (0, 0)), (1, .inr (10, 0)), (2, zi ((wd_L W).length : Int)), (3, zi (wd_pz W)), (4, zi (wd_pr W : Int)), (5, zi (e : Int)), (6, .inl (.int gg)), (7, .inl (.int hh)), (8, zi (pt : Int))]) (st2 := []) rfl ?_
      refine zX.re [(0, .inr (0, 0)), (1, .inr (10, 0)), (2, zi ((wd_L W).length : Int)), (3, zi (wd_pz W)), (4, zi (wd_pr W : Int)), (5, zi (e : Int)), (7, .inl (.int hh)), (8, zi (pt : Int)), (9, zi ((4 : Nat) : Int))] [1, 2, 3, 4, 5, 6, 8, 9, 0] [9, 0, 1, 2, 3, 4, 5, 6, 7, 8] rfl rfl (by decide) ?_
      exact l_disp (d := d) hG he hI hpt hF (by omega) q
  · refine zX.sn 1 (pc2 := 80) (l2 := [(0, .inr (0, 0)), (1, .inr (10, 0)), (2, zi ((wd_L W).length : Int)), (3, zi (wd_pz W)), (4, zi (wd_pr W : Int)), (5, zi (e : Int)), (6, .inl (.int gg)), (7, .inl (.int hh)), (8, zi (pt : Int))]) (st2 := [zi 0]) rfl ?_
    refine zX.sn 1 (pc2 := 99) (l2 := [(0, .inr (0, 0)), (1, .inr (10, 0)), (2, zi ((wd_L W).length : Int)), (3, zi (wd_pz W)), (4, zi (wd_pr W : Int)), (5, zi (e : Int)), (6, .inl (.int gg)), (7, .inl (.int hh)), (8, zi (pt : Int))]) (st2 := [zi 0]) rfl ?_
    rw [show (zi 0 : xV) = zi ((0 : Nat) : Int) from rfl]
    refine zX.sn 1 (pc2 := 101) (l2 := [(9, zi ((0 : Nat) : Int)), (0, .inr (0, 0)), (1, .inr (10, 0)), (2, zi ((wd_L W).length : Int)), (3, zi (wd_pz W)), (4, zi (wd_pr W : Int)), (5, zi (e : Int)), (6, .inl (.int gg)), (7, .inl (.int hh)), (8, zi (pt : Int))]) (st2 := []) rfl ?_
    refine zX.re [(0, .inr (0, 0)), (1, .inr (10, 0)), (2, zi ((wd_L W).length : Int)), (3, zi (wd_pz W)), (4, zi (wd_pr W : Int)), (5, zi (e : Int)), (7, .inl (.int hh)), (8, zi (pt : Int)), (9, zi ((0 : Nat) : Int))] [1, 2, 3, 4, 5, 6, 8, 9, 0] [9, 0, 1, 2, 3, 4, 5, 6, 7, 8] rfl rfl (by decide) ?_
    exact l_disp (d := d) hG he hI hpt hF (by omega) q
set_option maxHeartbeats 2000000 in
theorem l_body {n : Nat} {f : Nat → Int32} (hn : n ≤ 1000) (hsc : sc = some (.inr (9, n, zI f))) (hG : zGd I) (he : e < 60) (hI : I e W) (hF : zFd sc h M W)
    (q : ∀ W1 h1 M1 c1 s1, I (e + 1) W1 → zFd sc h1 M1 W1 → zCs 50 80300 M c s M1 c1 s1 → zX (d + 12) 174 18 [(0, .inr (0, 0)), (1, .inr (10, 0)), (2, zi ((wd_L W1).length : Int)), (3, zi (wd_pz W1)), (4, zi (wd_pr W1 : Int)), (5, zi ((e + 1 : Nat) : Int))] [] c1 s1 h1 Q) : zX (d + 12) 174 18 [(0, .inr (0, 0)), (1, .inr (10, 0)), (2, zi ((wd_L W).length : Int)), (3, zi (wd_pz W)), (4, zi (wd_pr W : Int)), (5, zi (e : Int))] [] c s h Q := by
  have hs0 : h (0, 0) = some (.inr (9, n, zI f)) := hF.scr.trans hsc
  refine zX.sn 1 (pc2 := 20) (l2 := [(0, .inr (0, 0)), (1, .inr (10, 0)), (2, zi ((wd_L W).length : Int)), (3, zi (wd_pz W)), (4, zi (wd_pr W : Int)), (5, zi (e : Int))]) (st2 := [zi (e : Int)]) rfl ?_
  refine zX.sn 1 (pc2 := 22) (l2 := [(0, .inr (0, 0)), (1, .inr (10, 0)), (2, zi ((wd_L W).length : Int)), (3, zi (wd_pz W)), (4, zi (wd_pr W : Int)), (5, zi (e : Int))]) (st2 := [zi 60, zi (e : Int)]) rfl ?_
  refine zX.icmp (tgt := 823) ⟨rfl, rfl⟩ rfl (by omega) (by omega) (fun (zz : 60 ≤ (e : Int)) => absurd zz (by omega)) (fun _ => ?_)
  refine zX.sn 1 (pc2 := 26) (l2 := [(0, .inr (0, 0)), (1, .inr (10, 0)), (2, zi ((wd_L W).length : Int)), (3, zi (wd_pz W)), (4, zi (wd_pr W : Int)), (5, zi (e : Int))]) (st2 := [.inr (0, 0)]) rfl ?_
  refine zX.sn 1 (pc2 := 27) (l2 := [(0, .inr (0, 0)), (1, .inr (10, 0)), (2, zi ((wd_L W).length : Int)), (3, zi (wd_pz W)), (4, zi (wd_pr W : Int)), (5, zi (e : Int))]) (st2 := [zi 2, .inr (0, 0)]) rfl ?_
  refine zX.sn 1 (pc2 := 29) (l2 := [(0, .inr (0, 0)), (1, .inr (10, 0)), (2, zi ((wd_L W).length : Int)), (3, zi (wd_pz W)), (4, zi (wd_pr W : Int)), (5, zi (e : Int))]) (st2 := [zi (e : Int), zi 2, .inr (0, 0)]) rfl ?_
  refine zX.imul ⟨rfl, rfl⟩ ?_
  rw [show (2 * (e : Int)) = ((2 * e : Nat) : Int) from rfl]
  refine zX.call (mid2 := 168) (as := [.inr (0, 0), zi ((2 * e : Nat) : Int)]) (rest := []) ⟨rfl, rfl⟩ (fun _ => rfl) rfl ⟨Nat.le_of_ble_eq_true rfl, Nat.le_of_ble_eq_true rfl⟩ ?_
  refine s_cell (k := 2 * e) hs0 hn (by omega) ?_
  show zX _ 174 33 [(0, .inr (0, 0)), (1, .inr (10, 0)), (2, zi ((wd_L W).length : Int)), (3, zi (wd_pz W)), (4, zi (wd_pr W : Int)), (5, zi (e : Int))] [.inl (.int (zce n f (2 * e)))] c s _ _
  refine zX.sn 1 (pc2 := 35) (l2 := [(6, .inl (.int (zce n f (2 * e)))), (0, .inr (0, 0)), (1, .inr (10, 0)), (2, zi ((wd_L W).length : Int)), (3, zi (wd_pz W)), (4, zi (wd_pr W : Int)), (5, zi (e : Int))]) (st2 := []) rfl ?_
  refine zX.sn 1 (pc2 := 36) (l2 := [(6, .inl (.int (zce n f (2 * e)))), (0, .inr (0, 0)), (1, .inr (10, 0)), (2, zi ((wd_L W).length : Int)), (3, zi (wd_pz W)), (4, zi (wd_pr W : Int)), (5, zi (e : Int))]) (st2 := [.inr (0, 0)]) rfl ?_
  refine zX.sn 1 (pc2 := 37) (l2 := [(6, .inl (.int (zce n f (2 * e)))), (0, .inr (0, 0)), (1, .inr (10, 0)), (2, zi ((wd_L W).length : Int)), (3, zi (wd_pz W)), (4, zi (wd_pr W : Int)), (5, zi (e : Int))]) (st2 := [zi 2, .inr (0, 0)]) rfl ?_
  refine zX.sn 1 (pc2 := 39) (l2 := [(6, .inl (.int (zce n f (2 * e)))), (0, .inr (0, 0)), (1, .inr (10, 0)), (2, zi ((wd_L W).length : Int)), (3, zi (wd_pz W)), (4, zi (wd_pr W : Int)), (5, zi (e : Int))]) (st2 := [zi (e : Int), zi 2, .inr (0, 0)]) rfl ?_
  refine zX.imul ⟨rfl, rfl⟩ ?_
  refine zX.sn 1 (pc2 := 41) (l2 := [(6, .inl (.int (zce n f (2 * e)))), (0, .inr (0, 0)), (1, .inr (10, 0)), (2, zi ((wd_L W).length : Int)), (3, zi (wd_pz W)), (4, zi (wd_pr W : Int)), (5, zi (e : Int))]) (st2 := [zi 1, zi (2 * (e : Int)), .inr (0, 0)]) rfl ?_
  refine zX.iadd ⟨rfl, rfl⟩ ?_
  rw [show ((2 * (e : Int)) + 1) = ((2 * e + 1 : Nat) : Int) from rfl]
  refine zX.call (mid2 := 168) (as := [.inr (0, 0), zi ((2 * e + 1 : Nat) : Int)]) (rest := []) ⟨rfl, rfl⟩ (fun _ => rfl) rfl ⟨Nat.le_of_ble_eq_true rfl, Nat.le_of_ble_eq_true rfl⟩ ?_
  refine s_cell (k := 2 * e + 1) hs0 hn (by omega) ?_
  show zX _ 174 45 [(6, .inl (.int (zce n f (2 * e)))), (0, .inr (0, 0)), (1, .inr (10, 0)), (2, zi ((wd_L W).length : Int)), (3, zi (wd_pz W)), (4, zi (wd_pr W : Int)), (5, zi (e : Int))] [.inl (.int (zce n f (2 * e + 1)))] c s _ _
  refine zX.sn 1 (pc2 := 47) (l2 := [(7, .inl (.int (zce n f (2 * e + 1)))), (6, .inl (.int (zce n f (2 * e)))), (0, .inr (0, 0)), (1, .inr (10, 0)), (2, zi ((wd_L W).length : Int)), (3, zi (wd_pz W)), (4, zi (wd_pr W : Int)), (5, zi (e : Int))]) (st2 := []) rfl ?_
  generalize zce n f (2 * e) = gg
  generalize zce n f (2 * e + 1) = hh
  show zX _ 174 47 [(7, .inl (.int hh)), (6, .inl (.int gg)), (0, .inr (0, 0)), (1, .inr (10, 0)), (2, zi ((wd_L W).length : Int)), (3, zi (wd_pz W)), (4, zi (wd_pr W : Int)), (5, zi (e : Int))] [] c s _ _
  refine zX.sn 1 (pc2 := 49) (l2 := [(7, .inl (.int hh)), (6, .inl (.int gg)), (0, .inr (0, 0)), (1, .inr (10, 0)), (2, zi ((wd_L W).length : Int)), (3, zi (wd_pz W)), (4, zi (wd_pr W : Int)), (5, zi (e : Int))]) (st2 := [.inl (.int gg)]) rfl ?_
  refine zX.sn 1 (pc2 := 50) (l2 := [(7, .inl (.int hh)), (6, .inl (.int gg)), (0, .inr (0, 0)), (1, .inr (10, 0)), (2, zi ((wd_L W).length : Int)), (3, zi (wd_pz W)), (4, zi (wd_pr W : Int)), (5, zi (e : Int))]) (st2 := [zi 5, .inl (.int gg)]) rfl ?_
  refine zX.sn 1 (pc2 := 51) (l2 := [(7, .inl (.int hh)), (6, .inl (.int gg)), (0, .inr (0, 0)), (1, .inr (10, 0)), (2, zi ((wd_L W).length : Int)), (3, zi (wd_pz W)), (4, zi (wd_pr W : Int)), (5, zi (e : Int))]) (st2 := [.inl (.int (gg >>> ((Int32.ofInt 5) &&& 31)))]) rfl ?_
  refine zX.sn 1 (pc2 := 52) (l2 := [(7, .inl (.int hh)), (6, .inl (.int gg)), (0, .inr (0, 0)), (1, .inr (10, 0)), (2, zi ((wd_L W).length : Int)), (3, zi (wd_pz W)), (4, zi (wd_pr W : Int)), (5, zi (e : Int))]) (st2 := [zi 3, .inl (.int (gg >>> ((Int32.ofInt 5) &&& 31)))]) rfl ?_
  refine zX.call (mid2 := 169) (as := [.inl (.int (gg >>> ((Int32.ofInt 5) &&& 31))), zi 3]) (rest := []) ⟨rfl, rfl⟩ (fun _ => rfl) rfl ⟨Nat.le_of_ble_eq_true rfl, Nat.le_of_ble_eq_true rfl⟩ ?_
  refine s_low (x := (gg >>> ((Int32.ofInt 5) &&& 31))) (n := 3) (by omega) ?_
  show zX _ 174 55 [(7, .inl (.int hh)), (6, .inl (.int gg)), (0, .inr (0, 0)), (1, .inr (10, 0)), (2, zi ((wd_L W).length : Int)), (3, zi (wd_pz W)), (4, zi (wd_pr W : Int)), (5, zi (e : Int))] [zi (zlo (gg >>> ((Int32.ofInt 5) &&& 31)) 3 : Int)] c s _ _
  have hb55 := zlo_lt (x := (gg >>> ((Int32.ofInt 5) &&& 31))) (n := 3) (by omega)
  refine zX.sn 1 (pc2 := 57) (l2 := [(7, .inl (.int hh)), (6, .inl (.int gg)), (0, .inr (0, 0)), (1, .inr (10, 0)), (2, zi ((wd_L W).length : Int)), (3, zi (wd_pz W)), (4, zi (wd_pr W : Int)), (5, zi (e : Int))]) (st2 := [.inl (.int gg), zi (zlo (gg >>> ((Int32.ofInt 5) &&& 31)) 3 : Int)]) rfl ?_
  refine zX.sn 1 (pc2 := 59) (l2 := [(7, .inl (.int hh)), (6, .inl (.int gg)), (0, .inr (0, 0)), (1, .inr (10, 0)), (2, zi ((wd_L W).length : Int)), (3, zi (wd_pz W)), (4, zi (wd_pr W : Int)), (5, zi (e : Int))]) (st2 := [zi 29, .inl (.int gg), zi (zlo (gg >>> ((Int32.ofInt 5) &&& 31)) 3 : Int)]) rfl ?_
  refine zX.call (mid2 := 169) (as := [.inl (.int gg), zi 29]) (rest := [zi (zlo (gg >>> ((Int32.ofInt 5) &&& 31)) 3 : Int)]) ⟨rfl, rfl⟩ (fun _ => rfl) rfl ⟨Nat.le_of_ble_eq_true rfl, Nat.le_of_ble_eq_true rfl⟩ ?_
  refine s_low (x := gg) (n := 29) (by omega) ?_
  show zX _ 174 62 [(7, .inl (.int hh)), (6, .inl (.int gg)), (0, .inr (0, 0)), (1, .inr (10, 0)), (2, zi ((wd_L W).length : Int)), (3, zi (wd_pz W)), (4, zi (wd_pr W : Int)), (5, zi (e : Int))] [zi (zlo gg 29 : Int), zi (zlo (gg >>> ((Int32.ofInt 5) &&& 31)) 3 : Int)] c s _ _
  have hb62 := zlo_lt (x := gg) (n := 29) (by omega)
  have h3 := zlo_lt (x := gg >>> ((Int32.ofInt 5) &&& 31)) (n := 3) (by omega)
  refine zX.icmp0 (tgt := 69) ⟨rfl, rfl⟩ rfl (by omega) (fun (z : ¬ (zlo gg 29 : Int) = 0) => ?_) (fun (z : (zlo gg 29 : Int) = 0) => ?_)
  · refine zX.sn 1 (pc2 := 70) (l2 := [(7, .inl (.int hh)), (6, .inl (.int gg)), (0, .inr (0, 0)), (1, .inr (10, 0)), (2, zi ((wd_L W).length : Int)), (3, zi (wd_pz W)), (4, zi (wd_pr W : Int)), (5, zi (e : Int))]) (st2 := [zi 0, zi (zlo (gg >>> ((Int32.ofInt 5) &&& 31)) 3 : Int)]) rfl ?_
    refine zX.iadd ⟨rfl, rfl⟩ ?_
    rw [show ((zlo (gg >>> ((Int32.ofInt 5) &&& 31)) 3 : Int) + 0) = ((zlo (gg >>> ((Int32.ofInt 5) &&& 31)) 3 + 0 : Nat) : Int) from rfl]
    refine zX.sn 1 (pc2 := 73) (l2 := [(8, zi ((zlo (gg >>> ((Int32.ofInt 5) &&& 31)) 3 + 0 : Nat) : Int)), (7, .inl (.int hh)), (6, .inl (.int gg)), (0, .inr (0, 0)), (1, .inr (10, 0)), (2, zi ((wd_L W).length : Int)), (3, zi (wd_pz W)), (4, zi (wd_pr W : Int)), (5, zi (e : Int))]) (st2 := []) rfl ?_
    refine zX.re [(0, .inr (0, 0)), (1, .inr (10, 0)), (2, zi ((wd_L W).length : Int)), (3, zi (wd_pz W)), (4, zi (wd_pr W : Int)), (5, zi (e : Int)), (6, .inl (.int gg)), (7, .inl (.int hh)), (8, zi ((zlo (gg >>> ((Int32.ofInt 5) &&& 31)) 3 + 0 : Nat) : Int))] [3, 4, 5, 6, 7, 8, 2, 1, 0] [8, 7, 6, 0, 1, 2, 3, 4, 5] rfl rfl (by decide) ?_
    exact l_b73 (d := d) hG he hI (by omega) hF q
  · refine zX.sn 1 (pc2 := 66) (l2 := [(7, .inl (.int hh)), (6, .inl (.int gg)), (0, .inr (0, 0)), (1, .inr (10, 0)), (2, zi ((wd_L W).length : Int)), (3, zi (wd_pz W)), (4, zi (wd_pr W : Int)), (5, zi (e : Int))]) (st2 := [zi 1, zi (zlo (gg >>> ((Int32.ofInt 5) &&& 31)) 3 : Int)]) rfl ?_
    refine zX.sn 1 (pc2 := 70) (l2 := [(7, .inl (.int hh)), (6, .inl (.int gg)), (0, .inr (0, 0)), (1, .inr (10, 0)), (2, zi ((wd_L W).length : Int)), (3, zi (wd_pz W)), (4, zi (wd_pr W : Int)), (5, zi (e : Int))]) (st2 := [zi 1, zi (zlo (gg >>> ((Int32.ofInt 5) &&& 31)) 3 : Int)]) rfl ?_
    refine zX.iadd ⟨rfl, rfl⟩ ?_
    rw [show ((zlo (gg >>> ((Int32.ofInt 5) &&& 31)) 3 : Int) + 1) = ((zlo (gg >>> ((Int32.ofInt 5) &&& 31)) 3 + 1 : Nat) : Int) from rfl]
    refine zX.sn 1 (pc2 := 73) (l2 := [(8, zi ((zlo (gg >>> ((Int32.ofInt 5) &&& 31)) 3 + 1 : Nat) : Int)), (7, .inl (.int hh)), (6, .inl (.int gg)), (0, .inr (0, 0)), (1, .inr (10, 0)), (2, zi ((wd_L W).length : Int)), (3, zi (wd_pz W)), (4, zi (wd_pr W : Int)), (5, zi (e : Int))]) (st2 := []) rfl ?_
    refine zX.re [(0, .inr (0, 0)), (1, .inr (10, 0)), (2, zi ((wd_L W).length : Int)), (3, zi (wd_pz W)), (4, zi (wd_pr W : Int)), (5, zi (e : Int)), (6, .inl (.int gg)), (7, .inl (.int hh)), (8, zi ((zlo (gg >>> ((Int32.ofInt 5) &&& 31)) 3 + 1 : Nat) : Int))] [3, 4, 5, 6, 7, 8, 2, 1, 0] [8, 7, 6, 0, 1, 2, 3, 4, 5] rfl rfl (by decide) ?_
    exact l_b73 (d := d) hG he hI (by omega) hF q
theorem l_loop {n X Y : Nat} {f : Nat → Int32} (hn : n ≤ 1000) (hsc : sc = some (.inr (9, n, zI f))) (hG : zGd I) : ∀ (k e : Nat) (W : zWl) (h : xH) (M c s : Nat), e + k = 60 → I e W → zFd sc h M W → c + 60 * k ≤ M + X → s + 81000 * k ≤ 4 * M + Y →
    (∀ W1 h1 M1 c1 s1, I 60 W1 → zFd sc h1 M1 W1 → c1 ≤ M1 + X → s1 ≤ 4 * M1 + Y → zX (d + 12) 174 18 [(0, .inr (0, 0)), (1, .inr (10, 0)), (2, zi ((wd_L W1).length : Int)), (3, zi (wd_pz W1)), (4, zi (wd_pr W1 : Int)), (5, zi ((60 : Nat) : Int))] [] c1 s1 h1 Q) → zX (d + 12) 174 18 [(0, .inr (0, 0)), (1, .inr (10, 0)), (2, zi ((wd_L W).length : Int)), (3, zi (wd_pz W)), (4, zi (wd_pr W : Int)), (5, zi (e : Int))] [] c s h Q := by
  intro k
  induction k with
  | zero =>
    intro e W h M c s he hI hF hc hs q
    obtain rfl : e = 60 := he
    exact q W h M c s hI hF (by omega) (by omega)
  | succ k ih =>
    intro e W h M c s he hI hF hc hs q
    refine l_body (d := d) hn hsc hG (by omega) hI hF (fun W1 h1 M1 c1 s1 r1 r2 r3 => ?_)
    have r31 := r3.1
    have r32 := r3.2.1
    have r33 := r3.2.2
    exact ih (e + 1) W1 h1 M1 c1 s1 (by omega) r1 r2 (by omega) (by omega) q
theorem l_end (hF : zFd sc h M W) (q : ∀ c1 s1 h1, c1 ≤ c + 5 → s1 ≤ s + 50 → Q (.inl (some (zi 1))) c1 s1 h1) : zX (d + 12) 174 18 [(0, .inr (0, 0)), (1, .inr (10, 0)), (2, zi ((wd_L W).length : Int)), (3, zi (wd_pz W)), (4, zi (wd_pr W : Int)), (5, zi ((60 : Nat) : Int))] [] c s h Q := by
  have hl5 := hF.l5
  refine zX.sn 1 (pc2 := 20) (l2 := [(0, .inr (0, 0)), (1, .inr (10, 0)), (2, zi ((wd_L W).length : Int)), (3, zi (wd_pz W)), (4, zi (wd_pr W : Int)), (5, zi ((60 : Nat) : Int))]) (st2 := [zi ((60 : Nat) : Int)]) rfl ?_
  refine zX.sn 1 (pc2 := 22) (l2 := [(0, .inr (0, 0)), (1, .inr (10, 0)), (2, zi ((wd_L W).length : Int)), (3, zi (wd_pz W)), (4, zi (wd_pr W : Int)), (5, zi ((60 : Nat) : Int))]) (st2 := [zi 60, zi ((60 : Nat) : Int)]) rfl ?_
  refine zX.icmp (tgt := 823) ⟨rfl, rfl⟩ rfl (by omega) (by omega) (fun _ => ?_) (fun (zz : ((60 : Nat) : Int) < 60) => absurd zz (by omega))
  refine zX.sn 1 (pc2 := 824) (l2 := [(0, .inr (0, 0)), (1, .inr (10, 0)), (2, zi ((wd_L W).length : Int)), (3, zi (wd_pz W)), (4, zi (wd_pr W : Int)), (5, zi ((60 : Nat) : Int))]) (st2 := [.inr (10, 0)]) rfl ?_
  refine zX.sn 1 (pc2 := 826) (l2 := [(0, .inr (0, 0)), (1, .inr (10, 0)), (2, zi ((wd_L W).length : Int)), (3, zi (wd_pz W)), (4, zi (wd_pr W : Int)), (5, zi ((60 : Nat) : Int))]) (st2 := [zi 7, .inr (10, 0)]) rfl ?_
  refine zX.sn 1 (pc2 := 827) (l2 := [(0, .inr (0, 0)), (1, .inr (10, 0)), (2, zi ((wd_L W).length : Int)), (3, zi (wd_pz W)), (4, zi (wd_pr W : Int)), (5, zi ((60 : Nat) : Int))]) (st2 := [zi ((wd_L W).length : Int), zi 7, .inr (10, 0)]) rfl ?_
  refine zX.sn 1 (pc2 := 828) (l2 := [(0, .inr (0, 0)), (1, .inr (10, 0)), (2, zi ((wd_L W).length : Int)), (3, zi (wd_pz W)), (4, zi (wd_pr W : Int)), (5, zi ((60 : Nat) : Int))]) (st2 := [zi 0, zi ((wd_L W).length : Int), zi 7, .inr (10, 0)]) rfl ?_
  refine zX.sn 1 (pc2 := 829) (l2 := [(0, .inr (0, 0)), (1, .inr (10, 0)), (2, zi ((wd_L W).length : Int)), (3, zi (wd_pz W)), (4, zi (wd_pr W : Int)), (5, zi ((60 : Nat) : Int))]) (st2 := [zi 0, zi 0, zi ((wd_L W).length : Int), zi 7, .inr (10, 0)]) rfl ?_
  refine zX.sn 1 (pc2 := 830) (l2 := [(0, .inr (0, 0)), (1, .inr (10, 0)), (2, zi ((wd_L W).length : Int)), (3, zi (wd_pz W)), (4, zi (wd_pr W : Int)), (5, zi ((60 : Nat) : Int))]) (st2 := [zi 0, zi 0, zi 0, zi ((wd_L W).length : Int), zi 7, .inr (10, 0)]) rfl ?_
  refine zX.call (mid2 := 170) (as := [.inr (10, 0), zi 7, zi ((wd_L W).length : Int), zi 0, zi 0, zi 0]) (rest := []) ⟨rfl, rfl⟩ (fun _ => rfl) rfl ⟨Nat.le_of_ble_eq_true rfl, Nat.le_of_ble_eq_true rfl⟩ ?_
  refine x_told (d := d + 1) (by omega) hF ?_
  show zX _ 174 833 [(0, .inr (0, 0)), (1, .inr (10, 0)), (2, zi ((wd_L W).length : Int)), (3, zi (wd_pz W)), (4, zi (wd_pr W : Int)), (5, zi ((60 : Nat) : Int))] [zi (-1001)] (c + 1) (s + 6) _ _
  refine zX.sn 1 (pc2 := 836) (l2 := [(0, .inr (0, 0)), (1, .inr (10, 0)), (2, zi ((wd_L W).length : Int)), (3, zi (wd_pz W)), (4, zi (wd_pr W : Int)), (5, zi ((60 : Nat) : Int))]) (st2 := [zi (-1001), zi (-1001)]) rfl ?_
  refine zX.icmp (tgt := 885) ⟨rfl, rfl⟩ rfl (by omega) (by omega) (fun (zz : ¬ ((-1001) : Int) = (-1001)) => absurd zz (by omega)) (fun _ => ?_)
  refine zX.sn 1 (pc2 := 840) (l2 := [(0, .inr (0, 0)), (1, .inr (10, 0)), (2, zi ((wd_L W).length : Int)), (3, zi (wd_pz W)), (4, zi (wd_pr W : Int)), (5, zi ((60 : Nat) : Int))]) (st2 := [.inr (10, 0)]) rfl ?_
  refine zX.sn 1 (pc2 := 841) (l2 := [(0, .inr (0, 0)), (1, .inr (10, 0)), (2, zi ((wd_L W).length : Int)), (3, zi (wd_pz W)), (4, zi (wd_pr W : Int)), (5, zi ((60 : Nat) : Int))]) (st2 := [zi 5, .inr (10, 0)]) rfl ?_
  refine zX.sn 1 (pc2 := 842) (l2 := [(0, .inr (0, 0)), (1, .inr (10, 0)), (2, zi ((wd_L W).length : Int)), (3, zi (wd_pz W)), (4, zi (wd_pr W : Int)), (5, zi ((60 : Nat) : Int))]) (st2 := [zi 3, zi 5, .inr (10, 0)]) rfl ?_
  refine zX.sn 1 (pc2 := 843) (l2 := [(0, .inr (0, 0)), (1, .inr (10, 0)), (2, zi ((wd_L W).length : Int)), (3, zi (wd_pz W)), (4, zi (wd_pr W : Int)), (5, zi ((60 : Nat) : Int))]) (st2 := [zi 0, zi 3, zi 5, .inr (10, 0)]) rfl ?_
  refine zX.sn 1 (pc2 := 844) (l2 := [(0, .inr (0, 0)), (1, .inr (10, 0)), (2, zi ((wd_L W).length : Int)), (3, zi (wd_pz W)), (4, zi (wd_pr W : Int)), (5, zi ((60 : Nat) : Int))]) (st2 := [zi 0, zi 0, zi 3, zi 5, .inr (10, 0)]) rfl ?_
  refine zX.sn 1 (pc2 := 845) (l2 := [(0, .inr (0, 0)), (1, .inr (10, 0)), (2, zi ((wd_L W).length : Int)), (3, zi (wd_pz W)), (4, zi (wd_pr W : Int)), (5, zi ((60 : Nat) : Int))]) (st2 := [zi 0, zi 0, zi 0, zi 3, zi 5, .inr (10, 0)]) rfl ?_
  refine zX.call (mid2 := 170) (as := [.inr (10, 0), zi 5, zi 3, zi 0, zi 0, zi 0]) (rest := []) ⟨rfl, rfl⟩ (fun _ => rfl) rfl ⟨Nat.le_of_ble_eq_true rfl, Nat.le_of_ble_eq_true rfl⟩ ?_
  refine x_placeP (d := d + 1) (p := 3) (by omega) hF ?_
  show zX _ 174 848 [(0, .inr (0, 0)), (1, .inr (10, 0)), (2, zi ((wd_L W).length : Int)), (3, zi (wd_pz W)), (4, zi (wd_pr W : Int)), (5, zi ((60 : Nat) : Int))] [zi (-1002)] (c + 1 + 1) (s + 6 + 6) _ _
  refine zX.sn 1 (pc2 := 851) (l2 := [(0, .inr (0, 0)), (1, .inr (10, 0)), (2, zi ((wd_L W).length : Int)), (3, zi (wd_pz W)), (4, zi (wd_pr W : Int)), (5, zi ((60 : Nat) : Int))]) (st2 := [zi (-1002), zi (-1002)]) rfl ?_
  refine zX.icmp (tgt := 885) ⟨rfl, rfl⟩ rfl (by omega) (by omega) (fun (zz : ¬ ((-1002) : Int) = (-1002)) => absurd zz (by omega)) (fun _ => ?_)
  refine zX.sn 1 (pc2 := 855) (l2 := [(0, .inr (0, 0)), (1, .inr (10, 0)), (2, zi ((wd_L W).length : Int)), (3, zi (wd_pz W)), (4, zi (wd_pr W : Int)), (5, zi ((60 : Nat) : Int))]) (st2 := [.inr (10, 0)]) rfl ?_
  refine zX.sn 1 (pc2 := 857) (l2 := [(0, .inr (0, 0)), (1, .inr (10, 0)), (2, zi ((wd_L W).length : Int)), (3, zi (wd_pz W)), (4, zi (wd_pr W : Int)), (5, zi ((60 : Nat) : Int))]) (st2 := [zi 10, .inr (10, 0)]) rfl ?_
  refine zX.sn 1 (pc2 := 858) (l2 := [(0, .inr (0, 0)), (1, .inr (10, 0)), (2, zi ((wd_L W).length : Int)), (3, zi (wd_pz W)), (4, zi (wd_pr W : Int)), (5, zi ((60 : Nat) : Int))]) (st2 := [zi 0, zi 10, .inr (10, 0)]) rfl ?_
  refine zX.sn 1 (pc2 := 860) (l2 := [(0, .inr (0, 0)), (1, .inr (10, 0)), (2, zi ((wd_L W).length : Int)), (3, zi (wd_pz W)), (4, zi (wd_pr W : Int)), (5, zi ((60 : Nat) : Int))]) (st2 := [zi 9, zi 0, zi 10, .inr (10, 0)]) rfl ?_
  refine zX.sn 1 (pc2 := 861) (l2 := [(0, .inr (0, 0)), (1, .inr (10, 0)), (2, zi ((wd_L W).length : Int)), (3, zi (wd_pz W)), (4, zi (wd_pr W : Int)), (5, zi ((60 : Nat) : Int))]) (st2 := [zi 0, zi 9, zi 0, zi 10, .inr (10, 0)]) rfl ?_
  refine zX.sn 1 (pc2 := 862) (l2 := [(0, .inr (0, 0)), (1, .inr (10, 0)), (2, zi ((wd_L W).length : Int)), (3, zi (wd_pz W)), (4, zi (wd_pr W : Int)), (5, zi ((60 : Nat) : Int))]) (st2 := [zi 0, zi 0, zi 9, zi 0, zi 10, .inr (10, 0)]) rfl ?_
  by_cases hl0 : 0 < (wd_L W).length
  · have hx := List.getElem?_eq_getElem hl0
    generalize (wd_L W)[0] = X at hx
    obtain ⟨C, S⟩ := X
    have hz : zfF C S 9 = (-1005) := if_pos (zck_9 _ _ _)
    refine zX.call (mid2 := 170) (as := [.inr (10, 0), zi 10, zi 0, zi 9, zi 0, zi 0]) (rest := []) ⟨rfl, rfl⟩ (fun _ => rfl) rfl ⟨Nat.le_of_ble_eq_true rfl, Nat.le_of_ble_eq_true rfl⟩ ?_
    refine k_first (d := d + 1) (i := 0) (by omega) hx hF (fun c1 s1 hcs => ?_)
    rw [hz]
    show zX _ 174 865 [(0, .inr (0, 0)), (1, .inr (10, 0)), (2, zi ((wd_L W).length : Int)), (3, zi (wd_pz W)), (4, zi (wd_pr W : Int)), (5, zi ((60 : Nat) : Int))] [zi (-1005)] c1 s1 _ _
    refine zX.sn 1 (pc2 := 866) (l2 := [(0, .inr (0, 0)), (1, .inr (10, 0)), (2, zi ((wd_L W).length : Int)), (3, zi (wd_pz W)), (4, zi (wd_pr W : Int)), (5, zi ((60 : Nat) : Int))]) (st2 := [zi ((wd_L W).length : Int), zi (-1005)]) rfl ?_
    refine zX.icmp0 (tgt := 875) ⟨rfl, rfl⟩ rfl (by omega) (fun (zz : ((wd_L W).length : Int) ≤ 0) => absurd zz (by omega)) (fun _ => ?_)
    refine zX.sn 1 (pc2 := 872) (l2 := [(0, .inr (0, 0)), (1, .inr (10, 0)), (2, zi ((wd_L W).length : Int)), (3, zi (wd_pz W)), (4, zi (wd_pr W : Int)), (5, zi ((60 : Nat) : Int))]) (st2 := [zi (-1005), zi (-1005)]) rfl ?_
    refine zX.sn 1 (pc2 := 878) (l2 := [(0, .inr (0, 0)), (1, .inr (10, 0)), (2, zi ((wd_L W).length : Int)), (3, zi (wd_pz W)), (4, zi (wd_pr W : Int)), (5, zi ((60 : Nat) : Int))]) (st2 := [zi (-1005), zi (-1005)]) rfl ?_
    refine zX.icmp (tgt := 885) ⟨rfl, rfl⟩ rfl (by omega) (by omega) (fun (zz : ¬ ((-1005) : Int) = (-1005)) => absurd zz (by omega)) (fun _ => ?_)
    refine zX.sn 1 (pc2 := 882) (l2 := [(0, .inr (0, 0)), (1, .inr (10, 0)), (2, zi ((wd_L W).length : Int)), (3, zi (wd_pz W)), (4, zi (wd_pr W : Int)), (5, zi ((60 : Nat) : Int))]) (st2 := [zi 1]) rfl ?_
    refine zX.sn 1 (pc2 := 886) (l2 := [(0, .inr (0, 0)), (1, .inr (10, 0)), (2, zi ((wd_L W).length : Int)), (3, zi (wd_pz W)), (4, zi (wd_pr W : Int)), (5, zi ((60 : Nat) : Int))]) (st2 := [zi 1]) rfl ?_
    refine zX.ret rfl (zret_z rfl (by decide)) ?_
    exact q c1 s1 h (by omega) (by omega)
  · refine zX.call (mid2 := 170) (as := [.inr (10, 0), zi 10, zi 0, zi 9, zi 0, zi 0]) (rest := []) ⟨rfl, rfl⟩ (fun _ => rfl) rfl ⟨Nat.le_of_ble_eq_true rfl, Nat.le_of_ble_eq_true rfl⟩ ?_
    refine x_first (d := d + 1) (i := 0) (by omega) hF ?_
    show zX _ 174 865 [(0, .inr (0, 0)), (1, .inr (10, 0)), (2, zi ((wd_L W).length : Int)), (3, zi (wd_pz W)), (4, zi (wd_pr W : Int)), (5, zi ((60 : Nat) : Int))] [zi (-1001)] (c + 1 + 1 + 1) (s + 6 + 6 + 6) _ _
    refine zX.sn 1 (pc2 := 866) (l2 := [(0, .inr (0, 0)), (1, .inr (10, 0)), (2, zi ((wd_L W).length : Int)), (3, zi (wd_pz W)), (4, zi (wd_pr W : Int)), (5, zi ((60 : Nat) : Int))]) (st2 := [zi ((wd_L W).length : Int), zi (-1001)]) rfl ?_
    refine zX.icmp0 (tgt := 875) ⟨rfl, rfl⟩ rfl (by omega) (fun _ => ?_) (fun (zz : 0 < ((wd_L W).length : Int)) => absurd zz (by omega))
    refine zX.sn 1 (pc2 := 878) (l2 := [(0, .inr (0, 0)), (1, .inr (10, 0)), (2, zi ((wd_L W).length : Int)), (3, zi (wd_pz W)), (4, zi (wd_pr W : Int)), (5, zi ((60 : Nat) : Int))]) (st2 := [zi (-1001), zi (-1001)]) rfl ?_
    refine zX.icmp (tgt := 885) ⟨rfl, rfl⟩ rfl (by omega) (by omega) (fun (zz : ¬ ((-1001) : Int) = (-1001)) => absurd zz (by omega)) (fun _ => ?_)
    refine zX.sn 1 (pc2 := 882) (l2 := [(0, .inr (0, 0)), (1, .inr (10, 0)), (2, zi ((wd_L W).length : Int)), (3, zi (wd_pz W)), (4, zi (wd_pr W : Int)), (5, zi ((60 : Nat) : Int))]) (st2 := [zi 1]) rfl ?_
    refine zX.sn 1 (pc2 := 886) (l2 := [(0, .inr (0, 0)), (1, .inr (10, 0)), (2, zi ((wd_L W).length : Int)), (3, zi (wd_pz W)), (4, zi (wd_pr W : Int)), (5, zi ((60 : Nat) : Int))]) (st2 := [zi 1]) rfl ?_
    refine zX.ret rfl (zret_z rfl (by decide)) ?_
    exact q _ _ h (by omega) (by omega)
/-- a new foundry -/
def zW0 : zWl := (((fun _ => zP0), [], ([], [])), (false, false, false), (0, 0, 0, 0), zwk 8, fun _ => 0)
theorem zAL.cap {ro i cap : Nat} {xs : List (Nat × Nat)} (hA : zAL h ro i cap xs) : cap ≤ 108 := by
  obtain ⟨-, -, -, -, -, -, -, z⟩ := hA
  exact z
theorem zVi.kle {N k1 k2 k3 v : Nat} {C : zCf} {T : zSt × List Int64} (hV : zVi h N k1 k2 k3 v C T) : k1 + k2 + k3 ≤ 324 := by
  rcases hV with ⟨c, -⟩ | ⟨c, -⟩ | ⟨c, r, ⟨v1, v2, v3, v4, v5, fb, v6⟩, v7⟩ | ⟨c, r, ⟨v1, v2, v3, v4, v5, v6, ⟨fb, v7⟩, Ag, v8⟩, v9, v10⟩
  · omega
  · omega
  · have := v4.cap
    omega
  · have := v4.cap
    have := v5.cap
    have := v8.cap
    omega
theorem zFd.room (hF : zFd sc h M W) : M ≤ 330000 := by
  obtain ⟨N, capv, capj, K, g, hM, hf, hA, hV, hP, hJ, hw, hps, hemp, hsc, hfe, hfv⟩ := id hF
  have h1 := hA.cap
  have h2 := hJ.1.cap
  have h30 := (hP.2 0 (by omega)).2.1.cap
  have h31 := (hP.2 1 (by omega)).2.1.cap
  have h32 := (hP.2 2 (by omega)).2.1.cap
  obtain ⟨fo, o1, o2, o3, o4, o5, o6, o7⟩ := hV.1
  have hk : ∀ i, zK1 (K i) ≤ 324 := fun i => by
    by_cases hi : i < (wd_L W).length
    · exact (hV.2.2 i (wd_L W)[i].1 (wd_L W)[i].2 (List.getElem?_eq_getElem hi)).kle
    · rw [hV.2.1.2 i (by omega)]
      exact Nat.zero_le _
  have hk5 : zKm K 5 = zK1 (K 0) + zK1 (K 1) + zK1 (K 2) + zK1 (K 3) + zK1 (K 4) := by
    show 0 + zK1 (K 0) + zK1 (K 1) + zK1 (K 2) + zK1 (K 3) + zK1 (K 4) = _
    omega
  have k0 := hk 0
  have k1 := hk 1
  have k2 := hk 2
  have k3 := hk 3
  have k4 := hk 4
  have hpc : zPc (wd_P W) = (wd_P W 0).2.2.2.1 + (wd_P W 1).2.2.2.1 + (wd_P W 2).2.2.2.1 := rfl
  omega
/-- the law answers true -/
theorem s_law {n : Nat} {f : Nat → Int32} {g : Nat → xV} (hn : n ≤ 1000) (hG : zGd I) (hI0 : I 0 zW0) (hs : h (0, 0) = some (.inr (9, n, zI f))) (hemp : h (0, 1) = some (.inr (4, 0, g))) (hfr : ∀ a b : Nat, 2 ≤ a ∧ a < 60 → h (a, b) = none) (q : ∀ c1 s1 h1, c1 ≤ 400000 → s1 ≤ 7000000 → Q (.inl (some (zi 1))) c1 s1 h1) : zX (d + 12) 174 0 [(0, .inr (0, 0))] [] 0 0 h Q := by
  refine zX.new (10, 0) ⟨rfl, rfl⟩ (hfr 10 0 (by omega)) (by decide) ?_
  show zX _ 174 3 [(0, .inr (0, 0))] [.inr (10, 0)] (0 + 1) (0 + 13) (xup h (10, 0) (.inl (10, [.inl .null, .inl .null, .inl .null, .inl .null, .inl .null, .inl .null, zi 0, zi 0, zi 0, zi 0, zi 0, zi 0, zi 0]))) _
  generalize hh1 : xup h (10, 0) (.inl (10, [.inl .null, .inl .null, .inl .null, .inl .null, .inl .null, .inl .null, zi 0, zi 0, zi 0, zi 0, zi 0, zi 0, zi 0])) = h1
  have hs1 : h1 (10, 0) = some (.inl (10, [.inl .null, .inl .null, .inl .null, .inl .null, .inl .null, .inl .null, zi 0, zi 0, zi 0, zi 0, zi 0, zi 0, zi 0])) := by
    rw [← hh1]
    exact zup_s
  have hn1 : ∀ a b : Nat, ¬ (a = 10 ∧ b = 0) → h1 (a, b) = h (a, b) := fun a b hn => by
    rw [← hh1]
    exact zup_n (zn (by omega)) rfl
  refine zX.sn 1 (pc2 := 4) (l2 := [(0, .inr (0, 0))]) (st2 := [.inr (10, 0), .inr (10, 0)]) rfl ?_
  refine zX.call (mid2 := 99) (as := [.inr (10, 0)]) (rest := [.inr (10, 0)]) ⟨rfl, rfl⟩ (fun _ => rfl) rfl ⟨Nat.le_of_ble_eq_true rfl, Nat.le_of_ble_eq_true rfl⟩ ?_
  refine s_init (d := d + 3) ((hn1 _ _ (by omega)).trans hemp) hs1 (fun a b z1 z2 => (hn1 _ _ (by omega)).trans (hfr a b z1)) (fun h2 c2 s2 a1 a2 a3 a4 a5 a6 a7 a8 a9 => ?_)
  show zX _ 174 7 [(0, .inr (0, 0))] [.inr (10, 0)] c2 s2 _ _
  refine zX.sn 1 (pc2 := 8) (l2 := [(1, .inr (10, 0)), (0, .inr (0, 0))]) (st2 := []) rfl ?_
  refine zX.sn 1 (pc2 := 9) (l2 := [(1, .inr (10, 0)), (0, .inr (0, 0))]) (st2 := [zi 0]) rfl ?_
  refine zX.sn 1 (pc2 := 10) (l2 := [(2, zi 0), (1, .inr (10, 0)), (0, .inr (0, 0))]) (st2 := []) rfl ?_
  refine zX.sn 1 (pc2 := 11) (l2 := [(2, zi 0), (1, .inr (10, 0)), (0, .inr (0, 0))]) (st2 := [zi (-1)]) rfl ?_
  refine zX.sn 1 (pc2 := 12) (l2 := [(3, zi (-1)), (2, zi 0), (1, .inr (10, 0)), (0, .inr (0, 0))]) (st2 := []) rfl ?_
  refine zX.sn 1 (pc2 := 13) (l2 := [(3, zi (-1)), (2, zi 0), (1, .inr (10, 0)), (0, .inr (0, 0))]) (st2 := [zi 0]) rfl ?_
  refine zX.sn 1 (pc2 := 15) (l2 := [(4, zi 0), (3, zi (-1)), (2, zi 0), (1, .inr (10, 0)), (0, .inr (0, 0))]) (st2 := []) rfl ?_
  refine zX.sn 1 (pc2 := 16) (l2 := [(4, zi 0), (3, zi (-1)), (2, zi 0), (1, .inr (10, 0)), (0, .inr (0, 0))]) (st2 := [zi 0]) rfl ?_
  refine zX.sn 1 (pc2 := 18) (l2 := [(5, zi 0), (4, zi 0), (3, zi (-1)), (2, zi 0), (1, .inr (10, 0)), (0, .inr (0, 0))]) (st2 := []) rfl ?_
  refine zX.re [(0, .inr (0, 0)), (1, .inr (10, 0)), (2, zi 0), (3, zi (-1)), (4, zi 0), (5, zi 0)] [5, 4, 3, 2, 1, 0] [5, 4, 3, 2, 1, 0] rfl rfl (by decide) ?_
  have hF : zFd (some (.inr (9, n, zI f))) h2 64 zW0 := by
    have hb : ∀ a b : Nat, ¬ (2 ≤ a ∧ a < 4 ∨ 5 ≤ a ∧ a < 8 ∨ 10 ≤ a ∧ a < 19) → h2 (a, b) = h (a, b) := fun a b z => (a8 a b z).trans (hn1 a b (by omega))
    refine ⟨64, 0, 0, fun _ => (0, 0, 0), g, rfl, a1, a3, ⟨a5, ⟨Nat.zero_le _, fun _ _ => rfl⟩, (fun i C S hi => (by cases hi))⟩, a2, ⟨a4, (fun x hx => (by cases hx)), Nat.zero_le _⟩, a6, a7, (hb 0 1 (by omega)).trans hemp, (hb 0 0 (by omega)).trans hs, fun p i hp hi => (hb 8 _ (by omega)).trans (hfr 8 _ (by omega)), fun hr a b z1 z2 z3 => (hb a b (by omega)).trans (hfr a b (by omega))⟩
  refine l_loop (d := d) (X := 4000) (Y := 4863000) hn rfl hG 60 0 zW0 h2 64 c2 s2 rfl hI0 hF (by omega) (by omega) (fun W1 h3 M1 c3 s3 r1 r2 r3 r4 => ?_)
  have hr := r2.room
  exact l_end (d := d) r2 (fun c4 s4 h4 z1 z2 => q c4 s4 h4 (by omega) (by omega))
end YA7
