set_option maxRecDepth 100000
section YA6
variable {d : Nat} {Q : xR → Nat → Nat → xH → Prop} {sc : Option xO} {h : xH} {M c s : Nat} {W W1 : zWl} {I : Nat → zWl → Prop} {e : Nat}
theorem zrN_place {p : Nat} {R : zQd → Prop} (hR : ∀ X x, R X → (X.1 p).2.2.2.2[(X.1 p).1]? = some x → zrOk p X x ∧ R (zrS1 p X x)) : ∀ (n : Nat) (X : zQd), R X → ((zrN p n X).1 p).1 = (X.1 p).1 + zrC p n X ∧ zrC p n X ≤ n := by
  intro n
  induction n with
  | zero => intro X _; exact ⟨rfl, Nat.le_refl _⟩
  | succ n ih =>
    intro X hX
    cases hx : (X.1 p).2.2.2.2[(X.1 p).1]? with
    | none =>
      have hN : zrN p (n + 1) X = X := by
        show (match (X.1 p).2.2.2.2[(X.1 p).1]? with
          | some e => zrN p n (zrS1 p X e)
          | none => X) = X
        rw [hx]
      have hC : zrC p (n + 1) X = 0 := by
        show (match (X.1 p).2.2.2.2[(X.1 p).1]? with
          | some e => zrC p n (zrS1 p X e) + 1
          | none => 0) = 0
        rw [hx]
      rw [hN, hC]
      exact ⟨rfl, Nat.zero_le _⟩
    | some x =>
      have hN : zrN p (n + 1) X = zrN p n (zrS1 p X x) := by
        show (match (X.1 p).2.2.2.2[(X.1 p).1]? with
          | some e => zrN p n (zrS1 p X e)
          | none => X) = _
        rw [hx]
      have hC : zrC p (n + 1) X = zrC p n (zrS1 p X x) + 1 := by
        show (match (X.1 p).2.2.2.2[(X.1 p).1]? with
          | some e => zrC p n (zrS1 p X e) + 1
          | none => 0) = _
        rw [hx]
      obtain ⟨h1, h2⟩ := hR X x hX hx
      obtain ⟨i1, i2⟩ := ih _ h2
      rw [hN, hC, i1]
      have hp : ((zrS1 p X x).1 p).1 = (X.1 p).1 + 1 := by
        show ((if p = zeP x then _ else _ : zPT)).1 = _
        rw [if_pos h1.1.symm]
        show ((if p = p then _ else _ : zPT)).1 + 1 = _
        rw [if_pos rfl]
      rw [hp]
      omega
theorem zaT_len {e : zE} : ∀ (n i : Nat) (G : zVL × List Int64), (zaT e n i G).1.length = G.1.length := by
  intro n
  induction n with
  | zero => intro i G; rfl
  | succ n ih =>
    intro i G
    show (zaT e n (i + 1) (zaT1 e i G)).1.length = _
    rw [ih]
    unfold zaT1
    split
    · split
      · exact List.length_set
      · rfl
    · rfl
theorem zaD_len {b m : Int} : ∀ (n i : Nat) (G : zVL × List Int64), (zaD b m n i G).1.length = G.1.length := by
  intro n
  induction n with
  | zero => intro i G; rfl
  | succ n ih =>
    intro i G
    show (zaD b m n (i + 1) (zaD1 b m i G)).1.length = _
    rw [ih]
    unfold zaD1
    split
    · exact List.length_set
    · rfl
theorem zaAp_len {e : zE} {P : Nat → zPT} {G : zVL × List Int64} : (zaAp e P G).1.length = G.1.length := by
  unfold zaAp
  split
  · rw [zaD_len, zaT_len]
  · exact zaT_len _ _ _
theorem zrN_vlen : ∀ (n : Nat) (X : zQd) (p : Nat), (zrN p n X).2.2.1.length = X.2.2.1.length := by
  intro n
  induction n with
  | zero => intro X p; rfl
  | succ n ih =>
    intro X p
    have stp : zrN p (n + 1) X = match (X.1 p).2.2.2.2[(X.1 p).1]? with
      | some e => zrN p n (zrS1 p X e)
      | none => X := rfl
    rw [stp]
    split
    next e he =>
      rw [ih]
      exact zaAp_len
    next => rfl
set_option maxHeartbeats 2000000 in
theorem o_rea {hh : Int32} {pt so : Nat} (hG : zGd I) (he : e < 60) (hI : I e W) (hpt : pt ≤ 3) (hF : zFd sc h M W) 
    (q : ∀ W1 h1 M1 c1 s1, I (e + 1) W1 → zFd sc h1 M1 W1 → zCs 40 80200 M c s M1 c1 s1 → zX (d + 12) 174 18 [(0, .inr (0, 0)), (1, .inr (10, 0)), (2, zi ((wd_L W1).length : Int)), (3, zi (wd_pz W1)), (4, zi (wd_pr W1 : Int)), (5, zi ((e + 1 : Nat) : Int))] [] c1 s1 h1 Q) : zX (d + 12) 174 471 [(0, .inr (0, 0)), (1, .inr (10, 0)), (2, zi ((wd_L W).length : Int)), (3, zi (wd_pz W)), (4, zi (wd_pr W : Int)), (5, zi (e : Int)), (7, .inl (.int hh)), (8, zi (pt : Int)), (9, zi (so : Int)), (10, .inl (.long (zsta W))), (12, zi 0)] [] c s h Q := by
  have hc := hG.1 _ _ hI
  have hO := hF.ole
  have hp1 := hc.2.1.1
  refine zX.sn 1 (pc2 := 473) (l2 := [(0, .inr (0, 0)), (1, .inr (10, 0)), (2, zi ((wd_L W).length : Int)), (3, zi (wd_pz W)), (4, zi (wd_pr W : Int)), (5, zi (e : Int)), (7, .inl (.int hh)), (8, zi (pt : Int)), (9, zi (so : Int)), (10, .inl (.long (zsta W))), (12, zi 0)]) (st2 := [zi (pt : Int)]) rfl ?_
  refine zX.sn 1 (pc2 := 474) (l2 := [(0, .inr (0, 0)), (1, .inr (10, 0)), (2, zi ((wd_L W).length : Int)), (3, zi (wd_pz W)), (4, zi (wd_pr W : Int)), (5, zi (e : Int)), (7, .inl (.int hh)), (8, zi (pt : Int)), (9, zi (so : Int)), (10, .inl (.long (zsta W))), (12, zi 0)]) (st2 := [zi 3, zi (pt : Int)]) rfl ?_
  refine zX.icmp (tgt := 490) ⟨rfl, rfl⟩ rfl (by omega) (by omega) (fun (hp : 3 ≤ (pt : Int)) => ?_) (fun (hp : (pt : Int) < 3) => ?_)
  · refine zX.sn 1 (pc2 := 491) (l2 := [(0, .inr (0, 0)), (1, .inr (10, 0)), (2, zi ((wd_L W).length : Int)), (3, zi (wd_pz W)), (4, zi (wd_pr W : Int)), (5, zi (e : Int)), (7, .inl (.int hh)), (8, zi (pt : Int)), (9, zi (so : Int)), (10, .inl (.long (zsta W))), (12, zi 0)]) (st2 := [zi 0]) rfl ?_
    refine zX.sn 1 (pc2 := 493) (l2 := [(13, zi 0), (0, .inr (0, 0)), (1, .inr (10, 0)), (2, zi ((wd_L W).length : Int)), (3, zi (wd_pz W)), (4, zi (wd_pr W : Int)), (5, zi (e : Int)), (7, .inl (.int hh)), (8, zi (pt : Int)), (9, zi (so : Int)), (10, .inl (.long (zsta W))), (12, zi 0)]) (st2 := []) rfl ?_
    refine zX.sn 1 (pc2 := 494) (l2 := [(13, zi 0), (0, .inr (0, 0)), (1, .inr (10, 0)), (2, zi ((wd_L W).length : Int)), (3, zi (wd_pz W)), (4, zi (wd_pr W : Int)), (5, zi (e : Int)), (7, .inl (.int hh)), (8, zi (pt : Int)), (9, zi (so : Int)), (10, .inl (.long (zsta W))), (12, zi 0)]) (st2 := [.inr (10, 0)]) rfl ?_
    refine zX.sn 1 (pc2 := 495) (l2 := [(13, zi 0), (0, .inr (0, 0)), (1, .inr (10, 0)), (2, zi ((wd_L W).length : Int)), (3, zi (wd_pz W)), (4, zi (wd_pr W : Int)), (5, zi (e : Int)), (7, .inl (.int hh)), (8, zi (pt : Int)), (9, zi (so : Int)), (10, .inl (.long (zsta W))), (12, zi 0)]) (st2 := [zi 4, .inr (10, 0)]) rfl ?_
    refine zX.sn 1 (pc2 := 497) (l2 := [(13, zi 0), (0, .inr (0, 0)), (1, .inr (10, 0)), (2, zi ((wd_L W).length : Int)), (3, zi (wd_pz W)), (4, zi (wd_pr W : Int)), (5, zi (e : Int)), (7, .inl (.int hh)), (8, zi (pt : Int)), (9, zi (so : Int)), (10, .inl (.long (zsta W))), (12, zi 0)]) (st2 := [zi (pt : Int), zi 4, .inr (10, 0)]) rfl ?_
    refine zX.sn 1 (pc2 := 499) (l2 := [(13, zi 0), (0, .inr (0, 0)), (1, .inr (10, 0)), (2, zi ((wd_L W).length : Int)), (3, zi (wd_pz W)), (4, zi (wd_pr W : Int)), (5, zi (e : Int)), (7, .inl (.int hh)), (8, zi (pt : Int)), (9, zi (so : Int)), (10, .inl (.long (zsta W))), (12, zi 0)]) (st2 := [.inl (.int hh), zi (pt : Int), zi 4, .inr (10, 0)]) rfl ?_
    refine zX.sn 1 (pc2 := 501) (l2 := [(13, zi 0), (0, .inr (0, 0)), (1, .inr (10, 0)), (2, zi ((wd_L W).length : Int)), (3, zi (wd_pz W)), (4, zi (wd_pr W : Int)), (5, zi (e : Int)), (7, .inl (.int hh)), (8, zi (pt : Int)), (9, zi (so : Int)), (10, .inl (.long (zsta W))), (12, zi 0)]) (st2 := [zi 8, .inl (.int hh), zi (pt : Int), zi 4, .inr (10, 0)]) rfl ?_
    refine zX.call (mid2 := 169) (as := [.inl (.int hh), zi 8]) (rest := [zi (pt : Int), zi 4, .inr (10, 0)]) ⟨rfl, rfl⟩ (fun _ => rfl) rfl ⟨Nat.le_of_ble_eq_true rfl, Nat.le_of_ble_eq_true rfl⟩ ?_
    refine s_low (x := hh) (n := 8) (by omega) ?_
    show zX _ 174 504 [(13, zi 0), (0, .inr (0, 0)), (1, .inr (10, 0)), (2, zi ((wd_L W).length : Int)), (3, zi (wd_pz W)), (4, zi (wd_pr W : Int)), (5, zi (e : Int)), (7, .inl (.int hh)), (8, zi (pt : Int)), (9, zi (so : Int)), (10, .inl (.long (zsta W))), (12, zi 0)] [zi (zlo hh 8 : Int), zi (pt : Int), zi 4, .inr (10, 0)] c s _ _
    refine zX.sn 1 (pc2 := 505) (l2 := [(13, zi 0), (0, .inr (0, 0)), (1, .inr (10, 0)), (2, zi ((wd_L W).length : Int)), (3, zi (wd_pz W)), (4, zi (wd_pr W : Int)), (5, zi (e : Int)), (7, .inl (.int hh)), (8, zi (pt : Int)), (9, zi (so : Int)), (10, .inl (.long (zsta W))), (12, zi 0)]) (st2 := [zi 0, zi (zlo hh 8 : Int), zi (pt : Int), zi 4, .inr (10, 0)]) rfl ?_
    refine zX.sn 1 (pc2 := 506) (l2 := [(13, zi 0), (0, .inr (0, 0)), (1, .inr (10, 0)), (2, zi ((wd_L W).length : Int)), (3, zi (wd_pz W)), (4, zi (wd_pr W : Int)), (5, zi (e : Int)), (7, .inl (.int hh)), (8, zi (pt : Int)), (9, zi (so : Int)), (10, .inl (.long (zsta W))), (12, zi 0)]) (st2 := [zi 0, zi 0, zi (zlo hh 8 : Int), zi (pt : Int), zi 4, .inr (10, 0)]) rfl ?_
    refine zX.call (mid2 := 170) (as := [.inr (10, 0), zi 4, zi (pt : Int), zi (zlo hh 8 : Int), zi 0, zi 0]) (rest := []) ⟨rfl, rfl⟩ (fun _ => rfl) rfl ⟨Nat.le_of_ble_eq_true rfl, Nat.le_of_ble_eq_true rfl⟩ ?_
    refine x_readP (d := d + 1) (by omega) hF ?_
    show zX _ 174 509 [(13, zi 0), (0, .inr (0, 0)), (1, .inr (10, 0)), (2, zi ((wd_L W).length : Int)), (3, zi (wd_pz W)), (4, zi (wd_pr W : Int)), (5, zi (e : Int)), (7, .inl (.int hh)), (8, zi (pt : Int)), (9, zi (so : Int)), (10, .inl (.long (zsta W))), (12, zi 0)] [zi (-1002)] (c + 1) (s + 6) _ _
    refine zX.sn 1 (pc2 := 511) (l2 := [(12, zi (-1002)), (13, zi 0), (0, .inr (0, 0)), (1, .inr (10, 0)), (2, zi ((wd_L W).length : Int)), (3, zi (wd_pz W)), (4, zi (wd_pr W : Int)), (5, zi (e : Int)), (7, .inl (.int hh)), (8, zi (pt : Int)), (9, zi (so : Int)), (10, .inl (.long (zsta W)))]) (st2 := []) rfl ?_
    refine zX.sn 1 (pc2 := 513) (l2 := [(12, zi (-1002)), (13, zi 0), (0, .inr (0, 0)), (1, .inr (10, 0)), (2, zi ((wd_L W).length : Int)), (3, zi (wd_pz W)), (4, zi (wd_pr W : Int)), (5, zi (e : Int)), (7, .inl (.int hh)), (8, zi (pt : Int)), (9, zi (so : Int)), (10, .inl (.long (zsta W)))]) (st2 := [zi (-1002)]) rfl ?_
    refine zX.icmp0 (x := (-1002)) (tgt := 536) ⟨rfl, rfl⟩ rfl (by omega) (fun _ => ?_) (fun (zz : 0 ≤ ((-1002) : Int)) => absurd zz (by omega))
    refine zX.sn 1 (pc2 := 781) (l2 := [(12, zi (-1002)), (13, zi 0), (0, .inr (0, 0)), (1, .inr (10, 0)), (2, zi ((wd_L W).length : Int)), (3, zi (wd_pz W)), (4, zi (wd_pr W : Int)), (5, zi (e : Int)), (7, .inl (.int hh)), (8, zi (pt : Int)), (9, zi (so : Int)), (10, .inl (.long (zsta W)))]) (st2 := []) rfl ?_
    refine zX.re [(0, .inr (0, 0)), (1, .inr (10, 0)), (2, zi ((wd_L W).length : Int)), (3, zi (wd_pz W)), (4, zi (wd_pr W : Int)), (5, zi (e : Int)), (10, .inl (.long (zsta W))), (12, zi (-1002))] [2, 3, 4, 5, 6, 7, 11, 0] [12, 13, 0, 1, 2, 3, 4, 5, 7, 8, 9, 10] rfl rfl (by decide) ?_
    refine l_tail (d := d) (W := W) (W1 := W) (gt := (-1002)) (by omega) (Or.inr rfl) (hG.1 _ _ (hG.2.2.1 e W he hI)) he hF (fun h9 M9 c9 s9 r1 r2 => q W h9 M9 c9 s9 (hG.2.2.1 e W he hI) r1 (by have := r2.1; have := r2.2.1; have := r2.2.2; omega))
  · have hp : pt < 3 := by omega
    have hm8 := zlo_lt (x := hh) (n := 8) (by omega)
    refine zX.sn 1 (pc2 := 478) (l2 := [(0, .inr (0, 0)), (1, .inr (10, 0)), (2, zi ((wd_L W).length : Int)), (3, zi (wd_pz W)), (4, zi (wd_pr W : Int)), (5, zi (e : Int)), (7, .inl (.int hh)), (8, zi (pt : Int)), (9, zi (so : Int)), (10, .inl (.long (zsta W))), (12, zi 0)]) (st2 := [.inr (10, 0)]) rfl ?_
    refine zX.sn 1 (pc2 := 479) (l2 := [(0, .inr (0, 0)), (1, .inr (10, 0)), (2, zi ((wd_L W).length : Int)), (3, zi (wd_pz W)), (4, zi (wd_pr W : Int)), (5, zi (e : Int)), (7, .inl (.int hh)), (8, zi (pt : Int)), (9, zi (so : Int)), (10, .inl (.long (zsta W))), (12, zi 0)]) (st2 := [zi 5, .inr (10, 0)]) rfl ?_
    refine zX.sn 1 (pc2 := 481) (l2 := [(0, .inr (0, 0)), (1, .inr (10, 0)), (2, zi ((wd_L W).length : Int)), (3, zi (wd_pz W)), (4, zi (wd_pr W : Int)), (5, zi (e : Int)), (7, .inl (.int hh)), (8, zi (pt : Int)), (9, zi (so : Int)), (10, .inl (.long (zsta W))), (12, zi 0)]) (st2 := [zi (pt : Int), zi 5, .inr (10, 0)]) rfl ?_
    refine zX.sn 1 (pc2 := 482) (l2 := [(0, .inr (0, 0)), (1, .inr (10, 0)), (2, zi ((wd_L W).length : Int)), (3, zi (wd_pz W)), (4, zi (wd_pr W : Int)), (5, zi (e : Int)), (7, .inl (.int hh)), (8, zi (pt : Int)), (9, zi (so : Int)), (10, .inl (.long (zsta W))), (12, zi 0)]) (st2 := [zi 0, zi (pt : Int), zi 5, .inr (10, 0)]) rfl ?_
    refine zX.sn 1 (pc2 := 483) (l2 := [(0, .inr (0, 0)), (1, .inr (10, 0)), (2, zi ((wd_L W).length : Int)), (3, zi (wd_pz W)), (4, zi (wd_pr W : Int)), (5, zi (e : Int)), (7, .inl (.int hh)), (8, zi (pt : Int)), (9, zi (so : Int)), (10, .inl (.long (zsta W))), (12, zi 0)]) (st2 := [zi 0, zi 0, zi (pt : Int), zi 5, .inr (10, 0)]) rfl ?_
    refine zX.sn 1 (pc2 := 484) (l2 := [(0, .inr (0, 0)), (1, .inr (10, 0)), (2, zi ((wd_L W).length : Int)), (3, zi (wd_pz W)), (4, zi (wd_pr W : Int)), (5, zi (e : Int)), (7, .inl (.int hh)), (8, zi (pt : Int)), (9, zi (so : Int)), (10, .inl (.long (zsta W))), (12, zi 0)]) (st2 := [zi 0, zi 0, zi 0, zi (pt : Int), zi 5, .inr (10, 0)]) rfl ?_
    refine zX.call (mid2 := 170) (as := [.inr (10, 0), zi 5, zi (pt : Int), zi 0, zi 0, zi 0]) (rest := []) ⟨rfl, rfl⟩ (fun _ => rfl) rfl ⟨Nat.le_of_ble_eq_true rfl, Nat.le_of_ble_eq_true rfl⟩ ?_
    refine k_place (d := d + 1) hp hF ?_
    show zX _ 174 487 [(0, .inr (0, 0)), (1, .inr (10, 0)), (2, zi ((wd_L W).length : Int)), (3, zi (wd_pz W)), (4, zi (wd_pr W : Int)), (5, zi (e : Int)), (7, .inl (.int hh)), (8, zi (pt : Int)), (9, zi (so : Int)), (10, .inl (.long (zsta W))), (12, zi 0)] [zi ((wd_P W pt).1 : Int)] c s _ _
    refine zX.sn 1 (pc2 := 491) (l2 := [(0, .inr (0, 0)), (1, .inr (10, 0)), (2, zi ((wd_L W).length : Int)), (3, zi (wd_pz W)), (4, zi (wd_pr W : Int)), (5, zi (e : Int)), (7, .inl (.int hh)), (8, zi (pt : Int)), (9, zi (so : Int)), (10, .inl (.long (zsta W))), (12, zi 0)]) (st2 := [zi ((wd_P W pt).1 : Int)]) rfl ?_
    refine zX.sn 1 (pc2 := 493) (l2 := [(13, zi ((wd_P W pt).1 : Int)), (0, .inr (0, 0)), (1, .inr (10, 0)), (2, zi ((wd_L W).length : Int)), (3, zi (wd_pz W)), (4, zi (wd_pr W : Int)), (5, zi (e : Int)), (7, .inl (.int hh)), (8, zi (pt : Int)), (9, zi (so : Int)), (10, .inl (.long (zsta W))), (12, zi 0)]) (st2 := []) rfl ?_
    refine zX.sn 1 (pc2 := 494) (l2 := [(13, zi ((wd_P W pt).1 : Int)), (0, .inr (0, 0)), (1, .inr (10, 0)), (2, zi ((wd_L W).length : Int)), (3, zi (wd_pz W)), (4, zi (wd_pr W : Int)), (5, zi (e : Int)), (7, .inl (.int hh)), (8, zi (pt : Int)), (9, zi (so : Int)), (10, .inl (.long (zsta W))), (12, zi 0)]) (st2 := [.inr (10, 0)]) rfl ?_
    refine zX.sn 1 (pc2 := 495) (l2 := [(13, zi ((wd_P W pt).1 : Int)), (0, .inr (0, 0)), (1, .inr (10, 0)), (2, zi ((wd_L W).length : Int)), (3, zi (wd_pz W)), (4, zi (wd_pr W : Int)), (5, zi (e : Int)), (7, .inl (.int hh)), (8, zi (pt : Int)), (9, zi (so : Int)), (10, .inl (.long (zsta W))), (12, zi 0)]) (st2 := [zi 4, .inr (10, 0)]) rfl ?_
    refine zX.sn 1 (pc2 := 497) (l2 := [(13, zi ((wd_P W pt).1 : Int)), (0, .inr (0, 0)), (1, .inr (10, 0)), (2, zi ((wd_L W).length : Int)), (3, zi (wd_pz W)), (4, zi (wd_pr W : Int)), (5, zi (e : Int)), (7, .inl (.int hh)), (8, zi (pt : Int)), (9, zi (so : Int)), (10, .inl (.long (zsta W))), (12, zi 0)]) (st2 := [zi (pt : Int), zi 4, .inr (10, 0)]) rfl ?_
    refine zX.sn 1 (pc2 := 499) (l2 := [(13, zi ((wd_P W pt).1 : Int)), (0, .inr (0, 0)), (1, .inr (10, 0)), (2, zi ((wd_L W).length : Int)), (3, zi (wd_pz W)), (4, zi (wd_pr W : Int)), (5, zi (e : Int)), (7, .inl (.int hh)), (8, zi (pt : Int)), (9, zi (so : Int)), (10, .inl (.long (zsta W))), (12, zi 0)]) (st2 := [.inl (.int hh), zi (pt : Int), zi 4, .inr (10, 0)]) rfl ?_
    refine zX.sn 1 (pc2 := 501) (l2 := [(13, zi ((wd_P W pt).1 : Int)), (0, .inr (0, 0)), (1, .inr (10, 0)), (2, zi ((wd_L W).length : Int)), (3, zi (wd_pz W)), (4, zi (wd_pr W : Int)), (5, zi (e : Int)), (7, .inl (.int hh)), (8, zi (pt : Int)), (9, zi (so : Int)), (10, .inl (.long (zsta W))), (12, zi 0)]) (st2 := [zi 8, .inl (.int hh), zi (pt : Int), zi 4, .inr (10, 0)]) rfl ?_
    refine zX.call (mid2 := 169) (as := [.inl (.int hh), zi 8]) (rest := [zi (pt : Int), zi 4, .inr (10, 0)]) ⟨rfl, rfl⟩ (fun _ => rfl) rfl ⟨Nat.le_of_ble_eq_true rfl, Nat.le_of_ble_eq_true rfl⟩ ?_
    refine s_low (x := hh) (n := 8) (by omega) ?_
    show zX _ 174 504 [(13, zi ((wd_P W pt).1 : Int)), (0, .inr (0, 0)), (1, .inr (10, 0)), (2, zi ((wd_L W).length : Int)), (3, zi (wd_pz W)), (4, zi (wd_pr W : Int)), (5, zi (e : Int)), (7, .inl (.int hh)), (8, zi (pt : Int)), (9, zi (so : Int)), (10, .inl (.long (zsta W))), (12, zi 0)] [zi (zlo hh 8 : Int), zi (pt : Int), zi 4, .inr (10, 0)] c s _ _
    refine zX.sn 1 (pc2 := 505) (l2 := [(13, zi ((wd_P W pt).1 : Int)), (0, .inr (0, 0)), (1, .inr (10, 0)), (2, zi ((wd_L W).length : Int)), (3, zi (wd_pz W)), (4, zi (wd_pr W : Int)), (5, zi (e : Int)), (7, .inl (.int hh)), (8, zi (pt : Int)), (9, zi (so : Int)), (10, .inl (.long (zsta W))), (12, zi 0)]) (st2 := [zi 0, zi (zlo hh 8 : Int), zi (pt : Int), zi 4, .inr (10, 0)]) rfl ?_
    refine zX.sn 1 (pc2 := 506) (l2 := [(13, zi ((wd_P W pt).1 : Int)), (0, .inr (0, 0)), (1, .inr (10, 0)), (2, zi ((wd_L W).length : Int)), (3, zi (wd_pz W)), (4, zi (wd_pr W : Int)), (5, zi (e : Int)), (7, .inl (.int hh)), (8, zi (pt : Int)), (9, zi (so : Int)), (10, .inl (.long (zsta W))), (12, zi 0)]) (st2 := [zi 0, zi 0, zi (zlo hh 8 : Int), zi (pt : Int), zi 4, .inr (10, 0)]) rfl ?_
    by_cases hm : zlo hh 8 = 0
    · rw [hm]
      refine zX.call (mid2 := 170) (as := [.inr (10, 0), zi 4, zi (pt : Int), zi 0, zi 0, zi 0]) (rest := []) ⟨rfl, rfl⟩ (fun _ => rfl) rfl ⟨Nat.le_of_ble_eq_true rfl, Nat.le_of_ble_eq_true rfl⟩ ?_
      refine x_read0 (d := d + 1) hp hF ?_
      show zX _ 174 509 [(13, zi ((wd_P W pt).1 : Int)), (0, .inr (0, 0)), (1, .inr (10, 0)), (2, zi ((wd_L W).length : Int)), (3, zi (wd_pz W)), (4, zi (wd_pr W : Int)), (5, zi (e : Int)), (7, .inl (.int hh)), (8, zi (pt : Int)), (9, zi (so : Int)), (10, .inl (.long (zsta W))), (12, zi 0)] [zi (-1002)] (c + 1) (s + 6) _ _
      refine zX.sn 1 (pc2 := 511) (l2 := [(12, zi (-1002)), (13, zi ((wd_P W pt).1 : Int)), (0, .inr (0, 0)), (1, .inr (10, 0)), (2, zi ((wd_L W).length : Int)), (3, zi (wd_pz W)), (4, zi (wd_pr W : Int)), (5, zi (e : Int)), (7, .inl (.int hh)), (8, zi (pt : Int)), (9, zi (so : Int)), (10, .inl (.long (zsta W)))]) (st2 := []) rfl ?_
      refine zX.sn 1 (pc2 := 513) (l2 := [(12, zi (-1002)), (13, zi ((wd_P W pt).1 : Int)), (0, .inr (0, 0)), (1, .inr (10, 0)), (2, zi ((wd_L W).length : Int)), (3, zi (wd_pz W)), (4, zi (wd_pr W : Int)), (5, zi (e : Int)), (7, .inl (.int hh)), (8, zi (pt : Int)), (9, zi (so : Int)), (10, .inl (.long (zsta W)))]) (st2 := [zi (-1002)]) rfl ?_
      refine zX.icmp0 (x := (-1002)) (tgt := 536) ⟨rfl, rfl⟩ rfl (by omega) (fun _ => ?_) (fun (zz : 0 ≤ ((-1002) : Int)) => absurd zz (by omega))
      refine zX.sn 1 (pc2 := 781) (l2 := [(12, zi (-1002)), (13, zi ((wd_P W pt).1 : Int)), (0, .inr (0, 0)), (1, .inr (10, 0)), (2, zi ((wd_L W).length : Int)), (3, zi (wd_pz W)), (4, zi (wd_pr W : Int)), (5, zi (e : Int)), (7, .inl (.int hh)), (8, zi (pt : Int)), (9, zi (so : Int)), (10, .inl (.long (zsta W)))]) (st2 := []) rfl ?_
      refine zX.re [(0, .inr (0, 0)), (1, .inr (10, 0)), (2, zi ((wd_L W).length : Int)), (3, zi (wd_pz W)), (4, zi (wd_pr W : Int)), (5, zi (e : Int)), (10, .inl (.long (zsta W))), (12, zi (-1002))] [2, 3, 4, 5, 6, 7, 11, 0] [12, 13, 0, 1, 2, 3, 4, 5, 7, 8, 9, 10] rfl rfl (by decide) ?_
      refine l_tail (d := d) (W := W) (W1 := W) (gt := (-1002)) (by omega) (Or.inr rfl) (hG.1 _ _ (hG.2.2.1 e W he hI)) he hF (fun h9 M9 c9 s9 r1 r2 => q W h9 M9 c9 s9 (hG.2.2.1 e W he hI) r1 (by have := r2.1; have := r2.2.1; have := r2.2.2; omega))
    · obtain ⟨R, r1, r2, r3⟩ := hG.2.2.2.2.2.2.1 e W pt (zlo hh 8) he hI hp ⟨by omega, hm8⟩
      obtain ⟨pl1, pl2⟩ := zrN_place r2 (zlo hh 8) W.1 r1
      obtain ⟨N, capv, capj, K, g, hM, hf, hA, hV, hP, hJ, hw, hps, hemp, hsc, hfe, hfv⟩ := id hF
      have hps6 := (hP.2 pt hp).2.2.2.2.2
      refine zX.call (mid2 := 170) (as := [.inr (10, 0), zi 4, zi (pt : Int), zi (zlo hh 8 : Int), zi 0, zi 0]) (rest := []) ⟨rfl, rfl⟩ (fun _ => rfl) rfl ⟨Nat.le_of_ble_eq_true rfl, Nat.le_of_ble_eq_true rfl⟩ ?_
      refine k_read (d := d + 1) (I := R) hp ⟨by omega, by omega⟩ r2 r1 hF (fun h1 M1 rd1 c1 s1 g1 g2 g3 g4 => ?_)
      show zX _ 174 509 [(13, zi ((wd_P W pt).1 : Int)), (0, .inr (0, 0)), (1, .inr (10, 0)), (2, zi ((wd_L W).length : Int)), (3, zi (wd_pz W)), (4, zi (wd_pr W : Int)), (5, zi (e : Int)), (7, .inl (.int hh)), (8, zi (pt : Int)), (9, zi (so : Int)), (10, .inl (.long (zsta W))), (12, zi 0)] [zi (zrC pt (zlo hh 8) W.1 : Int)] c1 s1 _ _
      refine zX.sn 1 (pc2 := 511) (l2 := [(12, zi (zrC pt (zlo hh 8) W.1 : Int)), (13, zi ((wd_P W pt).1 : Int)), (0, .inr (0, 0)), (1, .inr (10, 0)), (2, zi ((wd_L W).length : Int)), (3, zi (wd_pz W)), (4, zi (wd_pr W : Int)), (5, zi (e : Int)), (7, .inl (.int hh)), (8, zi (pt : Int)), (9, zi (so : Int)), (10, .inl (.long (zsta W)))]) (st2 := []) rfl ?_
      refine zX.sn 1 (pc2 := 513) (l2 := [(12, zi (zrC pt (zlo hh 8) W.1 : Int)), (13, zi ((wd_P W pt).1 : Int)), (0, .inr (0, 0)), (1, .inr (10, 0)), (2, zi ((wd_L W).length : Int)), (3, zi (wd_pz W)), (4, zi (wd_pr W : Int)), (5, zi (e : Int)), (7, .inl (.int hh)), (8, zi (pt : Int)), (9, zi (so : Int)), (10, .inl (.long (zsta W)))]) (st2 := [zi (zrC pt (zlo hh 8) W.1 : Int)]) rfl ?_
      refine zX.icmp0 (tgt := 536) ⟨rfl, rfl⟩ rfl (by omega) (fun (zz : (zrC pt (zlo hh 8) W.1 : Int) < 0) => absurd zz (by omega)) (fun _ => ?_)
      refine zX.sn 1 (pc2 := 517) (l2 := [(12, zi (zrC pt (zlo hh 8) W.1 : Int)), (13, zi ((wd_P W pt).1 : Int)), (0, .inr (0, 0)), (1, .inr (10, 0)), (2, zi ((wd_L W).length : Int)), (3, zi (wd_pz W)), (4, zi (wd_pr W : Int)), (5, zi (e : Int)), (7, .inl (.int hh)), (8, zi (pt : Int)), (9, zi (so : Int)), (10, .inl (.long (zsta W)))]) (st2 := [.inr (10, 0)]) rfl ?_
      refine zX.sn 1 (pc2 := 518) (l2 := [(12, zi (zrC pt (zlo hh 8) W.1 : Int)), (13, zi ((wd_P W pt).1 : Int)), (0, .inr (0, 0)), (1, .inr (10, 0)), (2, zi ((wd_L W).length : Int)), (3, zi (wd_pz W)), (4, zi (wd_pr W : Int)), (5, zi (e : Int)), (7, .inl (.int hh)), (8, zi (pt : Int)), (9, zi (so : Int)), (10, .inl (.long (zsta W)))]) (st2 := [zi 5, .inr (10, 0)]) rfl ?_
      refine zX.sn 1 (pc2 := 520) (l2 := [(12, zi (zrC pt (zlo hh 8) W.1 : Int)), (13, zi ((wd_P W pt).1 : Int)), (0, .inr (0, 0)), (1, .inr (10, 0)), (2, zi ((wd_L W).length : Int)), (3, zi (wd_pz W)), (4, zi (wd_pr W : Int)), (5, zi (e : Int)), (7, .inl (.int hh)), (8, zi (pt : Int)), (9, zi (so : Int)), (10, .inl (.long (zsta W)))]) (st2 := [zi (pt : Int), zi 5, .inr (10, 0)]) rfl ?_
      refine zX.sn 1 (pc2 := 521) (l2 := [(12, zi (zrC pt (zlo hh 8) W.1 : Int)), (13, zi ((wd_P W pt).1 : Int)), (0, .inr (0, 0)), (1, .inr (10, 0)), (2, zi ((wd_L W).length : Int)), (3, zi (wd_pz W)), (4, zi (wd_pr W : Int)), (5, zi (e : Int)), (7, .inl (.int hh)), (8, zi (pt : Int)), (9, zi (so : Int)), (10, .inl (.long (zsta W)))]) (st2 := [zi 0, zi (pt : Int), zi 5, .inr (10, 0)]) rfl ?_
      refine zX.sn 1 (pc2 := 522) (l2 := [(12, zi (zrC pt (zlo hh 8) W.1 : Int)), (13, zi ((wd_P W pt).1 : Int)), (0, .inr (0, 0)), (1, .inr (10, 0)), (2, zi ((wd_L W).length : Int)), (3, zi (wd_pz W)), (4, zi (wd_pr W : Int)), (5, zi (e : Int)), (7, .inl (.int hh)), (8, zi (pt : Int)), (9, zi (so : Int)), (10, .inl (.long (zsta W)))]) (st2 := [zi 0, zi 0, zi (pt : Int), zi 5, .inr (10, 0)]) rfl ?_
      refine zX.sn 1 (pc2 := 523) (l2 := [(12, zi (zrC pt (zlo hh 8) W.1 : Int)), (13, zi ((wd_P W pt).1 : Int)), (0, .inr (0, 0)), (1, .inr (10, 0)), (2, zi ((wd_L W).length : Int)), (3, zi (wd_pz W)), (4, zi (wd_pr W : Int)), (5, zi (e : Int)), (7, .inl (.int hh)), (8, zi (pt : Int)), (9, zi (so : Int)), (10, .inl (.long (zsta W)))]) (st2 := [zi 0, zi 0, zi 0, zi (pt : Int), zi 5, .inr (10, 0)]) rfl ?_
      refine zX.call (mid2 := 170) (as := [.inr (10, 0), zi 5, zi (pt : Int), zi 0, zi 0, zi 0]) (rest := []) ⟨rfl, rfl⟩ (fun _ => rfl) rfl ⟨Nat.le_of_ble_eq_true rfl, Nat.le_of_ble_eq_true rfl⟩ ?_
      refine k_place (d := d + 1) hp g1 ?_
      show zX _ 174 526 [(12, zi (zrC pt (zlo hh 8) W.1 : Int)), (13, zi ((wd_P W pt).1 : Int)), (0, .inr (0, 0)), (1, .inr (10, 0)), (2, zi ((wd_L W).length : Int)), (3, zi (wd_pz W)), (4, zi (wd_pr W : Int)), (5, zi (e : Int)), (7, .inl (.int hh)), (8, zi (pt : Int)), (9, zi (so : Int)), (10, .inl (.long (zsta W)))] [zi ((wd_P (wRea W pt (zlo hh 8) rd1) pt).1 : Int)] c1 s1 _ _
      have hpl : (wd_P (wRea W pt (zlo hh 8) rd1) pt).1 = (wd_P W pt).1 + zrC pt (zlo hh 8) W.1 := pl1
      rw [hpl]
      refine zX.sn 1 (pc2 := 528) (l2 := [(12, zi (zrC pt (zlo hh 8) W.1 : Int)), (13, zi ((wd_P W pt).1 : Int)), (0, .inr (0, 0)), (1, .inr (10, 0)), (2, zi ((wd_L W).length : Int)), (3, zi (wd_pz W)), (4, zi (wd_pr W : Int)), (5, zi (e : Int)), (7, .inl (.int hh)), (8, zi (pt : Int)), (9, zi (so : Int)), (10, .inl (.long (zsta W)))]) (st2 := [zi ((wd_P W pt).1 : Int), zi (((wd_P W pt).1 + zrC pt (zlo hh 8) W.1 : Nat) : Int)]) rfl ?_
      refine zX.sn 1 (pc2 := 530) (l2 := [(12, zi (zrC pt (zlo hh 8) W.1 : Int)), (13, zi ((wd_P W pt).1 : Int)), (0, .inr (0, 0)), (1, .inr (10, 0)), (2, zi ((wd_L W).length : Int)), (3, zi (wd_pz W)), (4, zi (wd_pr W : Int)), (5, zi (e : Int)), (7, .inl (.int hh)), (8, zi (pt : Int)), (9, zi (so : Int)), (10, .inl (.long (zsta W)))]) (st2 := [zi (zrC pt (zlo hh 8) W.1 : Int), zi ((wd_P W pt).1 : Int), zi (((wd_P W pt).1 + zrC pt (zlo hh 8) W.1 : Nat) : Int)]) rfl ?_
      refine zX.iadd ⟨rfl, rfl⟩ ?_
      refine zX.icmp (tgt := 536) ⟨rfl, rfl⟩ rfl (by omega) (by omega) (fun _ => ?_) (fun (zz : ¬ (((wd_P W pt).1 + zrC pt (zlo hh 8) W.1 : Nat) : Int) = (((wd_P W pt).1 : Int) + (zrC pt (zlo hh 8) W.1 : Int))) => absurd zz (by omega))
      refine zX.sn 1 (pc2 := 781) (l2 := [(12, zi (zrC pt (zlo hh 8) W.1 : Int)), (13, zi ((wd_P W pt).1 : Int)), (0, .inr (0, 0)), (1, .inr (10, 0)), (2, zi ((wd_L W).length : Int)), (3, zi (wd_pz W)), (4, zi (wd_pr W : Int)), (5, zi (e : Int)), (7, .inl (.int hh)), (8, zi (pt : Int)), (9, zi (so : Int)), (10, .inl (.long (zsta W)))]) (st2 := []) rfl ?_
      refine zX.re [(0, .inr (0, 0)), (1, .inr (10, 0)), (2, zi ((wd_L W).length : Int)), (3, zi (wd_pz W)), (4, zi (wd_pr W : Int)), (5, zi (e : Int)), (10, .inl (.long (zsta W))), (12, zi (zrC pt (zlo hh 8) W.1 : Int))] [2, 3, 4, 5, 6, 7, 11, 0] [12, 13, 0, 1, 2, 3, 4, 5, 7, 8, 9, 10] rfl rfl (by decide) ?_
      have hln : ((wd_L W).length : Int) = ((wd_L (wRea W pt (zlo hh 8) rd1)).length : Int) := congrArg _ (zrN_vlen (zlo hh 8) W.1 pt).symm
      rw [hln]
      refine l_tail (d := d) (W := W) (W1 := (wRea W pt (zlo hh 8) rd1)) (gt := (zrC pt (zlo hh 8) W.1 : Int)) (by omega) (Or.inl (by omega)) (hG.1 _ _ (r3 rd1 g2 g3)) he g1 (fun h9 M9 c9 s9 r1 r2 => q (wRea W pt (zlo hh 8) rd1) h9 M9 c9 s9 (r3 rd1 g2 g3) r1 (by have := g4.1; have := g4.2.1; have := g4.2.2; have := r2.1; have := r2.2.1; have := r2.2.2; omega))
set_option maxHeartbeats 2000000 in
theorem o_cut {hh : Int32} {pt so : Nat} (hG : zGd I) (he : e < 60) (hI : I e W) (hpt : pt ≤ 3) (hF : zFd sc h M W) 
    (q : ∀ W1 h1 M1 c1 s1, I (e + 1) W1 → zFd sc h1 M1 W1 → zCs 40 80200 M c s M1 c1 s1 → zX (d + 12) 174 18 [(0, .inr (0, 0)), (1, .inr (10, 0)), (2, zi ((wd_L W1).length : Int)), (3, zi (wd_pz W1)), (4, zi (wd_pr W1 : Int)), (5, zi ((e + 1 : Nat) : Int))] [] c1 s1 h1 Q) : zX (d + 12) 174 546 [(0, .inr (0, 0)), (1, .inr (10, 0)), (2, zi ((wd_L W).length : Int)), (3, zi (wd_pz W)), (4, zi (wd_pr W : Int)), (5, zi (e : Int)), (7, .inl (.int hh)), (8, zi (pt : Int)), (9, zi (so : Int)), (10, .inl (.long (zsta W))), (12, zi 0)] [] c s h Q := by
  have hc := hG.1 _ _ hI
  have hO := hF.ole
  have hp1 := hc.2.1.1
  obtain ⟨N, capv, capj, K, g, hM, hf, hA, hV, hP, hJ, hw, hps, hemp, hsc, hfe, hfv⟩ := id hF
  refine zX.sn 1 (pc2 := 547) (l2 := [(0, .inr (0, 0)), (1, .inr (10, 0)), (2, zi ((wd_L W).length : Int)), (3, zi (wd_pz W)), (4, zi (wd_pr W : Int)), (5, zi (e : Int)), (7, .inl (.int hh)), (8, zi (pt : Int)), (9, zi (so : Int)), (10, .inl (.long (zsta W))), (12, zi 0)]) (st2 := [.inr (10, 0)]) rfl ?_
  refine zX.call (mid2 := 115) (as := [.inr (10, 0)]) (rest := []) ⟨rfl, rfl⟩ (fun _ => rfl) (zX.inv rfl hf rfl rfl) ⟨Nat.le_of_ble_eq_true rfl, Nat.le_of_ble_eq_true rfl⟩ ?_
  refine s_waiting (d := d + 10) hV.1 hf ?_
  show zX _ 174 550 [(0, .inr (0, 0)), (1, .inr (10, 0)), (2, zi ((wd_L W).length : Int)), (3, zi (wd_pz W)), (4, zi (wd_pr W : Int)), (5, zi (e : Int)), (7, .inl (.int hh)), (8, zi (pt : Int)), (9, zi (so : Int)), (10, .inl (.long (zsta W))), (12, zi 0)] [zi (((wd_O W).length : Int) - (wd_wf W : Int))] c s _ _
  refine zX.sn 1 (pc2 := 552) (l2 := [(13, zi (((wd_O W).length : Int) - (wd_wf W : Int))), (0, .inr (0, 0)), (1, .inr (10, 0)), (2, zi ((wd_L W).length : Int)), (3, zi (wd_pz W)), (4, zi (wd_pr W : Int)), (5, zi (e : Int)), (7, .inl (.int hh)), (8, zi (pt : Int)), (9, zi (so : Int)), (10, .inl (.long (zsta W))), (12, zi 0)]) (st2 := []) rfl ?_
  refine zX.sn 1 (pc2 := 553) (l2 := [(13, zi (((wd_O W).length : Int) - (wd_wf W : Int))), (0, .inr (0, 0)), (1, .inr (10, 0)), (2, zi ((wd_L W).length : Int)), (3, zi (wd_pz W)), (4, zi (wd_pr W : Int)), (5, zi (e : Int)), (7, .inl (.int hh)), (8, zi (pt : Int)), (9, zi (so : Int)), (10, .inl (.long (zsta W))), (12, zi 0)]) (st2 := [.inr (10, 0)]) rfl ?_
  refine zX.sn 1 (pc2 := 555) (l2 := [(13, zi (((wd_O W).length : Int) - (wd_wf W : Int))), (0, .inr (0, 0)), (1, .inr (10, 0)), (2, zi ((wd_L W).length : Int)), (3, zi (wd_pz W)), (4, zi (wd_pr W : Int)), (5, zi (e : Int)), (7, .inl (.int hh)), (8, zi (pt : Int)), (9, zi (so : Int)), (10, .inl (.long (zsta W))), (12, zi 0)]) (st2 := [zi 13, .inr (10, 0)]) rfl ?_
  refine zX.sn 1 (pc2 := 556) (l2 := [(13, zi (((wd_O W).length : Int) - (wd_wf W : Int))), (0, .inr (0, 0)), (1, .inr (10, 0)), (2, zi ((wd_L W).length : Int)), (3, zi (wd_pz W)), (4, zi (wd_pr W : Int)), (5, zi (e : Int)), (7, .inl (.int hh)), (8, zi (pt : Int)), (9, zi (so : Int)), (10, .inl (.long (zsta W))), (12, zi 0)]) (st2 := [zi 0, zi 13, .inr (10, 0)]) rfl ?_
  refine zX.sn 1 (pc2 := 557) (l2 := [(13, zi (((wd_O W).length : Int) - (wd_wf W : Int))), (0, .inr (0, 0)), (1, .inr (10, 0)), (2, zi ((wd_L W).length : Int)), (3, zi (wd_pz W)), (4, zi (wd_pr W : Int)), (5, zi (e : Int)), (7, .inl (.int hh)), (8, zi (pt : Int)), (9, zi (so : Int)), (10, .inl (.long (zsta W))), (12, zi 0)]) (st2 := [zi 0, zi 0, zi 13, .inr (10, 0)]) rfl ?_
  refine zX.sn 1 (pc2 := 558) (l2 := [(13, zi (((wd_O W).length : Int) - (wd_wf W : Int))), (0, .inr (0, 0)), (1, .inr (10, 0)), (2, zi ((wd_L W).length : Int)), (3, zi (wd_pz W)), (4, zi (wd_pr W : Int)), (5, zi (e : Int)), (7, .inl (.int hh)), (8, zi (pt : Int)), (9, zi (so : Int)), (10, .inl (.long (zsta W))), (12, zi 0)]) (st2 := [zi 0, zi 0, zi 0, zi 13, .inr (10, 0)]) rfl ?_
  refine zX.sn 1 (pc2 := 559) (l2 := [(13, zi (((wd_O W).length : Int) - (wd_wf W : Int))), (0, .inr (0, 0)), (1, .inr (10, 0)), (2, zi ((wd_L W).length : Int)), (3, zi (wd_pz W)), (4, zi (wd_pr W : Int)), (5, zi (e : Int)), (7, .inl (.int hh)), (8, zi (pt : Int)), (9, zi (so : Int)), (10, .inl (.long (zsta W))), (12, zi 0)]) (st2 := [zi 0, zi 0, zi 0, zi 0, zi 13, .inr (10, 0)]) rfl ?_
  cases hu : wd_uw W with
  | true =>
    refine zX.call (mid2 := 170) (as := [.inr (10, 0), zi 13, zi 0, zi 0, zi 0, zi 0]) (rest := []) ⟨rfl, rfl⟩ (fun _ => rfl) rfl ⟨Nat.le_of_ble_eq_true rfl, Nat.le_of_ble_eq_true rfl⟩ ?_
    refine x_cut (d := d + 1) hu hF ?_
    show zX _ 174 562 [(13, zi (((wd_O W).length : Int) - (wd_wf W : Int))), (0, .inr (0, 0)), (1, .inr (10, 0)), (2, zi ((wd_L W).length : Int)), (3, zi (wd_pz W)), (4, zi (wd_pr W : Int)), (5, zi (e : Int)), (7, .inl (.int hh)), (8, zi (pt : Int)), (9, zi (so : Int)), (10, .inl (.long (zsta W))), (12, zi 0)] [zi (-1003)] (c + 1) (s + 6) _ _
    refine zX.sn 1 (pc2 := 564) (l2 := [(12, zi (-1003)), (13, zi (((wd_O W).length : Int) - (wd_wf W : Int))), (0, .inr (0, 0)), (1, .inr (10, 0)), (2, zi ((wd_L W).length : Int)), (3, zi (wd_pz W)), (4, zi (wd_pr W : Int)), (5, zi (e : Int)), (7, .inl (.int hh)), (8, zi (pt : Int)), (9, zi (so : Int)), (10, .inl (.long (zsta W)))]) (st2 := []) rfl ?_
    refine zX.sn 1 (pc2 := 566) (l2 := [(12, zi (-1003)), (13, zi (((wd_O W).length : Int) - (wd_wf W : Int))), (0, .inr (0, 0)), (1, .inr (10, 0)), (2, zi ((wd_L W).length : Int)), (3, zi (wd_pz W)), (4, zi (wd_pr W : Int)), (5, zi (e : Int)), (7, .inl (.int hh)), (8, zi (pt : Int)), (9, zi (so : Int)), (10, .inl (.long (zsta W)))]) (st2 := [zi (-1003)]) rfl ?_
    refine zX.icmp0 (x := (-1003)) (tgt := 589) ⟨rfl, rfl⟩ rfl (by omega) (fun _ => ?_) (fun (zz : 0 ≤ ((-1003) : Int)) => absurd zz (by omega))
    refine zX.sn 1 (pc2 := 591) (l2 := [(12, zi (-1003)), (13, zi (((wd_O W).length : Int) - (wd_wf W : Int))), (0, .inr (0, 0)), (1, .inr (10, 0)), (2, zi ((wd_L W).length : Int)), (3, zi (wd_pz W)), (4, zi (wd_pr W : Int)), (5, zi (e : Int)), (7, .inl (.int hh)), (8, zi (pt : Int)), (9, zi (so : Int)), (10, .inl (.long (zsta W)))]) (st2 := [zi (-1003)]) rfl ?_
    refine zX.icmp0 (x := (-1003)) (tgt := 599) ⟨rfl, rfl⟩ rfl (by omega) (fun _ => ?_) (fun (zz : 0 ≤ ((-1003) : Int)) => absurd zz (by omega))
    refine zX.sn 1 (pc2 := 600) (l2 := [(12, zi (-1003)), (13, zi (((wd_O W).length : Int) - (wd_wf W : Int))), (0, .inr (0, 0)), (1, .inr (10, 0)), (2, zi ((wd_L W).length : Int)), (3, zi (wd_pz W)), (4, zi (wd_pr W : Int)), (5, zi (e : Int)), (7, .inl (.int hh)), (8, zi (pt : Int)), (9, zi (so : Int)), (10, .inl (.long (zsta W)))]) (st2 := [zi (wd_pz W)]) rfl ?_
    refine zX.sn 1 (pc2 := 601) (l2 := [(3, zi (wd_pz W)), (12, zi (-1003)), (13, zi (((wd_O W).length : Int) - (wd_wf W : Int))), (0, .inr (0, 0)), (1, .inr (10, 0)), (2, zi ((wd_L W).length : Int)), (4, zi (wd_pr W : Int)), (5, zi (e : Int)), (7, .inl (.int hh)), (8, zi (pt : Int)), (9, zi (so : Int)), (10, .inl (.long (zsta W)))]) (st2 := []) rfl ?_
    refine zX.sn 1 (pc2 := 781) (l2 := [(3, zi (wd_pz W)), (12, zi (-1003)), (13, zi (((wd_O W).length : Int) - (wd_wf W : Int))), (0, .inr (0, 0)), (1, .inr (10, 0)), (2, zi ((wd_L W).length : Int)), (4, zi (wd_pr W : Int)), (5, zi (e : Int)), (7, .inl (.int hh)), (8, zi (pt : Int)), (9, zi (so : Int)), (10, .inl (.long (zsta W)))]) (st2 := []) rfl ?_
    refine zX.re [(0, .inr (0, 0)), (1, .inr (10, 0)), (2, zi ((wd_L W).length : Int)), (3, zi (wd_pz W)), (4, zi (wd_pr W : Int)), (5, zi (e : Int)), (10, .inl (.long (zsta W))), (12, zi (-1003))] [3, 4, 5, 0, 6, 7, 11, 1] [3, 12, 13, 0, 1, 2, 4, 5, 7, 8, 9, 10] rfl rfl (by decide) ?_
    refine l_tail (d := d) (W := W) (W1 := W) (gt := (-1003)) (by omega) (Or.inr rfl) (hG.1 _ _ (hG.2.2.1 e W he hI)) he hF (fun h9 M9 c9 s9 r1 r2 => q W h9 M9 c9 s9 (hG.2.2.1 e W he hI) r1 (by have := r2.1; have := r2.2.1; have := r2.2.2; omega))
  | false =>
    have hwf : wd_wf W = wd_pr W := by
      show (if wd_uw W = true then wd_cu W else wd_pr W) = _
      rw [if_neg (by rw [hu]; decide)]
    have hpz : wd_pz W = -1 := if_neg (by rw [hu]; decide)
    refine zX.call (mid2 := 170) (as := [.inr (10, 0), zi 13, zi 0, zi 0, zi 0, zi 0]) (rest := []) ⟨rfl, rfl⟩ (fun _ => rfl) rfl ⟨Nat.le_of_ble_eq_true rfl, Nat.le_of_ble_eq_true rfl⟩ ?_
    refine k_cut (d := d + 1) hu hF (fun h1 g1 => ?_)
    show zX _ 174 562 [(13, zi (((wd_O W).length : Int) - (wd_wf W : Int))), (0, .inr (0, 0)), (1, .inr (10, 0)), (2, zi ((wd_L W).length : Int)), (3, zi (wd_pz W)), (4, zi (wd_pr W : Int)), (5, zi (e : Int)), (7, .inl (.int hh)), (8, zi (pt : Int)), (9, zi (so : Int)), (10, .inl (.long (zsta W))), (12, zi 0)] [zi (((wd_O W).length : Int) - (wd_pr W : Int))] c s _ _
    refine zX.sn 1 (pc2 := 564) (l2 := [(12, zi (((wd_O W).length : Int) - (wd_pr W : Int))), (13, zi (((wd_O W).length : Int) - (wd_wf W : Int))), (0, .inr (0, 0)), (1, .inr (10, 0)), (2, zi ((wd_L W).length : Int)), (3, zi (wd_pz W)), (4, zi (wd_pr W : Int)), (5, zi (e : Int)), (7, .inl (.int hh)), (8, zi (pt : Int)), (9, zi (so : Int)), (10, .inl (.long (zsta W)))]) (st2 := []) rfl ?_
    refine zX.sn 1 (pc2 := 566) (l2 := [(12, zi (((wd_O W).length : Int) - (wd_pr W : Int))), (13, zi (((wd_O W).length : Int) - (wd_wf W : Int))), (0, .inr (0, 0)), (1, .inr (10, 0)), (2, zi ((wd_L W).length : Int)), (3, zi (wd_pz W)), (4, zi (wd_pr W : Int)), (5, zi (e : Int)), (7, .inl (.int hh)), (8, zi (pt : Int)), (9, zi (so : Int)), (10, .inl (.long (zsta W)))]) (st2 := [zi (((wd_O W).length : Int) - (wd_pr W : Int))]) rfl ?_
    refine zX.icmp0 (tgt := 589) ⟨rfl, rfl⟩ rfl (by omega) (fun (zz : (((wd_O W).length : Int) - (wd_pr W : Int)) < 0) => absurd zz (by omega)) (fun _ => ?_)
    refine zX.sn 1 (pc2 := 571) (l2 := [(12, zi (((wd_O W).length : Int) - (wd_pr W : Int))), (13, zi (((wd_O W).length : Int) - (wd_wf W : Int))), (0, .inr (0, 0)), (1, .inr (10, 0)), (2, zi ((wd_L W).length : Int)), (3, zi (wd_pz W)), (4, zi (wd_pr W : Int)), (5, zi (e : Int)), (7, .inl (.int hh)), (8, zi (pt : Int)), (9, zi (so : Int)), (10, .inl (.long (zsta W)))]) (st2 := [zi (((wd_O W).length : Int) - (wd_pr W : Int))]) rfl ?_
    refine zX.sn 1 (pc2 := 573) (l2 := [(12, zi (((wd_O W).length : Int) - (wd_pr W : Int))), (13, zi (((wd_O W).length : Int) - (wd_wf W : Int))), (0, .inr (0, 0)), (1, .inr (10, 0)), (2, zi ((wd_L W).length : Int)), (3, zi (wd_pz W)), (4, zi (wd_pr W : Int)), (5, zi (e : Int)), (7, .inl (.int hh)), (8, zi (pt : Int)), (9, zi (so : Int)), (10, .inl (.long (zsta W)))]) (st2 := [zi (((wd_O W).length : Int) - (wd_wf W : Int)), zi (((wd_O W).length : Int) - (wd_pr W : Int))]) rfl ?_
    refine zX.icmp (tgt := 587) ⟨rfl, rfl⟩ rfl (by omega) (by omega) (fun (zz : ¬ (((wd_O W).length : Int) - (wd_pr W : Int)) = (((wd_O W).length : Int) - (wd_wf W : Int))) => absurd zz (by omega)) (fun _ => ?_)
    refine zX.sn 1 (pc2 := 577) (l2 := [(12, zi (((wd_O W).length : Int) - (wd_pr W : Int))), (13, zi (((wd_O W).length : Int) - (wd_wf W : Int))), (0, .inr (0, 0)), (1, .inr (10, 0)), (2, zi ((wd_L W).length : Int)), (3, zi (wd_pz W)), (4, zi (wd_pr W : Int)), (5, zi (e : Int)), (7, .inl (.int hh)), (8, zi (pt : Int)), (9, zi (so : Int)), (10, .inl (.long (zsta W)))]) (st2 := [.inr (10, 0)]) rfl ?_
    obtain ⟨N2, capv2, capj2, K2, g2, hM2, hf2, hA2, hV2, -⟩ := id g1
    refine zX.call (mid2 := 115) (as := [.inr (10, 0)]) (rest := []) ⟨rfl, rfl⟩ (fun _ => rfl) (zX.inv rfl hf2 rfl rfl) ⟨Nat.le_of_ble_eq_true rfl, Nat.le_of_ble_eq_true rfl⟩ ?_
    refine s_waiting (d := d + 10) hV2.1 hf2 ?_
    have hz0 : ((wd_O (wCut W)).length : Int) - ((if wd_uw (wCut W) = true then wd_cu (wCut W) else wd_pr (wCut W) : Nat) : Int) = 0 := by
      rw [if_pos (show wd_uw (wCut W) = true from rfl)]
      show ((wd_O W).length : Int) - ((wd_O W).length : Int) = 0
      omega
    rw [hz0]
    show zX _ 174 580 [(12, zi (((wd_O W).length : Int) - (wd_pr W : Int))), (13, zi (((wd_O W).length : Int) - (wd_wf W : Int))), (0, .inr (0, 0)), (1, .inr (10, 0)), (2, zi ((wd_L W).length : Int)), (3, zi (wd_pz W)), (4, zi (wd_pr W : Int)), (5, zi (e : Int)), (7, .inl (.int hh)), (8, zi (pt : Int)), (9, zi (so : Int)), (10, .inl (.long (zsta W)))] [zi 0] c s _ _
    refine zX.icmp0 (x := 0) (tgt := 587) ⟨rfl, rfl⟩ rfl (by omega) (fun (zz : ¬ (0 : Int) = 0) => absurd zz (by omega)) (fun _ => ?_)
    refine zX.sn 1 (pc2 := 584) (l2 := [(12, zi (((wd_O W).length : Int) - (wd_pr W : Int))), (13, zi (((wd_O W).length : Int) - (wd_wf W : Int))), (0, .inr (0, 0)), (1, .inr (10, 0)), (2, zi ((wd_L W).length : Int)), (3, zi (wd_pz W)), (4, zi (wd_pr W : Int)), (5, zi (e : Int)), (7, .inl (.int hh)), (8, zi (pt : Int)), (9, zi (so : Int)), (10, .inl (.long (zsta W)))]) (st2 := [zi (wd_pz W)]) rfl ?_
    refine zX.icmp0 (tgt := 589) ⟨rfl, rfl⟩ rfl (by omega) (fun _ => ?_) (fun (zz : 0 ≤ (wd_pz W)) => absurd zz (by omega))
    refine zX.sn 1 (pc2 := 591) (l2 := [(12, zi (((wd_O W).length : Int) - (wd_pr W : Int))), (13, zi (((wd_O W).length : Int) - (wd_wf W : Int))), (0, .inr (0, 0)), (1, .inr (10, 0)), (2, zi ((wd_L W).length : Int)), (3, zi (wd_pz W)), (4, zi (wd_pr W : Int)), (5, zi (e : Int)), (7, .inl (.int hh)), (8, zi (pt : Int)), (9, zi (so : Int)), (10, .inl (.long (zsta W)))]) (st2 := [zi (((wd_O W).length : Int) - (wd_pr W : Int))]) rfl ?_
    refine zX.icmp0 (tgt := 599) ⟨rfl, rfl⟩ rfl (by omega) (fun (zz : (((wd_O W).length : Int) - (wd_pr W : Int)) < 0) => absurd zz (by omega)) (fun _ => ?_)
    refine zX.sn 1 (pc2 := 596) (l2 := [(12, zi (((wd_O W).length : Int) - (wd_pr W : Int))), (13, zi (((wd_O W).length : Int) - (wd_wf W : Int))), (0, .inr (0, 0)), (1, .inr (10, 0)), (2, zi ((wd_L W).length : Int)), (3, zi (wd_pz W)), (4, zi (wd_pr W : Int)), (5, zi (e : Int)), (7, .inl (.int hh)), (8, zi (pt : Int)), (9, zi (so : Int)), (10, .inl (.long (zsta W)))]) (st2 := [zi (((wd_O W).length : Int) - (wd_pr W : Int))]) rfl ?_
    refine zX.sn 1 (pc2 := 600) (l2 := [(12, zi (((wd_O W).length : Int) - (wd_pr W : Int))), (13, zi (((wd_O W).length : Int) - (wd_wf W : Int))), (0, .inr (0, 0)), (1, .inr (10, 0)), (2, zi ((wd_L W).length : Int)), (3, zi (wd_pz W)), (4, zi (wd_pr W : Int)), (5, zi (e : Int)), (7, .inl (.int hh)), (8, zi (pt : Int)), (9, zi (so : Int)), (10, .inl (.long (zsta W)))]) (st2 := [zi (((wd_O W).length : Int) - (wd_pr W : Int))]) rfl ?_
    refine zX.sn 1 (pc2 := 601) (l2 := [(3, zi (((wd_O W).length : Int) - (wd_pr W : Int))), (12, zi (((wd_O W).length : Int) - (wd_pr W : Int))), (13, zi (((wd_O W).length : Int) - (wd_wf W : Int))), (0, .inr (0, 0)), (1, .inr (10, 0)), (2, zi ((wd_L W).length : Int)), (4, zi (wd_pr W : Int)), (5, zi (e : Int)), (7, .inl (.int hh)), (8, zi (pt : Int)), (9, zi (so : Int)), (10, .inl (.long (zsta W)))]) (st2 := []) rfl ?_
    refine zX.sn 1 (pc2 := 781) (l2 := [(3, zi (((wd_O W).length : Int) - (wd_pr W : Int))), (12, zi (((wd_O W).length : Int) - (wd_pr W : Int))), (13, zi (((wd_O W).length : Int) - (wd_wf W : Int))), (0, .inr (0, 0)), (1, .inr (10, 0)), (2, zi ((wd_L W).length : Int)), (4, zi (wd_pr W : Int)), (5, zi (e : Int)), (7, .inl (.int hh)), (8, zi (pt : Int)), (9, zi (so : Int)), (10, .inl (.long (zsta W)))]) (st2 := []) rfl ?_
    refine zX.re [(0, .inr (0, 0)), (1, .inr (10, 0)), (2, zi ((wd_L W).length : Int)), (3, zi (((wd_O W).length : Int) - (wd_pr W : Int))), (4, zi (wd_pr W : Int)), (5, zi (e : Int)), (10, .inl (.long (zsta W))), (12, zi (((wd_O W).length : Int) - (wd_pr W : Int)))] [3, 4, 5, 0, 6, 7, 11, 1] [3, 12, 13, 0, 1, 2, 4, 5, 7, 8, 9, 10] rfl rfl (by decide) ?_
    have hz1 : ((wd_O W).length : Int) - (wd_pr W : Int) = wd_pz (wCut W) := by
      show _ = if true = true then (((wd_O W).length - wd_pr W : Nat) : Int) else -1
      rw [if_pos rfl]
      omega
    show zX _ 174 781 [(0, .inr (0, 0)), (1, .inr (10, 0)), (2, zi ((wd_L W).length : Int)), (3, zi (((wd_O W).length : Int) - (wd_pr W : Int))), (4, zi (wd_pr W : Int)), (5, zi (e : Int)), (10, .inl (.long (zsta W))), (12, zi (((wd_O W).length : Int) - (wd_pr W : Int)))] [] c s h1 _
    suffices hgo : zX (d + 12) 174 781 [(0, .inr (0, 0)), (1, .inr (10, 0)), (2, zi ((wd_L W).length : Int)), (3, zi (wd_pz (wCut W))), (4, zi (wd_pr W : Int)), (5, zi (e : Int)), (10, .inl (.long (zsta W))), (12, zi (((wd_O W).length : Int) - (wd_pr W : Int)))] [] c s h1 Q by
      rw [← hz1] at hgo
      exact hgo
    refine l_tail (d := d) (W := W) (W1 := (wCut W)) (gt := (((wd_O W).length : Int) - (wd_pr W : Int))) (by omega) (Or.inl (by omega)) (hG.1 _ _ (hG.2.2.2.2.2.2.2.1 e W he hI hu)) he g1 (fun h9 M9 c9 s9 r1 r2 => q (wCut W) h9 M9 c9 s9 (hG.2.2.2.2.2.2.2.1 e W he hI hu) r1 (by have := r2.1; have := r2.2.1; have := r2.2.2; omega))
set_option maxHeartbeats 2000000 in
theorem o_com {hh : Int32} {pt so : Nat} (hG : zGd I) (he : e < 60) (hI : I e W) (hpt : pt ≤ 3) (hF : zFd sc h M W) 
    (q : ∀ W1 h1 M1 c1 s1, I (e + 1) W1 → zFd sc h1 M1 W1 → zCs 40 80200 M c s M1 c1 s1 → zX (d + 12) 174 18 [(0, .inr (0, 0)), (1, .inr (10, 0)), (2, zi ((wd_L W1).length : Int)), (3, zi (wd_pz W1)), (4, zi (wd_pr W1 : Int)), (5, zi ((e + 1 : Nat) : Int))] [] c1 s1 h1 Q) : zX (d + 12) 174 611 [(0, .inr (0, 0)), (1, .inr (10, 0)), (2, zi ((wd_L W).length : Int)), (3, zi (wd_pz W)), (4, zi (wd_pr W : Int)), (5, zi (e : Int)), (7, .inl (.int hh)), (8, zi (pt : Int)), (9, zi (so : Int)), (10, .inl (.long (zsta W))), (12, zi 0)] [] c s h Q := by
  have hc := hG.1 _ _ hI
  have hO := hF.ole
  have hp1 := hc.2.1.1
  refine zX.sn 1 (pc2 := 612) (l2 := [(0, .inr (0, 0)), (1, .inr (10, 0)), (2, zi ((wd_L W).length : Int)), (3, zi (wd_pz W)), (4, zi (wd_pr W : Int)), (5, zi (e : Int)), (7, .inl (.int hh)), (8, zi (pt : Int)), (9, zi (so : Int)), (10, .inl (.long (zsta W))), (12, zi 0)]) (st2 := [.inr (10, 0)]) rfl ?_
  refine zX.sn 1 (pc2 := 614) (l2 := [(0, .inr (0, 0)), (1, .inr (10, 0)), (2, zi ((wd_L W).length : Int)), (3, zi (wd_pz W)), (4, zi (wd_pr W : Int)), (5, zi (e : Int)), (7, .inl (.int hh)), (8, zi (pt : Int)), (9, zi (so : Int)), (10, .inl (.long (zsta W))), (12, zi 0)]) (st2 := [zi 14, .inr (10, 0)]) rfl ?_
  refine zX.sn 1 (pc2 := 615) (l2 := [(0, .inr (0, 0)), (1, .inr (10, 0)), (2, zi ((wd_L W).length : Int)), (3, zi (wd_pz W)), (4, zi (wd_pr W : Int)), (5, zi (e : Int)), (7, .inl (.int hh)), (8, zi (pt : Int)), (9, zi (so : Int)), (10, .inl (.long (zsta W))), (12, zi 0)]) (st2 := [zi 0, zi 14, .inr (10, 0)]) rfl ?_
  refine zX.sn 1 (pc2 := 616) (l2 := [(0, .inr (0, 0)), (1, .inr (10, 0)), (2, zi ((wd_L W).length : Int)), (3, zi (wd_pz W)), (4, zi (wd_pr W : Int)), (5, zi (e : Int)), (7, .inl (.int hh)), (8, zi (pt : Int)), (9, zi (so : Int)), (10, .inl (.long (zsta W))), (12, zi 0)]) (st2 := [zi 0, zi 0, zi 14, .inr (10, 0)]) rfl ?_
  refine zX.sn 1 (pc2 := 617) (l2 := [(0, .inr (0, 0)), (1, .inr (10, 0)), (2, zi ((wd_L W).length : Int)), (3, zi (wd_pz W)), (4, zi (wd_pr W : Int)), (5, zi (e : Int)), (7, .inl (.int hh)), (8, zi (pt : Int)), (9, zi (so : Int)), (10, .inl (.long (zsta W))), (12, zi 0)]) (st2 := [zi 0, zi 0, zi 0, zi 14, .inr (10, 0)]) rfl ?_
  refine zX.sn 1 (pc2 := 618) (l2 := [(0, .inr (0, 0)), (1, .inr (10, 0)), (2, zi ((wd_L W).length : Int)), (3, zi (wd_pz W)), (4, zi (wd_pr W : Int)), (5, zi (e : Int)), (7, .inl (.int hh)), (8, zi (pt : Int)), (9, zi (so : Int)), (10, .inl (.long (zsta W))), (12, zi 0)]) (st2 := [zi 0, zi 0, zi 0, zi 0, zi 14, .inr (10, 0)]) rfl ?_
  cases hu : wd_uw W with
  | false =>
    refine zX.call (mid2 := 170) (as := [.inr (10, 0), zi 14, zi 0, zi 0, zi 0, zi 0]) (rest := []) ⟨rfl, rfl⟩ (fun _ => rfl) rfl ⟨Nat.le_of_ble_eq_true rfl, Nat.le_of_ble_eq_true rfl⟩ ?_
    refine x_complete (d := d + 1) hu hF ?_
    show zX _ 174 621 [(0, .inr (0, 0)), (1, .inr (10, 0)), (2, zi ((wd_L W).length : Int)), (3, zi (wd_pz W)), (4, zi (wd_pr W : Int)), (5, zi (e : Int)), (7, .inl (.int hh)), (8, zi (pt : Int)), (9, zi (so : Int)), (10, .inl (.long (zsta W))), (12, zi 0)] [zi (-1003)] (c + 1) (s + 6) _ _
    refine zX.sn 1 (pc2 := 623) (l2 := [(12, zi (-1003)), (0, .inr (0, 0)), (1, .inr (10, 0)), (2, zi ((wd_L W).length : Int)), (3, zi (wd_pz W)), (4, zi (wd_pr W : Int)), (5, zi (e : Int)), (7, .inl (.int hh)), (8, zi (pt : Int)), (9, zi (so : Int)), (10, .inl (.long (zsta W)))]) (st2 := []) rfl ?_
    refine zX.sn 1 (pc2 := 625) (l2 := [(12, zi (-1003)), (0, .inr (0, 0)), (1, .inr (10, 0)), (2, zi ((wd_L W).length : Int)), (3, zi (wd_pz W)), (4, zi (wd_pr W : Int)), (5, zi (e : Int)), (7, .inl (.int hh)), (8, zi (pt : Int)), (9, zi (so : Int)), (10, .inl (.long (zsta W)))]) (st2 := [zi (-1003)]) rfl ?_
    refine zX.icmp0 (x := (-1003)) (tgt := 643) ⟨rfl, rfl⟩ rfl (by omega) (fun _ => ?_) (fun (zz : 0 ≤ ((-1003) : Int)) => absurd zz (by omega))
    refine zX.sn 1 (pc2 := 645) (l2 := [(12, zi (-1003)), (0, .inr (0, 0)), (1, .inr (10, 0)), (2, zi ((wd_L W).length : Int)), (3, zi (wd_pz W)), (4, zi (wd_pr W : Int)), (5, zi (e : Int)), (7, .inl (.int hh)), (8, zi (pt : Int)), (9, zi (so : Int)), (10, .inl (.long (zsta W)))]) (st2 := [zi (-1003)]) rfl ?_
    refine zX.icmp0 (x := (-1003)) (tgt := 653) ⟨rfl, rfl⟩ rfl (by omega) (fun _ => ?_) (fun (zz : 0 ≤ ((-1003) : Int)) => absurd zz (by omega))
    refine zX.sn 1 (pc2 := 655) (l2 := [(12, zi (-1003)), (0, .inr (0, 0)), (1, .inr (10, 0)), (2, zi ((wd_L W).length : Int)), (3, zi (wd_pz W)), (4, zi (wd_pr W : Int)), (5, zi (e : Int)), (7, .inl (.int hh)), (8, zi (pt : Int)), (9, zi (so : Int)), (10, .inl (.long (zsta W)))]) (st2 := [zi (wd_pr W : Int)]) rfl ?_
    refine zX.sn 1 (pc2 := 657) (l2 := [(4, zi (wd_pr W : Int)), (12, zi (-1003)), (0, .inr (0, 0)), (1, .inr (10, 0)), (2, zi ((wd_L W).length : Int)), (3, zi (wd_pz W)), (5, zi (e : Int)), (7, .inl (.int hh)), (8, zi (pt : Int)), (9, zi (so : Int)), (10, .inl (.long (zsta W)))]) (st2 := []) rfl ?_
    refine zX.sn 1 (pc2 := 659) (l2 := [(4, zi (wd_pr W : Int)), (12, zi (-1003)), (0, .inr (0, 0)), (1, .inr (10, 0)), (2, zi ((wd_L W).length : Int)), (3, zi (wd_pz W)), (5, zi (e : Int)), (7, .inl (.int hh)), (8, zi (pt : Int)), (9, zi (so : Int)), (10, .inl (.long (zsta W)))]) (st2 := [zi (-1003)]) rfl ?_
    refine zX.icmp0 (x := (-1003)) (tgt := 666) ⟨rfl, rfl⟩ rfl (by omega) (fun _ => ?_) (fun (zz : 0 ≤ ((-1003) : Int)) => absurd zz (by omega))
    refine zX.sn 1 (pc2 := 667) (l2 := [(4, zi (wd_pr W : Int)), (12, zi (-1003)), (0, .inr (0, 0)), (1, .inr (10, 0)), (2, zi ((wd_L W).length : Int)), (3, zi (wd_pz W)), (5, zi (e : Int)), (7, .inl (.int hh)), (8, zi (pt : Int)), (9, zi (so : Int)), (10, .inl (.long (zsta W)))]) (st2 := [zi (wd_pz W)]) rfl ?_
    refine zX.sn 1 (pc2 := 668) (l2 := [(3, zi (wd_pz W)), (4, zi (wd_pr W : Int)), (12, zi (-1003)), (0, .inr (0, 0)), (1, .inr (10, 0)), (2, zi ((wd_L W).length : Int)), (5, zi (e : Int)), (7, .inl (.int hh)), (8, zi (pt : Int)), (9, zi (so : Int)), (10, .inl (.long (zsta W)))]) (st2 := []) rfl ?_
    refine zX.sn 1 (pc2 := 781) (l2 := [(3, zi (wd_pz W)), (4, zi (wd_pr W : Int)), (12, zi (-1003)), (0, .inr (0, 0)), (1, .inr (10, 0)), (2, zi ((wd_L W).length : Int)), (5, zi (e : Int)), (7, .inl (.int hh)), (8, zi (pt : Int)), (9, zi (so : Int)), (10, .inl (.long (zsta W)))]) (st2 := []) rfl ?_
    refine zX.re [(0, .inr (0, 0)), (1, .inr (10, 0)), (2, zi ((wd_L W).length : Int)), (3, zi (wd_pz W)), (4, zi (wd_pr W : Int)), (5, zi (e : Int)), (10, .inl (.long (zsta W))), (12, zi (-1003))] [3, 4, 5, 0, 1, 6, 10, 2] [3, 4, 12, 0, 1, 2, 5, 7, 8, 9, 10] rfl rfl (by decide) ?_
    refine l_tail (d := d) (W := W) (W1 := W) (gt := (-1003)) (by omega) (Or.inr rfl) (hG.1 _ _ (hG.2.2.1 e W he hI)) he hF (fun h9 M9 c9 s9 r1 r2 => q W h9 M9 c9 s9 (hG.2.2.1 e W he hI) r1 (by have := r2.1; have := r2.2.1; have := r2.2.2; omega))
  | true =>
    have hcu := hc.2.1.2 hu
    have hpz : wd_pz W = ((wd_cu W - wd_pr W : Nat) : Int) := if_pos hu
    have hpz1 : wd_pz (wCom W) = -1 := if_neg (show ¬ (false = true) by decide)
    refine zX.call (mid2 := 170) (as := [.inr (10, 0), zi 14, zi 0, zi 0, zi 0, zi 0]) (rest := []) ⟨rfl, rfl⟩ (fun _ => rfl) rfl ⟨Nat.le_of_ble_eq_true rfl, Nat.le_of_ble_eq_true rfl⟩ ?_
    refine k_complete (d := d + 1) hu hcu.1 hcu.2 hF (fun h1 g1 => ?_)
    show zX _ 174 621 [(0, .inr (0, 0)), (1, .inr (10, 0)), (2, zi ((wd_L W).length : Int)), (3, zi (wd_pz W)), (4, zi (wd_pr W : Int)), (5, zi (e : Int)), (7, .inl (.int hh)), (8, zi (pt : Int)), (9, zi (so : Int)), (10, .inl (.long (zsta W))), (12, zi 0)] [zi (wd_cu W : Int)] c s _ _
    refine zX.sn 1 (pc2 := 623) (l2 := [(12, zi (wd_cu W : Int)), (0, .inr (0, 0)), (1, .inr (10, 0)), (2, zi ((wd_L W).length : Int)), (3, zi (wd_pz W)), (4, zi (wd_pr W : Int)), (5, zi (e : Int)), (7, .inl (.int hh)), (8, zi (pt : Int)), (9, zi (so : Int)), (10, .inl (.long (zsta W)))]) (st2 := []) rfl ?_
    refine zX.sn 1 (pc2 := 625) (l2 := [(12, zi (wd_cu W : Int)), (0, .inr (0, 0)), (1, .inr (10, 0)), (2, zi ((wd_L W).length : Int)), (3, zi (wd_pz W)), (4, zi (wd_pr W : Int)), (5, zi (e : Int)), (7, .inl (.int hh)), (8, zi (pt : Int)), (9, zi (so : Int)), (10, .inl (.long (zsta W)))]) (st2 := [zi (wd_cu W : Int)]) rfl ?_
    refine zX.icmp0 (tgt := 643) ⟨rfl, rfl⟩ rfl (by omega) (fun (zz : (wd_cu W : Int) < 0) => absurd zz (by omega)) (fun _ => ?_)
    refine zX.sn 1 (pc2 := 629) (l2 := [(12, zi (wd_cu W : Int)), (0, .inr (0, 0)), (1, .inr (10, 0)), (2, zi ((wd_L W).length : Int)), (3, zi (wd_pz W)), (4, zi (wd_pr W : Int)), (5, zi (e : Int)), (7, .inl (.int hh)), (8, zi (pt : Int)), (9, zi (so : Int)), (10, .inl (.long (zsta W)))]) (st2 := [zi (wd_pz W)]) rfl ?_
    refine zX.icmp0 (tgt := 641) ⟨rfl, rfl⟩ rfl (by omega) (fun (zz : (wd_pz W) < 0) => absurd zz (by omega)) (fun _ => ?_)
    refine zX.sn 1 (pc2 := 634) (l2 := [(12, zi (wd_cu W : Int)), (0, .inr (0, 0)), (1, .inr (10, 0)), (2, zi ((wd_L W).length : Int)), (3, zi (wd_pz W)), (4, zi (wd_pr W : Int)), (5, zi (e : Int)), (7, .inl (.int hh)), (8, zi (pt : Int)), (9, zi (so : Int)), (10, .inl (.long (zsta W)))]) (st2 := [zi (wd_cu W : Int)]) rfl ?_
    refine zX.sn 1 (pc2 := 636) (l2 := [(12, zi (wd_cu W : Int)), (0, .inr (0, 0)), (1, .inr (10, 0)), (2, zi ((wd_L W).length : Int)), (3, zi (wd_pz W)), (4, zi (wd_pr W : Int)), (5, zi (e : Int)), (7, .inl (.int hh)), (8, zi (pt : Int)), (9, zi (so : Int)), (10, .inl (.long (zsta W)))]) (st2 := [zi (wd_pr W : Int), zi (wd_cu W : Int)]) rfl ?_
    refine zX.sn 1 (pc2 := 637) (l2 := [(12, zi (wd_cu W : Int)), (0, .inr (0, 0)), (1, .inr (10, 0)), (2, zi ((wd_L W).length : Int)), (3, zi (wd_pz W)), (4, zi (wd_pr W : Int)), (5, zi (e : Int)), (7, .inl (.int hh)), (8, zi (pt : Int)), (9, zi (so : Int)), (10, .inl (.long (zsta W)))]) (st2 := [zi (wd_pz W), zi (wd_pr W : Int), zi (wd_cu W : Int)]) rfl ?_
    refine zX.iadd ⟨rfl, rfl⟩ ?_
    refine zX.icmp (tgt := 643) ⟨rfl, rfl⟩ rfl (by omega) (by omega) (fun _ => ?_) (fun (zz : ¬ (wd_cu W : Int) = ((wd_pr W : Int) + (wd_pz W))) => absurd zz (by omega))
    refine zX.sn 1 (pc2 := 645) (l2 := [(12, zi (wd_cu W : Int)), (0, .inr (0, 0)), (1, .inr (10, 0)), (2, zi ((wd_L W).length : Int)), (3, zi (wd_pz W)), (4, zi (wd_pr W : Int)), (5, zi (e : Int)), (7, .inl (.int hh)), (8, zi (pt : Int)), (9, zi (so : Int)), (10, .inl (.long (zsta W)))]) (st2 := [zi (wd_cu W : Int)]) rfl ?_
    refine zX.icmp0 (tgt := 653) ⟨rfl, rfl⟩ rfl (by omega) (fun (zz : (wd_cu W : Int) < 0) => absurd zz (by omega)) (fun _ => ?_)
    refine zX.sn 1 (pc2 := 650) (l2 := [(12, zi (wd_cu W : Int)), (0, .inr (0, 0)), (1, .inr (10, 0)), (2, zi ((wd_L W).length : Int)), (3, zi (wd_pz W)), (4, zi (wd_pr W : Int)), (5, zi (e : Int)), (7, .inl (.int hh)), (8, zi (pt : Int)), (9, zi (so : Int)), (10, .inl (.long (zsta W)))]) (st2 := [zi (wd_cu W : Int)]) rfl ?_
    refine zX.sn 1 (pc2 := 655) (l2 := [(12, zi (wd_cu W : Int)), (0, .inr (0, 0)), (1, .inr (10, 0)), (2, zi ((wd_L W).length : Int)), (3, zi (wd_pz W)), (4, zi (wd_pr W : Int)), (5, zi (e : Int)), (7, .inl (.int hh)), (8, zi (pt : Int)), (9, zi (so : Int)), (10, .inl (.long (zsta W)))]) (st2 := [zi (wd_cu W : Int)]) rfl ?_
    refine zX.sn 1 (pc2 := 657) (l2 := [(4, zi (wd_cu W : Int)), (12, zi (wd_cu W : Int)), (0, .inr (0, 0)), (1, .inr (10, 0)), (2, zi ((wd_L W).length : Int)), (3, zi (wd_pz W)), (5, zi (e : Int)), (7, .inl (.int hh)), (8, zi (pt : Int)), (9, zi (so : Int)), (10, .inl (.long (zsta W)))]) (st2 := []) rfl ?_
    refine zX.sn 1 (pc2 := 659) (l2 := [(4, zi (wd_cu W : Int)), (12, zi (wd_cu W : Int)), (0, .inr (0, 0)), (1, .inr (10, 0)), (2, zi ((wd_L W).length : Int)), (3, zi (wd_pz W)), (5, zi (e : Int)), (7, .inl (.int hh)), (8, zi (pt : Int)), (9, zi (so : Int)), (10, .inl (.long (zsta W)))]) (st2 := [zi (wd_cu W : Int)]) rfl ?_
    refine zX.icmp0 (tgt := 666) ⟨rfl, rfl⟩ rfl (by omega) (fun (zz : (wd_cu W : Int) < 0) => absurd zz (by omega)) (fun _ => ?_)
    refine zX.sn 1 (pc2 := 663) (l2 := [(4, zi (wd_cu W : Int)), (12, zi (wd_cu W : Int)), (0, .inr (0, 0)), (1, .inr (10, 0)), (2, zi ((wd_L W).length : Int)), (3, zi (wd_pz W)), (5, zi (e : Int)), (7, .inl (.int hh)), (8, zi (pt : Int)), (9, zi (so : Int)), (10, .inl (.long (zsta W)))]) (st2 := [zi (-1)]) rfl ?_
    refine zX.sn 1 (pc2 := 667) (l2 := [(4, zi (wd_cu W : Int)), (12, zi (wd_cu W : Int)), (0, .inr (0, 0)), (1, .inr (10, 0)), (2, zi ((wd_L W).length : Int)), (3, zi (wd_pz W)), (5, zi (e : Int)), (7, .inl (.int hh)), (8, zi (pt : Int)), (9, zi (so : Int)), (10, .inl (.long (zsta W)))]) (st2 := [zi (-1)]) rfl ?_
    refine zX.sn 1 (pc2 := 668) (l2 := [(3, zi (-1)), (4, zi (wd_cu W : Int)), (12, zi (wd_cu W : Int)), (0, .inr (0, 0)), (1, .inr (10, 0)), (2, zi ((wd_L W).length : Int)), (5, zi (e : Int)), (7, .inl (.int hh)), (8, zi (pt : Int)), (9, zi (so : Int)), (10, .inl (.long (zsta W)))]) (st2 := []) rfl ?_
    refine zX.sn 1 (pc2 := 781) (l2 := [(3, zi (-1)), (4, zi (wd_cu W : Int)), (12, zi (wd_cu W : Int)), (0, .inr (0, 0)), (1, .inr (10, 0)), (2, zi ((wd_L W).length : Int)), (5, zi (e : Int)), (7, .inl (.int hh)), (8, zi (pt : Int)), (9, zi (so : Int)), (10, .inl (.long (zsta W)))]) (st2 := []) rfl ?_
    refine zX.re [(0, .inr (0, 0)), (1, .inr (10, 0)), (2, zi ((wd_L W).length : Int)), (3, zi (-1)), (4, zi (wd_cu W : Int)), (5, zi (e : Int)), (10, .inl (.long (zsta W))), (12, zi (wd_cu W : Int))] [3, 4, 5, 0, 1, 6, 10, 2] [3, 4, 12, 0, 1, 2, 5, 7, 8, 9, 10] rfl rfl (by decide) ?_
    rw [← hpz1]
    refine l_tail (d := d) (W := W) (W1 := (wCom W)) (gt := (wd_cu W : Int)) (by omega) (Or.inl (by omega)) (hG.1 _ _ (hG.2.2.2.2.2.2.2.2.1 e W he hI hu)) he g1 (fun h9 M9 c9 s9 r1 r2 => q (wCom W) h9 M9 c9 s9 (hG.2.2.2.2.2.2.2.2.1 e W he hI hu) r1 (by have := r2.1; have := r2.2.1; have := r2.2.2; omega))
theorem zcF_len : ∀ (J : List zE) (X : zcX), (zcF J X).2.1.length = X.2.1.length := by
  intro J
  induction J with
  | nil => intro X; rfl
  | cons e r ih =>
    intro X
    show (zcF r (zcF1 X e)).2.1.length = _
    rw [ih]
    exact zaAp_len
theorem zaB_len {out : List Int64} : ∀ (n i : Nat) (L : zVL), (zaB out n i L).length = L.length := by
  intro n
  induction n with
  | zero => intro i L; rfl
  | succ n ih =>
    intro i L
    show (zaB out n (i + 1) (match L[i]? with
      | some X => L.set i (zaB1 out X)
      | none => L)).length = _
    rw [ih]
    split
    · exact List.length_set
    · rfl
theorem wCra_len {W : zWl} : (wd_L (wCra W)).length = (wd_L W).length := by
  show (zcF _ _).2.1.length = _
  rw [zcF_len]
  exact zaB_len _ _ _
set_option maxHeartbeats 2000000 in
theorem o_cra {hh : Int32} {pt so : Nat} (hG : zGd I) (he : e < 60) (hI : I e W) (hpt : pt ≤ 3) (hF : zFd sc h M W) 
    (q : ∀ W1 h1 M1 c1 s1, I (e + 1) W1 → zFd sc h1 M1 W1 → zCs 40 80200 M c s M1 c1 s1 → zX (d + 12) 174 18 [(0, .inr (0, 0)), (1, .inr (10, 0)), (2, zi ((wd_L W1).length : Int)), (3, zi (wd_pz W1)), (4, zi (wd_pr W1 : Int)), (5, zi ((e + 1 : Nat) : Int))] [] c1 s1 h1 Q) : zX (d + 12) 174 678 [(0, .inr (0, 0)), (1, .inr (10, 0)), (2, zi ((wd_L W).length : Int)), (3, zi (wd_pz W)), (4, zi (wd_pr W : Int)), (5, zi (e : Int)), (7, .inl (.int hh)), (8, zi (pt : Int)), (9, zi (so : Int)), (10, .inl (.long (zsta W))), (12, zi 0)] [] c s h Q := by
  have hc := hG.1 _ _ hI
  have hO := hF.ole
  have hp1 := hc.2.1.1
  obtain ⟨N, capv, capj, K, g, hM, hf, hA, hV, hP, hJ, hw, hps, hemp, hsc, hfe, hfv⟩ := id hF
  refine zX.sn 1 (pc2 := 679) (l2 := [(0, .inr (0, 0)), (1, .inr (10, 0)), (2, zi ((wd_L W).length : Int)), (3, zi (wd_pz W)), (4, zi (wd_pr W : Int)), (5, zi (e : Int)), (7, .inl (.int hh)), (8, zi (pt : Int)), (9, zi (so : Int)), (10, .inl (.long (zsta W))), (12, zi 0)]) (st2 := [.inr (10, 0)]) rfl ?_
  refine zX.call (mid2 := 115) (as := [.inr (10, 0)]) (rest := []) ⟨rfl, rfl⟩ (fun _ => rfl) (zX.inv rfl hf rfl rfl) ⟨Nat.le_of_ble_eq_true rfl, Nat.le_of_ble_eq_true rfl⟩ ?_
  refine s_waiting (d := d + 10) hV.1 hf ?_
  show zX _ 174 682 [(0, .inr (0, 0)), (1, .inr (10, 0)), (2, zi ((wd_L W).length : Int)), (3, zi (wd_pz W)), (4, zi (wd_pr W : Int)), (5, zi (e : Int)), (7, .inl (.int hh)), (8, zi (pt : Int)), (9, zi (so : Int)), (10, .inl (.long (zsta W))), (12, zi 0)] [zi (((wd_O W).length : Int) - (wd_wf W : Int))] c s _ _
  refine zX.sn 1 (pc2 := 683) (l2 := [(0, .inr (0, 0)), (1, .inr (10, 0)), (2, zi ((wd_L W).length : Int)), (3, zi (wd_pz W)), (4, zi (wd_pr W : Int)), (5, zi (e : Int)), (7, .inl (.int hh)), (8, zi (pt : Int)), (9, zi (so : Int)), (10, .inl (.long (zsta W))), (12, zi 0)]) (st2 := [zi 0, zi (((wd_O W).length : Int) - (wd_wf W : Int))]) rfl ?_
  refine zX.sn 1 (pc2 := 684) (l2 := [(0, .inr (0, 0)), (1, .inr (10, 0)), (2, zi ((wd_L W).length : Int)), (3, zi (wd_pz W)), (4, zi (wd_pr W : Int)), (5, zi (e : Int)), (7, .inl (.int hh)), (8, zi (pt : Int)), (9, zi (so : Int)), (10, .inl (.long (zsta W))), (12, zi 0)]) (st2 := [zi (wd_pz W), zi 0, zi (((wd_O W).length : Int) - (wd_wf W : Int))]) rfl ?_
  have hpzr := hc.pz hO
  have hwfle := hc.wf
  refine zX.maxi ⟨rfl, rfl⟩ (by omega) (by omega) (Nat.le_of_ble_eq_true rfl) ?_
  refine zX.iadd ⟨rfl, rfl⟩ ?_
  refine zX.sn 1 (pc2 := 690) (l2 := [(13, zi ((((wd_O W).length : Int) - (wd_wf W : Int)) + (if 0 < wd_pz W then wd_pz W else 0))), (0, .inr (0, 0)), (1, .inr (10, 0)), (2, zi ((wd_L W).length : Int)), (3, zi (wd_pz W)), (4, zi (wd_pr W : Int)), (5, zi (e : Int)), (7, .inl (.int hh)), (8, zi (pt : Int)), (9, zi (so : Int)), (10, .inl (.long (zsta W))), (12, zi 0)]) (st2 := []) rfl ?_
  refine zX.sn 1 (pc2 := 691) (l2 := [(13, zi ((((wd_O W).length : Int) - (wd_wf W : Int)) + (if 0 < wd_pz W then wd_pz W else 0))), (0, .inr (0, 0)), (1, .inr (10, 0)), (2, zi ((wd_L W).length : Int)), (3, zi (wd_pz W)), (4, zi (wd_pr W : Int)), (5, zi (e : Int)), (7, .inl (.int hh)), (8, zi (pt : Int)), (9, zi (so : Int)), (10, .inl (.long (zsta W))), (12, zi 0)]) (st2 := [.inr (10, 0)]) rfl ?_
  refine zX.sn 1 (pc2 := 693) (l2 := [(13, zi ((((wd_O W).length : Int) - (wd_wf W : Int)) + (if 0 < wd_pz W then wd_pz W else 0))), (0, .inr (0, 0)), (1, .inr (10, 0)), (2, zi ((wd_L W).length : Int)), (3, zi (wd_pz W)), (4, zi (wd_pr W : Int)), (5, zi (e : Int)), (7, .inl (.int hh)), (8, zi (pt : Int)), (9, zi (so : Int)), (10, .inl (.long (zsta W))), (12, zi 0)]) (st2 := [zi 15, .inr (10, 0)]) rfl ?_
  refine zX.sn 1 (pc2 := 694) (l2 := [(13, zi ((((wd_O W).length : Int) - (wd_wf W : Int)) + (if 0 < wd_pz W then wd_pz W else 0))), (0, .inr (0, 0)), (1, .inr (10, 0)), (2, zi ((wd_L W).length : Int)), (3, zi (wd_pz W)), (4, zi (wd_pr W : Int)), (5, zi (e : Int)), (7, .inl (.int hh)), (8, zi (pt : Int)), (9, zi (so : Int)), (10, .inl (.long (zsta W))), (12, zi 0)]) (st2 := [zi 0, zi 15, .inr (10, 0)]) rfl ?_
  refine zX.sn 1 (pc2 := 695) (l2 := [(13, zi ((((wd_O W).length : Int) - (wd_wf W : Int)) + (if 0 < wd_pz W then wd_pz W else 0))), (0, .inr (0, 0)), (1, .inr (10, 0)), (2, zi ((wd_L W).length : Int)), (3, zi (wd_pz W)), (4, zi (wd_pr W : Int)), (5, zi (e : Int)), (7, .inl (.int hh)), (8, zi (pt : Int)), (9, zi (so : Int)), (10, .inl (.long (zsta W))), (12, zi 0)]) (st2 := [zi 0, zi 0, zi 15, .inr (10, 0)]) rfl ?_
  refine zX.sn 1 (pc2 := 696) (l2 := [(13, zi ((((wd_O W).length : Int) - (wd_wf W : Int)) + (if 0 < wd_pz W then wd_pz W else 0))), (0, .inr (0, 0)), (1, .inr (10, 0)), (2, zi ((wd_L W).length : Int)), (3, zi (wd_pz W)), (4, zi (wd_pr W : Int)), (5, zi (e : Int)), (7, .inl (.int hh)), (8, zi (pt : Int)), (9, zi (so : Int)), (10, .inl (.long (zsta W))), (12, zi 0)]) (st2 := [zi 0, zi 0, zi 0, zi 15, .inr (10, 0)]) rfl ?_
  refine zX.sn 1 (pc2 := 697) (l2 := [(13, zi ((((wd_O W).length : Int) - (wd_wf W : Int)) + (if 0 < wd_pz W then wd_pz W else 0))), (0, .inr (0, 0)), (1, .inr (10, 0)), (2, zi ((wd_L W).length : Int)), (3, zi (wd_pz W)), (4, zi (wd_pr W : Int)), (5, zi (e : Int)), (7, .inl (.int hh)), (8, zi (pt : Int)), (9, zi (so : Int)), (10, .inl (.long (zsta W))), (12, zi 0)]) (st2 := [zi 0, zi 0, zi 0, zi 0, zi 15, .inr (10, 0)]) rfl ?_
  have hlost : ((wd_O W).length : Int) - (wd_wf W : Int) + (if 0 < wd_pz W then wd_pz W else 0) = ((wd_O W).length : Int) - (wd_pr W : Int) := by
    cases hu : wd_uw W with
    | false =>
      have hwf : wd_wf W = wd_pr W := by
        show (if wd_uw W = true then wd_cu W else wd_pr W) = _
        rw [if_neg (by rw [hu]; decide)]
      have hpz : wd_pz W = -1 := if_neg (by rw [hu]; decide)
      rw [hwf, hpz, if_neg (by omega)]
      omega
    | true =>
      have hcu := hc.2.1.2 hu
      have hwf : wd_wf W = wd_cu W := by
        show (if wd_uw W = true then wd_cu W else wd_pr W) = _
        rw [if_pos hu]
      have hpz : wd_pz W = ((wd_cu W - wd_pr W : Nat) : Int) := if_pos hu
      rw [hwf, hpz]
      split <;> omega
  have hzz : ∀ W2 : zWl, wd_uw W2 = false → wd_pz W2 = -1 := fun W2 h2 => if_neg (by rw [h2]; decide)
  refine zX.call (mid2 := 170) (as := [.inr (10, 0), zi 15, zi 0, zi 0, zi 0, zi 0]) (rest := []) ⟨rfl, rfl⟩ (fun _ => rfl) rfl ⟨Nat.le_of_ble_eq_true rfl, Nat.le_of_ble_eq_true rfl⟩ ?_
  refine k_crash (d := d + 1) hc.2.2.2.2.2.2.2.1 hc.2.2.2.2.2.2.2.2.1 hc.2.2.2.2.2.2.2.2.2.1 hc.2.2.2.2.2.2.2.2.2.2.1 hF (fun z h1 g1 => ?_) (fun z h1 M1 c1 s1 g1 g2 => ?_)
  · show zX _ 174 700 [(13, zi ((((wd_O W).length : Int) - (wd_wf W : Int)) + (if 0 < wd_pz W then wd_pz W else 0))), (0, .inr (0, 0)), (1, .inr (10, 0)), (2, zi ((wd_L W).length : Int)), (3, zi (wd_pz W)), (4, zi (wd_pr W : Int)), (5, zi (e : Int)), (7, .inl (.int hh)), (8, zi (pt : Int)), (9, zi (so : Int)), (10, .inl (.long (zsta W))), (12, zi 0)] [zi (((wd_O W).length : Int) - (wd_pr W : Int))] c s _ _
    rw [hlost]
    refine zX.sn 1 (pc2 := 702) (l2 := [(12, zi (((wd_O W).length : Int) - (wd_pr W : Int))), (13, zi (((wd_O W).length : Int) - (wd_pr W : Int))), (0, .inr (0, 0)), (1, .inr (10, 0)), (2, zi ((wd_L W).length : Int)), (3, zi (wd_pz W)), (4, zi (wd_pr W : Int)), (5, zi (e : Int)), (7, .inl (.int hh)), (8, zi (pt : Int)), (9, zi (so : Int)), (10, .inl (.long (zsta W)))]) (st2 := []) rfl ?_
    refine zX.sn 1 (pc2 := 703) (l2 := [(12, zi (((wd_O W).length : Int) - (wd_pr W : Int))), (13, zi (((wd_O W).length : Int) - (wd_pr W : Int))), (0, .inr (0, 0)), (1, .inr (10, 0)), (2, zi ((wd_L W).length : Int)), (3, zi (wd_pz W)), (4, zi (wd_pr W : Int)), (5, zi (e : Int)), (7, .inl (.int hh)), (8, zi (pt : Int)), (9, zi (so : Int)), (10, .inl (.long (zsta W)))]) (st2 := [zi (-1)]) rfl ?_
    refine zX.sn 1 (pc2 := 704) (l2 := [(3, zi (-1)), (12, zi (((wd_O W).length : Int) - (wd_pr W : Int))), (13, zi (((wd_O W).length : Int) - (wd_pr W : Int))), (0, .inr (0, 0)), (1, .inr (10, 0)), (2, zi ((wd_L W).length : Int)), (4, zi (wd_pr W : Int)), (5, zi (e : Int)), (7, .inl (.int hh)), (8, zi (pt : Int)), (9, zi (so : Int)), (10, .inl (.long (zsta W)))]) (st2 := []) rfl ?_
    refine zX.sn 1 (pc2 := 706) (l2 := [(3, zi (-1)), (12, zi (((wd_O W).length : Int) - (wd_pr W : Int))), (13, zi (((wd_O W).length : Int) - (wd_pr W : Int))), (0, .inr (0, 0)), (1, .inr (10, 0)), (2, zi ((wd_L W).length : Int)), (4, zi (wd_pr W : Int)), (5, zi (e : Int)), (7, .inl (.int hh)), (8, zi (pt : Int)), (9, zi (so : Int)), (10, .inl (.long (zsta W)))]) (st2 := [zi (((wd_O W).length : Int) - (wd_pr W : Int))]) rfl ?_
    refine zX.sn 1 (pc2 := 708) (l2 := [(3, zi (-1)), (12, zi (((wd_O W).length : Int) - (wd_pr W : Int))), (13, zi (((wd_O W).length : Int) - (wd_pr W : Int))), (0, .inr (0, 0)), (1, .inr (10, 0)), (2, zi ((wd_L W).length : Int)), (4, zi (wd_pr W : Int)), (5, zi (e : Int)), (7, .inl (.int hh)), (8, zi (pt : Int)), (9, zi (so : Int)), (10, .inl (.long (zsta W)))]) (st2 := [zi (((wd_O W).length : Int) - (wd_pr W : Int)), zi (((wd_O W).length : Int) - (wd_pr W : Int))]) rfl ?_
    refine zX.icmp (tgt := 718) ⟨rfl, rfl⟩ rfl (by omega) (by omega) (fun (zz : ¬ (((wd_O W).length : Int) - (wd_pr W : Int)) = (((wd_O W).length : Int) - (wd_pr W : Int))) => absurd zz (by omega)) (fun _ => ?_)
    refine zX.sn 1 (pc2 := 712) (l2 := [(3, zi (-1)), (12, zi (((wd_O W).length : Int) - (wd_pr W : Int))), (13, zi (((wd_O W).length : Int) - (wd_pr W : Int))), (0, .inr (0, 0)), (1, .inr (10, 0)), (2, zi ((wd_L W).length : Int)), (4, zi (wd_pr W : Int)), (5, zi (e : Int)), (7, .inl (.int hh)), (8, zi (pt : Int)), (9, zi (so : Int)), (10, .inl (.long (zsta W)))]) (st2 := [.inr (10, 0)]) rfl ?_
    obtain ⟨N2, capv2, capj2, K2, g9, hM2, hf2, hA2, hV2, -⟩ := id g1
    refine zX.call (mid2 := 115) (as := [.inr (10, 0)]) (rest := []) ⟨rfl, rfl⟩ (fun _ => rfl) (zX.inv rfl hf2 rfl rfl) ⟨Nat.le_of_ble_eq_true rfl, Nat.le_of_ble_eq_true rfl⟩ ?_
    refine s_waiting (d := d + 10) hV2.1 hf2 ?_
    have hoe : (wd_O (wUnc W)).length = wd_pr W := hc.2.2.2.2.2.2.2.2.2.2.2.1 z
    have hz0 : ((wd_O (wUnc W)).length : Int) - ((if wd_uw (wUnc W) = true then wd_cu (wUnc W) else wd_pr (wUnc W) : Nat) : Int) = 0 := by
      have hne : ¬ wd_uw (wUnc W) = true := show ¬ (false = true) by decide
      rw [if_neg hne, hoe]
      show (wd_pr W : Int) - (wd_pr W : Int) = 0
      omega
    rw [hz0]
    show zX _ 174 715 [(3, zi (-1)), (12, zi (((wd_O W).length : Int) - (wd_pr W : Int))), (13, zi (((wd_O W).length : Int) - (wd_pr W : Int))), (0, .inr (0, 0)), (1, .inr (10, 0)), (2, zi ((wd_L W).length : Int)), (4, zi (wd_pr W : Int)), (5, zi (e : Int)), (7, .inl (.int hh)), (8, zi (pt : Int)), (9, zi (so : Int)), (10, .inl (.long (zsta W)))] [zi 0] c s _ _
    refine zX.icmp0 (x := 0) (tgt := 720) ⟨rfl, rfl⟩ rfl (by omega) (fun _ => ?_) (fun (zz : ¬ (0 : Int) = 0) => absurd zz (by omega))
    refine zX.sn 1 (pc2 := 781) (l2 := [(3, zi (-1)), (12, zi (((wd_O W).length : Int) - (wd_pr W : Int))), (13, zi (((wd_O W).length : Int) - (wd_pr W : Int))), (0, .inr (0, 0)), (1, .inr (10, 0)), (2, zi ((wd_L W).length : Int)), (4, zi (wd_pr W : Int)), (5, zi (e : Int)), (7, .inl (.int hh)), (8, zi (pt : Int)), (9, zi (so : Int)), (10, .inl (.long (zsta W)))]) (st2 := []) rfl ?_
    refine zX.re [(0, .inr (0, 0)), (1, .inr (10, 0)), (2, zi ((wd_L W).length : Int)), (3, zi (-1)), (4, zi (wd_pr W : Int)), (5, zi (e : Int)), (10, .inl (.long (zsta W))), (12, zi (((wd_O W).length : Int) - (wd_pr W : Int)))] [3, 4, 5, 0, 6, 7, 11, 1] [3, 12, 13, 0, 1, 2, 4, 5, 7, 8, 9, 10] rfl rfl (by decide) ?_
    rw [← hzz (wUnc W) rfl]
    refine l_tail (d := d) (W := W) (W1 := (wUnc W)) (gt := (((wd_O W).length : Int) - (wd_pr W : Int))) (by omega) (Or.inl (by omega)) (hG.1 _ _ (hG.2.2.2.2.2.2.2.2.2.1.1 e W he hI z)) he g1 (fun h9 M9 c9 s9 r1 r2 => q (wUnc W) h9 M9 c9 s9 (hG.2.2.2.2.2.2.2.2.2.1.1 e W he hI z) r1 (by have := r2.1; have := r2.2.1; have := r2.2.2; omega))
  · show zX _ 174 700 [(13, zi ((((wd_O W).length : Int) - (wd_wf W : Int)) + (if 0 < wd_pz W then wd_pz W else 0))), (0, .inr (0, 0)), (1, .inr (10, 0)), (2, zi ((wd_L W).length : Int)), (3, zi (wd_pz W)), (4, zi (wd_pr W : Int)), (5, zi (e : Int)), (7, .inl (.int hh)), (8, zi (pt : Int)), (9, zi (so : Int)), (10, .inl (.long (zsta W))), (12, zi 0)] [zi (((wd_O W).length : Int) - (wd_pr W : Int))] c1 s1 _ _
    rw [hlost]
    refine zX.sn 1 (pc2 := 702) (l2 := [(12, zi (((wd_O W).length : Int) - (wd_pr W : Int))), (13, zi (((wd_O W).length : Int) - (wd_pr W : Int))), (0, .inr (0, 0)), (1, .inr (10, 0)), (2, zi ((wd_L W).length : Int)), (3, zi (wd_pz W)), (4, zi (wd_pr W : Int)), (5, zi (e : Int)), (7, .inl (.int hh)), (8, zi (pt : Int)), (9, zi (so : Int)), (10, .inl (.long (zsta W)))]) (st2 := []) rfl ?_
    refine zX.sn 1 (pc2 := 703) (l2 := [(12, zi (((wd_O W).length : Int) - (wd_pr W : Int))), (13, zi (((wd_O W).length : Int) - (wd_pr W : Int))), (0, .inr (0, 0)), (1, .inr (10, 0)), (2, zi ((wd_L W).length : Int)), (3, zi (wd_pz W)), (4, zi (wd_pr W : Int)), (5, zi (e : Int)), (7, .inl (.int hh)), (8, zi (pt : Int)), (9, zi (so : Int)), (10, .inl (.long (zsta W)))]) (st2 := [zi (-1)]) rfl ?_
    refine zX.sn 1 (pc2 := 704) (l2 := [(3, zi (-1)), (12, zi (((wd_O W).length : Int) - (wd_pr W : Int))), (13, zi (((wd_O W).length : Int) - (wd_pr W : Int))), (0, .inr (0, 0)), (1, .inr (10, 0)), (2, zi ((wd_L W).length : Int)), (4, zi (wd_pr W : Int)), (5, zi (e : Int)), (7, .inl (.int hh)), (8, zi (pt : Int)), (9, zi (so : Int)), (10, .inl (.long (zsta W)))]) (st2 := []) rfl ?_
    refine zX.sn 1 (pc2 := 706) (l2 := [(3, zi (-1)), (12, zi (((wd_O W).length : Int) - (wd_pr W : Int))), (13, zi (((wd_O W).length : Int) - (wd_pr W : Int))), (0, .inr (0, 0)), (1, .inr (10, 0)), (2, zi ((wd_L W).length : Int)), (4, zi (wd_pr W : Int)), (5, zi (e : Int)), (7, .inl (.int hh)), (8, zi (pt : Int)), (9, zi (so : Int)), (10, .inl (.long (zsta W)))]) (st2 := [zi (((wd_O W).length : Int) - (wd_pr W : Int))]) rfl ?_
    refine zX.sn 1 (pc2 := 708) (l2 := [(3, zi (-1)), (12, zi (((wd_O W).length : Int) - (wd_pr W : Int))), (13, zi (((wd_O W).length : Int) - (wd_pr W : Int))), (0, .inr (0, 0)), (1, .inr (10, 0)), (2, zi ((wd_L W).length : Int)), (4, zi (wd_pr W : Int)), (5, zi (e : Int)), (7, .inl (.int hh)), (8, zi (pt : Int)), (9, zi (so : Int)), (10, .inl (.long (zsta W)))]) (st2 := [zi (((wd_O W).length : Int) - (wd_pr W : Int)), zi (((wd_O W).length : Int) - (wd_pr W : Int))]) rfl ?_
    refine zX.icmp (tgt := 718) ⟨rfl, rfl⟩ rfl (by omega) (by omega) (fun (zz : ¬ (((wd_O W).length : Int) - (wd_pr W : Int)) = (((wd_O W).length : Int) - (wd_pr W : Int))) => absurd zz (by omega)) (fun _ => ?_)
    refine zX.sn 1 (pc2 := 712) (l2 := [(3, zi (-1)), (12, zi (((wd_O W).length : Int) - (wd_pr W : Int))), (13, zi (((wd_O W).length : Int) - (wd_pr W : Int))), (0, .inr (0, 0)), (1, .inr (10, 0)), (2, zi ((wd_L W).length : Int)), (4, zi (wd_pr W : Int)), (5, zi (e : Int)), (7, .inl (.int hh)), (8, zi (pt : Int)), (9, zi (so : Int)), (10, .inl (.long (zsta W)))]) (st2 := [.inr (10, 0)]) rfl ?_
    obtain ⟨N2, capv2, capj2, K2, g9, hM2, hf2, hA2, hV2, -⟩ := id g1
    refine zX.call (mid2 := 115) (as := [.inr (10, 0)]) (rest := []) ⟨rfl, rfl⟩ (fun _ => rfl) (zX.inv rfl hf2 rfl rfl) ⟨Nat.le_of_ble_eq_true rfl, Nat.le_of_ble_eq_true rfl⟩ ?_
    refine s_waiting (d := d + 10) hV2.1 hf2 ?_
    have hoe : (wd_O (wCra W)).length = wd_pr W := hc.2.2.2.2.2.2.2.2.2.2.2.2 z
    have hz0 : ((wd_O (wCra W)).length : Int) - ((if wd_uw (wCra W) = true then wd_cu (wCra W) else wd_pr (wCra W) : Nat) : Int) = 0 := by
      have hne : ¬ wd_uw (wCra W) = true := show ¬ (false = true) by decide
      rw [if_neg hne, hoe]
      show (wd_pr W : Int) - (wd_pr W : Int) = 0
      omega
    rw [hz0]
    show zX _ 174 715 [(3, zi (-1)), (12, zi (((wd_O W).length : Int) - (wd_pr W : Int))), (13, zi (((wd_O W).length : Int) - (wd_pr W : Int))), (0, .inr (0, 0)), (1, .inr (10, 0)), (2, zi ((wd_L W).length : Int)), (4, zi (wd_pr W : Int)), (5, zi (e : Int)), (7, .inl (.int hh)), (8, zi (pt : Int)), (9, zi (so : Int)), (10, .inl (.long (zsta W)))] [zi 0] c1 s1 _ _
    refine zX.icmp0 (x := 0) (tgt := 720) ⟨rfl, rfl⟩ rfl (by omega) (fun _ => ?_) (fun (zz : ¬ (0 : Int) = 0) => absurd zz (by omega))
    refine zX.sn 1 (pc2 := 781) (l2 := [(3, zi (-1)), (12, zi (((wd_O W).length : Int) - (wd_pr W : Int))), (13, zi (((wd_O W).length : Int) - (wd_pr W : Int))), (0, .inr (0, 0)), (1, .inr (10, 0)), (2, zi ((wd_L W).length : Int)), (4, zi (wd_pr W : Int)), (5, zi (e : Int)), (7, .inl (.int hh)), (8, zi (pt : Int)), (9, zi (so : Int)), (10, .inl (.long (zsta W)))]) (st2 := []) rfl ?_
    refine zX.re [(0, .inr (0, 0)), (1, .inr (10, 0)), (2, zi ((wd_L W).length : Int)), (3, zi (-1)), (4, zi (wd_pr W : Int)), (5, zi (e : Int)), (10, .inl (.long (zsta W))), (12, zi (((wd_O W).length : Int) - (wd_pr W : Int)))] [3, 4, 5, 0, 6, 7, 11, 1] [3, 12, 13, 0, 1, 2, 4, 5, 7, 8, 9, 10] rfl rfl (by decide) ?_
    rw [← hzz (wCra W) rfl]
    have hln : ((wd_L W).length : Int) = ((wd_L (wCra W)).length : Int) := congrArg _ (wCra_len).symm
    rw [hln]
    refine l_tail (d := d) (W := W) (W1 := (wCra W)) (gt := (((wd_O W).length : Int) - (wd_pr W : Int))) (by omega) (Or.inl (by omega)) (hG.1 _ _ (hG.2.2.2.2.2.2.2.2.2.1.2 e W he hI z)) he g1 (fun h9 M9 c9 s9 r1 r2 => q (wCra W) h9 M9 c9 s9 (hG.2.2.2.2.2.2.2.2.2.1.2 e W he hI z) r1 (by have := g2.1; have := g2.2.1; have := g2.2.2; have := r2.1; have := r2.2.1; have := r2.2.2; omega))
set_option maxHeartbeats 2000000 in
theorem o_mov {hh : Int32} {pt so : Nat} (hG : zGd I) (he : e < 60) (hI : I e W) (hpt : pt ≤ 3) (hF : zFd sc h M W) 
    (q : ∀ W1 h1 M1 c1 s1, I (e + 1) W1 → zFd sc h1 M1 W1 → zCs 40 80200 M c s M1 c1 s1 → zX (d + 12) 174 18 [(0, .inr (0, 0)), (1, .inr (10, 0)), (2, zi ((wd_L W1).length : Int)), (3, zi (wd_pz W1)), (4, zi (wd_pr W1 : Int)), (5, zi ((e + 1 : Nat) : Int))] [] c1 s1 h1 Q) : zX (d + 12) 174 723 [(0, .inr (0, 0)), (1, .inr (10, 0)), (2, zi ((wd_L W).length : Int)), (3, zi (wd_pz W)), (4, zi (wd_pr W : Int)), (5, zi (e : Int)), (7, .inl (.int hh)), (8, zi (pt : Int)), (9, zi (so : Int)), (10, .inl (.long (zsta W))), (12, zi 0)] [] c s h Q := by
  have hc := hG.1 _ _ hI
  have hO := hF.ole
  have hp1 := hc.2.1.1
  refine zX.sn 1 (pc2 := 725) (l2 := [(0, .inr (0, 0)), (1, .inr (10, 0)), (2, zi ((wd_L W).length : Int)), (3, zi (wd_pz W)), (4, zi (wd_pr W : Int)), (5, zi (e : Int)), (7, .inl (.int hh)), (8, zi (pt : Int)), (9, zi (so : Int)), (10, .inl (.long (zsta W))), (12, zi 0)]) (st2 := [.inl (.int hh)]) rfl ?_
  refine zX.sn 1 (pc2 := 727) (l2 := [(0, .inr (0, 0)), (1, .inr (10, 0)), (2, zi ((wd_L W).length : Int)), (3, zi (wd_pz W)), (4, zi (wd_pr W : Int)), (5, zi (e : Int)), (7, .inl (.int hh)), (8, zi (pt : Int)), (9, zi (so : Int)), (10, .inl (.long (zsta W))), (12, zi 0)]) (st2 := [zi 9, .inl (.int hh)]) rfl ?_
  refine zX.call (mid2 := 169) (as := [.inl (.int hh), zi 9]) (rest := []) ⟨rfl, rfl⟩ (fun _ => rfl) rfl ⟨Nat.le_of_ble_eq_true rfl, Nat.le_of_ble_eq_true rfl⟩ ?_
  refine s_low (x := hh) (n := 9) (by omega) ?_
  show zX _ 174 730 [(0, .inr (0, 0)), (1, .inr (10, 0)), (2, zi ((wd_L W).length : Int)), (3, zi (wd_pz W)), (4, zi (wd_pr W : Int)), (5, zi (e : Int)), (7, .inl (.int hh)), (8, zi (pt : Int)), (9, zi (so : Int)), (10, .inl (.long (zsta W))), (12, zi 0)] [zi (zlo hh 9 : Int)] c s _ _
  refine zX.sn 1 (pc2 := 732) (l2 := [(13, zi (zlo hh 9 : Int)), (0, .inr (0, 0)), (1, .inr (10, 0)), (2, zi ((wd_L W).length : Int)), (3, zi (wd_pz W)), (4, zi (wd_pr W : Int)), (5, zi (e : Int)), (7, .inl (.int hh)), (8, zi (pt : Int)), (9, zi (so : Int)), (10, .inl (.long (zsta W))), (12, zi 0)]) (st2 := []) rfl ?_
  refine zX.sn 1 (pc2 := 733) (l2 := [(13, zi (zlo hh 9 : Int)), (0, .inr (0, 0)), (1, .inr (10, 0)), (2, zi ((wd_L W).length : Int)), (3, zi (wd_pz W)), (4, zi (wd_pr W : Int)), (5, zi (e : Int)), (7, .inl (.int hh)), (8, zi (pt : Int)), (9, zi (so : Int)), (10, .inl (.long (zsta W))), (12, zi 0)]) (st2 := [.inr (10, 0)]) rfl ?_
  refine zX.sn 1 (pc2 := 735) (l2 := [(13, zi (zlo hh 9 : Int)), (0, .inr (0, 0)), (1, .inr (10, 0)), (2, zi ((wd_L W).length : Int)), (3, zi (wd_pz W)), (4, zi (wd_pr W : Int)), (5, zi (e : Int)), (7, .inl (.int hh)), (8, zi (pt : Int)), (9, zi (so : Int)), (10, .inl (.long (zsta W))), (12, zi 0)]) (st2 := [zi 19, .inr (10, 0)]) rfl ?_
  refine zX.sn 1 (pc2 := 737) (l2 := [(13, zi (zlo hh 9 : Int)), (0, .inr (0, 0)), (1, .inr (10, 0)), (2, zi ((wd_L W).length : Int)), (3, zi (wd_pz W)), (4, zi (wd_pr W : Int)), (5, zi (e : Int)), (7, .inl (.int hh)), (8, zi (pt : Int)), (9, zi (so : Int)), (10, .inl (.long (zsta W))), (12, zi 0)]) (st2 := [zi (zlo hh 9 : Int), zi 19, .inr (10, 0)]) rfl ?_
  refine zX.sn 1 (pc2 := 739) (l2 := [(13, zi (zlo hh 9 : Int)), (0, .inr (0, 0)), (1, .inr (10, 0)), (2, zi ((wd_L W).length : Int)), (3, zi (wd_pz W)), (4, zi (wd_pr W : Int)), (5, zi (e : Int)), (7, .inl (.int hh)), (8, zi (pt : Int)), (9, zi (so : Int)), (10, .inl (.long (zsta W))), (12, zi 0)]) (st2 := [.inl (.int hh), zi (zlo hh 9 : Int), zi 19, .inr (10, 0)]) rfl ?_
  refine zX.sn 1 (pc2 := 740) (l2 := [(13, zi (zlo hh 9 : Int)), (0, .inr (0, 0)), (1, .inr (10, 0)), (2, zi ((wd_L W).length : Int)), (3, zi (wd_pz W)), (4, zi (wd_pr W : Int)), (5, zi (e : Int)), (7, .inl (.int hh)), (8, zi (pt : Int)), (9, zi (so : Int)), (10, .inl (.long (zsta W))), (12, zi 0)]) (st2 := [zi 4, .inl (.int hh), zi (zlo hh 9 : Int), zi 19, .inr (10, 0)]) rfl ?_
  refine zX.sn 1 (pc2 := 741) (l2 := [(13, zi (zlo hh 9 : Int)), (0, .inr (0, 0)), (1, .inr (10, 0)), (2, zi ((wd_L W).length : Int)), (3, zi (wd_pz W)), (4, zi (wd_pr W : Int)), (5, zi (e : Int)), (7, .inl (.int hh)), (8, zi (pt : Int)), (9, zi (so : Int)), (10, .inl (.long (zsta W))), (12, zi 0)]) (st2 := [.inl (.int (hh >>> ((Int32.ofInt 4) &&& 31))), zi (zlo hh 9 : Int), zi 19, .inr (10, 0)]) rfl ?_
  refine zX.sn 1 (pc2 := 742) (l2 := [(13, zi (zlo hh 9 : Int)), (0, .inr (0, 0)), (1, .inr (10, 0)), (2, zi ((wd_L W).length : Int)), (3, zi (wd_pz W)), (4, zi (wd_pr W : Int)), (5, zi (e : Int)), (7, .inl (.int hh)), (8, zi (pt : Int)), (9, zi (so : Int)), (10, .inl (.long (zsta W))), (12, zi 0)]) (st2 := [zi 4, .inl (.int (hh >>> ((Int32.ofInt 4) &&& 31))), zi (zlo hh 9 : Int), zi 19, .inr (10, 0)]) rfl ?_
  refine zX.call (mid2 := 169) (as := [.inl (.int (hh >>> ((Int32.ofInt 4) &&& 31))), zi 4]) (rest := [zi (zlo hh 9 : Int), zi 19, .inr (10, 0)]) ⟨rfl, rfl⟩ (fun _ => rfl) rfl ⟨Nat.le_of_ble_eq_true rfl, Nat.le_of_ble_eq_true rfl⟩ ?_
  refine s_low (x := (hh >>> ((Int32.ofInt 4) &&& 31))) (n := 4) (by omega) ?_
  show zX _ 174 745 [(13, zi (zlo hh 9 : Int)), (0, .inr (0, 0)), (1, .inr (10, 0)), (2, zi ((wd_L W).length : Int)), (3, zi (wd_pz W)), (4, zi (wd_pr W : Int)), (5, zi (e : Int)), (7, .inl (.int hh)), (8, zi (pt : Int)), (9, zi (so : Int)), (10, .inl (.long (zsta W))), (12, zi 0)] [zi (zlo (hh >>> ((Int32.ofInt 4) &&& 31)) 4 : Int), zi (zlo hh 9 : Int), zi 19, .inr (10, 0)] c s _ _
  refine zX.sn 1 (pc2 := 746) (l2 := [(13, zi (zlo hh 9 : Int)), (0, .inr (0, 0)), (1, .inr (10, 0)), (2, zi ((wd_L W).length : Int)), (3, zi (wd_pz W)), (4, zi (wd_pr W : Int)), (5, zi (e : Int)), (7, .inl (.int hh)), (8, zi (pt : Int)), (9, zi (so : Int)), (10, .inl (.long (zsta W))), (12, zi 0)]) (st2 := [zi 0, zi (zlo (hh >>> ((Int32.ofInt 4) &&& 31)) 4 : Int), zi (zlo hh 9 : Int), zi 19, .inr (10, 0)]) rfl ?_
  refine zX.sn 1 (pc2 := 747) (l2 := [(13, zi (zlo hh 9 : Int)), (0, .inr (0, 0)), (1, .inr (10, 0)), (2, zi ((wd_L W).length : Int)), (3, zi (wd_pz W)), (4, zi (wd_pr W : Int)), (5, zi (e : Int)), (7, .inl (.int hh)), (8, zi (pt : Int)), (9, zi (so : Int)), (10, .inl (.long (zsta W))), (12, zi 0)]) (st2 := [zi 0, zi 0, zi (zlo (hh >>> ((Int32.ofInt 4) &&& 31)) 4 : Int), zi (zlo hh 9 : Int), zi 19, .inr (10, 0)]) rfl ?_
  have h9 := zlo_lt (x := hh) (n := 9) (by omega)
  have h4 := zlo_lt (x := hh >>> ((Int32.ofInt 4) &&& 31)) (n := 4) (by omega)
  by_cases hk : zlo hh 9 < 8
  · by_cases hw3 : zlo (hh >>> ((Int32.ofInt 4) &&& 31)) 4 < 3
    · obtain ⟨nn, hnn, hzk⟩ := hc.2.2.2.2.2.2.1 (zlo hh 9) hk
      refine zX.call (mid2 := 170) (as := [.inr (10, 0), zi 19, zi (zlo hh 9 : Int), zi (zlo (hh >>> ((Int32.ofInt 4) &&& 31)) 4 : Int), zi 0, zi 0]) (rest := []) ⟨rfl, rfl⟩ (fun _ => rfl) rfl ⟨Nat.le_of_ble_eq_true rfl, Nat.le_of_ble_eq_true rfl⟩ ?_
      refine k_move (d := d + 1) hk hw3 hF (fun h1 g1 => ?_)
      rw [hzk]
      show zX _ 174 750 [(13, zi (zlo hh 9 : Int)), (0, .inr (0, 0)), (1, .inr (10, 0)), (2, zi ((wd_L W).length : Int)), (3, zi (wd_pz W)), (4, zi (wd_pr W : Int)), (5, zi (e : Int)), (7, .inl (.int hh)), (8, zi (pt : Int)), (9, zi (so : Int)), (10, .inl (.long (zsta W))), (12, zi 0)] [zi (nn : Int)] c s _ _
      refine zX.sn 1 (pc2 := 752) (l2 := [(12, zi (nn : Int)), (13, zi (zlo hh 9 : Int)), (0, .inr (0, 0)), (1, .inr (10, 0)), (2, zi ((wd_L W).length : Int)), (3, zi (wd_pz W)), (4, zi (wd_pr W : Int)), (5, zi (e : Int)), (7, .inl (.int hh)), (8, zi (pt : Int)), (9, zi (so : Int)), (10, .inl (.long (zsta W)))]) (st2 := []) rfl ?_
      refine zX.sn 1 (pc2 := 754) (l2 := [(12, zi (nn : Int)), (13, zi (zlo hh 9 : Int)), (0, .inr (0, 0)), (1, .inr (10, 0)), (2, zi ((wd_L W).length : Int)), (3, zi (wd_pz W)), (4, zi (wd_pr W : Int)), (5, zi (e : Int)), (7, .inl (.int hh)), (8, zi (pt : Int)), (9, zi (so : Int)), (10, .inl (.long (zsta W)))]) (st2 := [zi (nn : Int)]) rfl ?_
      refine zX.icmp0 (tgt := 781) ⟨rfl, rfl⟩ rfl (by omega) (fun (zz : (nn : Int) < 0) => absurd zz (by omega)) (fun _ => ?_)
      refine zX.sn 1 (pc2 := 758) (l2 := [(12, zi (nn : Int)), (13, zi (zlo hh 9 : Int)), (0, .inr (0, 0)), (1, .inr (10, 0)), (2, zi ((wd_L W).length : Int)), (3, zi (wd_pz W)), (4, zi (wd_pr W : Int)), (5, zi (e : Int)), (7, .inl (.int hh)), (8, zi (pt : Int)), (9, zi (so : Int)), (10, .inl (.long (zsta W)))]) (st2 := [.inr (10, 0)]) rfl ?_
      refine zX.sn 1 (pc2 := 760) (l2 := [(12, zi (nn : Int)), (13, zi (zlo hh 9 : Int)), (0, .inr (0, 0)), (1, .inr (10, 0)), (2, zi ((wd_L W).length : Int)), (3, zi (wd_pz W)), (4, zi (wd_pr W : Int)), (5, zi (e : Int)), (7, .inl (.int hh)), (8, zi (pt : Int)), (9, zi (so : Int)), (10, .inl (.long (zsta W)))]) (st2 := [zi 20, .inr (10, 0)]) rfl ?_
      refine zX.sn 1 (pc2 := 762) (l2 := [(12, zi (nn : Int)), (13, zi (zlo hh 9 : Int)), (0, .inr (0, 0)), (1, .inr (10, 0)), (2, zi ((wd_L W).length : Int)), (3, zi (wd_pz W)), (4, zi (wd_pr W : Int)), (5, zi (e : Int)), (7, .inl (.int hh)), (8, zi (pt : Int)), (9, zi (so : Int)), (10, .inl (.long (zsta W)))]) (st2 := [zi (zlo hh 9 : Int), zi 20, .inr (10, 0)]) rfl ?_
      refine zX.sn 1 (pc2 := 763) (l2 := [(12, zi (nn : Int)), (13, zi (zlo hh 9 : Int)), (0, .inr (0, 0)), (1, .inr (10, 0)), (2, zi ((wd_L W).length : Int)), (3, zi (wd_pz W)), (4, zi (wd_pr W : Int)), (5, zi (e : Int)), (7, .inl (.int hh)), (8, zi (pt : Int)), (9, zi (so : Int)), (10, .inl (.long (zsta W)))]) (st2 := [zi 0, zi (zlo hh 9 : Int), zi 20, .inr (10, 0)]) rfl ?_
      refine zX.sn 1 (pc2 := 764) (l2 := [(12, zi (nn : Int)), (13, zi (zlo hh 9 : Int)), (0, .inr (0, 0)), (1, .inr (10, 0)), (2, zi ((wd_L W).length : Int)), (3, zi (wd_pz W)), (4, zi (wd_pr W : Int)), (5, zi (e : Int)), (7, .inl (.int hh)), (8, zi (pt : Int)), (9, zi (so : Int)), (10, .inl (.long (zsta W)))]) (st2 := [zi 0, zi 0, zi (zlo hh 9 : Int), zi 20, .inr (10, 0)]) rfl ?_
      refine zX.sn 1 (pc2 := 765) (l2 := [(12, zi (nn : Int)), (13, zi (zlo hh 9 : Int)), (0, .inr (0, 0)), (1, .inr (10, 0)), (2, zi ((wd_L W).length : Int)), (3, zi (wd_pz W)), (4, zi (wd_pr W : Int)), (5, zi (e : Int)), (7, .inl (.int hh)), (8, zi (pt : Int)), (9, zi (so : Int)), (10, .inl (.long (zsta W)))]) (st2 := [zi 0, zi 0, zi 0, zi (zlo hh 9 : Int), zi 20, .inr (10, 0)]) rfl ?_
      refine zX.call (mid2 := 170) (as := [.inr (10, 0), zi 20, zi (zlo hh 9 : Int), zi 0, zi 0, zi 0]) (rest := []) ⟨rfl, rfl⟩ (fun _ => rfl) rfl ⟨Nat.le_of_ble_eq_true rfl, Nat.le_of_ble_eq_true rfl⟩ ?_
      refine k_workerOf (d := d + 1) hk g1 ?_
      rw [show wd_wk (wMov W (zlo hh 9) (zlo (hh >>> ((Int32.ofInt 4) &&& 31)) 4)) (zlo hh 9) = ((zlo (hh >>> ((Int32.ofInt 4) &&& 31)) 4 : Nat) : Int) from if_pos rfl]
      show zX _ 174 768 [(12, zi (nn : Int)), (13, zi (zlo hh 9 : Int)), (0, .inr (0, 0)), (1, .inr (10, 0)), (2, zi ((wd_L W).length : Int)), (3, zi (wd_pz W)), (4, zi (wd_pr W : Int)), (5, zi (e : Int)), (7, .inl (.int hh)), (8, zi (pt : Int)), (9, zi (so : Int)), (10, .inl (.long (zsta W)))] [zi ((zlo (hh >>> ((Int32.ofInt 4) &&& 31)) 4 : Nat) : Int)] c s _ _
      refine zX.sn 1 (pc2 := 770) (l2 := [(12, zi (nn : Int)), (13, zi (zlo hh 9 : Int)), (0, .inr (0, 0)), (1, .inr (10, 0)), (2, zi ((wd_L W).length : Int)), (3, zi (wd_pz W)), (4, zi (wd_pr W : Int)), (5, zi (e : Int)), (7, .inl (.int hh)), (8, zi (pt : Int)), (9, zi (so : Int)), (10, .inl (.long (zsta W)))]) (st2 := [.inl (.int hh), zi ((zlo (hh >>> ((Int32.ofInt 4) &&& 31)) 4 : Nat) : Int)]) rfl ?_
      refine zX.sn 1 (pc2 := 771) (l2 := [(12, zi (nn : Int)), (13, zi (zlo hh 9 : Int)), (0, .inr (0, 0)), (1, .inr (10, 0)), (2, zi ((wd_L W).length : Int)), (3, zi (wd_pz W)), (4, zi (wd_pr W : Int)), (5, zi (e : Int)), (7, .inl (.int hh)), (8, zi (pt : Int)), (9, zi (so : Int)), (10, .inl (.long (zsta W)))]) (st2 := [zi 4, .inl (.int hh), zi ((zlo (hh >>> ((Int32.ofInt 4) &&& 31)) 4 : Nat) : Int)]) rfl ?_
      refine zX.sn 1 (pc2 := 772) (l2 := [(12, zi (nn : Int)), (13, zi (zlo hh 9 : Int)), (0, .inr (0, 0)), (1, .inr (10, 0)), (2, zi ((wd_L W).length : Int)), (3, zi (wd_pz W)), (4, zi (wd_pr W : Int)), (5, zi (e : Int)), (7, .inl (.int hh)), (8, zi (pt : Int)), (9, zi (so : Int)), (10, .inl (.long (zsta W)))]) (st2 := [.inl (.int (hh >>> ((Int32.ofInt 4) &&& 31))), zi ((zlo (hh >>> ((Int32.ofInt 4) &&& 31)) 4 : Nat) : Int)]) rfl ?_
      refine zX.sn 1 (pc2 := 773) (l2 := [(12, zi (nn : Int)), (13, zi (zlo hh 9 : Int)), (0, .inr (0, 0)), (1, .inr (10, 0)), (2, zi ((wd_L W).length : Int)), (3, zi (wd_pz W)), (4, zi (wd_pr W : Int)), (5, zi (e : Int)), (7, .inl (.int hh)), (8, zi (pt : Int)), (9, zi (so : Int)), (10, .inl (.long (zsta W)))]) (st2 := [zi 4, .inl (.int (hh >>> ((Int32.ofInt 4) &&& 31))), zi ((zlo (hh >>> ((Int32.ofInt 4) &&& 31)) 4 : Nat) : Int)]) rfl ?_
      refine zX.call (mid2 := 169) (as := [.inl (.int (hh >>> ((Int32.ofInt 4) &&& 31))), zi 4]) (rest := [zi ((zlo (hh >>> ((Int32.ofInt 4) &&& 31)) 4 : Nat) : Int)]) ⟨rfl, rfl⟩ (fun _ => rfl) rfl ⟨Nat.le_of_ble_eq_true rfl, Nat.le_of_ble_eq_true rfl⟩ ?_
      refine s_low (x := (hh >>> ((Int32.ofInt 4) &&& 31))) (n := 4) (by omega) ?_
      show zX _ 174 776 [(12, zi (nn : Int)), (13, zi (zlo hh 9 : Int)), (0, .inr (0, 0)), (1, .inr (10, 0)), (2, zi ((wd_L W).length : Int)), (3, zi (wd_pz W)), (4, zi (wd_pr W : Int)), (5, zi (e : Int)), (7, .inl (.int hh)), (8, zi (pt : Int)), (9, zi (so : Int)), (10, .inl (.long (zsta W)))] [zi (zlo (hh >>> ((Int32.ofInt 4) &&& 31)) 4 : Int), zi ((zlo (hh >>> ((Int32.ofInt 4) &&& 31)) 4 : Nat) : Int)] c s _ _
      refine zX.icmp (tgt := 781) ⟨rfl, rfl⟩ rfl (by omega) (by omega) (fun _ => ?_) (fun (zz : ¬ ((zlo (hh >>> ((Int32.ofInt 4) &&& 31)) 4 : Nat) : Int) = (zlo (hh >>> ((Int32.ofInt 4) &&& 31)) 4 : Int)) => absurd zz (by omega))
      refine zX.re [(0, .inr (0, 0)), (1, .inr (10, 0)), (2, zi ((wd_L W).length : Int)), (3, zi (wd_pz W)), (4, zi (wd_pr W : Int)), (5, zi (e : Int)), (10, .inl (.long (zsta W))), (12, zi (nn : Int))] [2, 3, 4, 5, 6, 7, 11, 0] [12, 13, 0, 1, 2, 3, 4, 5, 7, 8, 9, 10] rfl rfl (by decide) ?_
      refine l_tail (d := d) (W := W) (W1 := (wMov W (zlo hh 9) (zlo (hh >>> ((Int32.ofInt 4) &&& 31)) 4))) (gt := (nn : Int)) (by omega) (Or.inl (by omega)) (hG.1 _ _ (hG.2.2.2.2.2.2.2.2.2.2 e W (zlo hh 9) (zlo (hh >>> ((Int32.ofInt 4) &&& 31)) 4) he hI hk hw3)) he g1 (fun h9 M9 c9 s9 r1 r2 => q (wMov W (zlo hh 9) (zlo (hh >>> ((Int32.ofInt 4) &&& 31)) 4)) h9 M9 c9 s9 (hG.2.2.2.2.2.2.2.2.2.2 e W (zlo hh 9) (zlo (hh >>> ((Int32.ofInt 4) &&& 31)) 4) he hI hk hw3) r1 (by have := r2.1; have := r2.2.1; have := r2.2.2; omega))
    · have hw4 : ((zlo (hh >>> ((Int32.ofInt 4) &&& 31)) 4 : Nat) : Int) = 3 := by omega
      rw [hw4]
      refine zX.call (mid2 := 170) (as := [.inr (10, 0), zi 19, zi (zlo hh 9 : Int), zi 3, zi 0, zi 0]) (rest := []) ⟨rfl, rfl⟩ (fun _ => rfl) rfl ⟨Nat.le_of_ble_eq_true rfl, Nat.le_of_ble_eq_true rfl⟩ ?_
      refine x_moveW (d := d + 1) hk hF ?_
      show zX _ 174 750 [(13, zi (zlo hh 9 : Int)), (0, .inr (0, 0)), (1, .inr (10, 0)), (2, zi ((wd_L W).length : Int)), (3, zi (wd_pz W)), (4, zi (wd_pr W : Int)), (5, zi (e : Int)), (7, .inl (.int hh)), (8, zi (pt : Int)), (9, zi (so : Int)), (10, .inl (.long (zsta W))), (12, zi 0)] [zi (-1002)] (c + 1) (s + 6) _ _
      refine zX.sn 1 (pc2 := 752) (l2 := [(12, zi (-1002)), (13, zi (zlo hh 9 : Int)), (0, .inr (0, 0)), (1, .inr (10, 0)), (2, zi ((wd_L W).length : Int)), (3, zi (wd_pz W)), (4, zi (wd_pr W : Int)), (5, zi (e : Int)), (7, .inl (.int hh)), (8, zi (pt : Int)), (9, zi (so : Int)), (10, .inl (.long (zsta W)))]) (st2 := []) rfl ?_
      refine zX.sn 1 (pc2 := 754) (l2 := [(12, zi (-1002)), (13, zi (zlo hh 9 : Int)), (0, .inr (0, 0)), (1, .inr (10, 0)), (2, zi ((wd_L W).length : Int)), (3, zi (wd_pz W)), (4, zi (wd_pr W : Int)), (5, zi (e : Int)), (7, .inl (.int hh)), (8, zi (pt : Int)), (9, zi (so : Int)), (10, .inl (.long (zsta W)))]) (st2 := [zi (-1002)]) rfl ?_
      refine zX.icmp0 (x := (-1002)) (tgt := 781) ⟨rfl, rfl⟩ rfl (by omega) (fun _ => ?_) (fun (zz : 0 ≤ ((-1002) : Int)) => absurd zz (by omega))
      refine zX.re [(0, .inr (0, 0)), (1, .inr (10, 0)), (2, zi ((wd_L W).length : Int)), (3, zi (wd_pz W)), (4, zi (wd_pr W : Int)), (5, zi (e : Int)), (10, .inl (.long (zsta W))), (12, zi (-1002))] [2, 3, 4, 5, 6, 7, 11, 0] [12, 13, 0, 1, 2, 3, 4, 5, 7, 8, 9, 10] rfl rfl (by decide) ?_
      refine l_tail (d := d) (W := W) (W1 := W) (gt := (-1002)) (by omega) (Or.inr rfl) (hG.1 _ _ (hG.2.2.1 e W he hI)) he hF (fun h9 M9 c9 s9 r1 r2 => q W h9 M9 c9 s9 (hG.2.2.1 e W he hI) r1 (by have := r2.1; have := r2.2.1; have := r2.2.2; omega))
  · have hk8 : (zlo hh 9 : Int) = 8 := by omega
    rw [hk8]
    refine zX.call (mid2 := 170) (as := [.inr (10, 0), zi 19, zi 8, zi (zlo (hh >>> ((Int32.ofInt 4) &&& 31)) 4 : Int), zi 0, zi 0]) (rest := []) ⟨rfl, rfl⟩ (fun _ => rfl) rfl ⟨Nat.le_of_ble_eq_true rfl, Nat.le_of_ble_eq_true rfl⟩ ?_
    refine x_moveK (d := d + 1) hF ?_
    show zX _ 174 750 [(13, zi 8), (0, .inr (0, 0)), (1, .inr (10, 0)), (2, zi ((wd_L W).length : Int)), (3, zi (wd_pz W)), (4, zi (wd_pr W : Int)), (5, zi (e : Int)), (7, .inl (.int hh)), (8, zi (pt : Int)), (9, zi (so : Int)), (10, .inl (.long (zsta W))), (12, zi 0)] [zi (-1002)] (c + 1) (s + 6) _ _
    refine zX.sn 1 (pc2 := 752) (l2 := [(12, zi (-1002)), (13, zi 8), (0, .inr (0, 0)), (1, .inr (10, 0)), (2, zi ((wd_L W).length : Int)), (3, zi (wd_pz W)), (4, zi (wd_pr W : Int)), (5, zi (e : Int)), (7, .inl (.int hh)), (8, zi (pt : Int)), (9, zi (so : Int)), (10, .inl (.long (zsta W)))]) (st2 := []) rfl ?_
    refine zX.sn 1 (pc2 := 754) (l2 := [(12, zi (-1002)), (13, zi 8), (0, .inr (0, 0)), (1, .inr (10, 0)), (2, zi ((wd_L W).length : Int)), (3, zi (wd_pz W)), (4, zi (wd_pr W : Int)), (5, zi (e : Int)), (7, .inl (.int hh)), (8, zi (pt : Int)), (9, zi (so : Int)), (10, .inl (.long (zsta W)))]) (st2 := [zi (-1002)]) rfl ?_
    refine zX.icmp0 (x := (-1002)) (tgt := 781) ⟨rfl, rfl⟩ rfl (by omega) (fun _ => ?_) (fun (zz : 0 ≤ ((-1002) : Int)) => absurd zz (by omega))
    refine zX.re [(0, .inr (0, 0)), (1, .inr (10, 0)), (2, zi ((wd_L W).length : Int)), (3, zi (wd_pz W)), (4, zi (wd_pr W : Int)), (5, zi (e : Int)), (10, .inl (.long (zsta W))), (12, zi (-1002))] [2, 3, 4, 5, 6, 7, 11, 0] [12, 13, 0, 1, 2, 3, 4, 5, 7, 8, 9, 10] rfl rfl (by decide) ?_
    refine l_tail (d := d) (W := W) (W1 := W) (gt := (-1002)) (by omega) (Or.inr rfl) (hG.1 _ _ (hG.2.2.1 e W he hI)) he hF (fun h9 M9 c9 s9 r1 r2 => q W h9 M9 c9 s9 (hG.2.2.1 e W he hI) r1 (by have := r2.1; have := r2.2.1; have := r2.2.2; omega))
end YA6
