set_option maxRecDepth 100000
section YA4
variable {d : Nat} {Q : xR → Nat → Nat → xH → Prop} {sc : Option xO} {h : xH} {M c s : Nat} {W : zWl}
/-- all loads, all holdings, the signs of a view's outputs -/
def zlA (W : zWl) : Nat → Nat → Int32 → Int32
  | 0, _, a => a
  | n + 1, p, a => zlA W n (p + 1) (a + zld (wd_L W) (wd_wk W) p 8 0 0)
def zhA : zVL → Int32 → Int32
  | [], a => a
  | X :: r, a => zhA r (a + zhs X.2.2.1 8)
def zsgs (i : Nat) (l : List Int64) (a : Int32) : Int32 := l.foldl (fun a x => a + (if zvw x = i then Int32.ofInt (zsg x) else Int32.ofInt 0)) a
theorem zlm_in {P : Nat → zPT} : ∀ (n p : Nat) (a : Int) (j : Nat), p ≤ j → j < p + n → zlm P n p a ≤ (P j).2.1 := by
  intro n
  induction n with
  | zero => intro p a j h1 h2; omega
  | succ n ih =>
    intro p a j h1 h2
    show zlm P n (p + 1) (if (P p).2.1 < a then (P p).2.1 else a) ≤ _
    by_cases hj : j = p
    · subst hj
      refine Int.le_trans (zlm_le _ _ _) ?_
      split <;> omega
    · exact ih _ _ _ (by omega) (by omega)
theorem zlm_all {P : Nat → zPT} {p : Nat} (hp : p < 3) : zlm P 3 0 1000 ≤ (P p).2.1 := zlm_in 3 0 1000 p (Nat.zero_le _) (by omega)
theorem l_so1 {u : Int32} {pz : Int} (hwr : ∀ i, 0 ≤ wd_wk W i ∧ wd_wk W i < 3) (hF : zFd sc h M W) : ∀ (n p : Nat) (a : Int32), p + n = 3 → zX (d + 11) 173 85 [(0, .inr (10, 0)), (1, zi ((wd_L W).length : Int)), (2, zi pz), (3, .inl (.int u)), (4, .inl (.int (zlA W n p a))), (5, zi (((wd_O W).length - wd_wf W : Nat) : Int))] [] c s h Q → zX (d + 11) 173 14 [(0, .inr (10, 0)), (1, zi ((wd_L W).length : Int)), (2, zi pz), (3, .inl (.int u)), (4, .inl (.int a)), (5, zi (((wd_O W).length - wd_wf W : Nat) : Int)), (6, zi (p : Int))] [] c s h Q := by
  obtain ⟨N, capv, capj, K, g, hM, hf, hA, hV, hP, hJ, hw, hps, hemp, hsc, hfe, hfv⟩ := id hF
  intro n
  induction n with
  | zero =>
    intro p a hi q
    refine zX.sn 1 (pc2 := 16) (l2 := [(0, .inr (10, 0)), (1, zi ((wd_L W).length : Int)), (2, zi pz), (3, .inl (.int u)), (4, .inl (.int a)), (5, zi (((wd_O W).length - wd_wf W : Nat) : Int)), (6, zi (p : Int))]) (st2 := [zi (p : Int)]) rfl ?_
    refine zX.sn 1 (pc2 := 17) (l2 := [(0, .inr (10, 0)), (1, zi ((wd_L W).length : Int)), (2, zi pz), (3, .inl (.int u)), (4, .inl (.int a)), (5, zi (((wd_O W).length - wd_wf W : Nat) : Int)), (6, zi (p : Int))]) (st2 := [zi 3, zi (p : Int)]) rfl ?_
    refine zX.icmp (tgt := 85) ⟨rfl, rfl⟩ rfl (by omega) (by omega) (fun _ => ?_) (fun (zz : (p : Int) < 3) => absurd zz (by omega))
    refine zX.re [(0, .inr (10, 0)), (1, zi ((wd_L W).length : Int)), (2, zi pz), (3, .inl (.int u)), (4, .inl (.int a)), (5, zi (((wd_O W).length - wd_wf W : Nat) : Int))] [0, 1, 2, 3, 4, 5] [0, 1, 2, 3, 4, 5, 6] rfl rfl (by decide) ?_
    exact q
  | succ n ih =>
    intro p a hi q
    have hp3 : p < 3 := by omega
    obtain ⟨b1, b2, b3, b4, b5, b6, b7⟩ := hP.2 p hp3
    have hma := zlm_all (P := wd_P W) hp3
    have hn8 : (wd_P W p).1 ≤ wd_n W p := b6
    have hn9 : wd_n W p ≤ 72 := b7
    refine zX.sn 1 (pc2 := 16) (l2 := [(0, .inr (10, 0)), (1, zi ((wd_L W).length : Int)), (2, zi pz), (3, .inl (.int u)), (4, .inl (.int a)), (5, zi (((wd_O W).length - wd_wf W : Nat) : Int)), (6, zi (p : Int))]) (st2 := [zi (p : Int)]) rfl ?_
    refine zX.sn 1 (pc2 := 17) (l2 := [(0, .inr (10, 0)), (1, zi ((wd_L W).length : Int)), (2, zi pz), (3, .inl (.int u)), (4, .inl (.int a)), (5, zi (((wd_O W).length - wd_wf W : Nat) : Int)), (6, zi (p : Int))]) (st2 := [zi 3, zi (p : Int)]) rfl ?_
    refine zX.icmp (tgt := 85) ⟨rfl, rfl⟩ rfl (by omega) (by omega) (fun (zz : 3 ≤ (p : Int)) => absurd zz (by omega)) (fun _ => ?_)
    refine zX.sn 1 (pc2 := 22) (l2 := [(0, .inr (10, 0)), (1, zi ((wd_L W).length : Int)), (2, zi pz), (3, .inl (.int u)), (4, .inl (.int a)), (5, zi (((wd_O W).length - wd_wf W : Nat) : Int)), (6, zi (p : Int))]) (st2 := [.inl (.int a)]) rfl ?_
    refine zX.sn 1 (pc2 := 23) (l2 := [(0, .inr (10, 0)), (1, zi ((wd_L W).length : Int)), (2, zi pz), (3, .inl (.int u)), (4, .inl (.int a)), (5, zi (((wd_O W).length - wd_wf W : Nat) : Int)), (6, zi (p : Int))]) (st2 := [.inr (10, 0), .inl (.int a)]) rfl ?_
    refine zX.sn 1 (pc2 := 25) (l2 := [(0, .inr (10, 0)), (1, zi ((wd_L W).length : Int)), (2, zi pz), (3, .inl (.int u)), (4, .inl (.int a)), (5, zi (((wd_O W).length - wd_wf W : Nat) : Int)), (6, zi (p : Int))]) (st2 := [zi 21, .inr (10, 0), .inl (.int a)]) rfl ?_
    refine zX.sn 1 (pc2 := 27) (l2 := [(0, .inr (10, 0)), (1, zi ((wd_L W).length : Int)), (2, zi pz), (3, .inl (.int u)), (4, .inl (.int a)), (5, zi (((wd_O W).length - wd_wf W : Nat) : Int)), (6, zi (p : Int))]) (st2 := [zi (p : Int), zi 21, .inr (10, 0), .inl (.int a)]) rfl ?_
    refine zX.sn 1 (pc2 := 28) (l2 := [(0, .inr (10, 0)), (1, zi ((wd_L W).length : Int)), (2, zi pz), (3, .inl (.int u)), (4, .inl (.int a)), (5, zi (((wd_O W).length - wd_wf W : Nat) : Int)), (6, zi (p : Int))]) (st2 := [zi 0, zi (p : Int), zi 21, .inr (10, 0), .inl (.int a)]) rfl ?_
    refine zX.sn 1 (pc2 := 29) (l2 := [(0, .inr (10, 0)), (1, zi ((wd_L W).length : Int)), (2, zi pz), (3, .inl (.int u)), (4, .inl (.int a)), (5, zi (((wd_O W).length - wd_wf W : Nat) : Int)), (6, zi (p : Int))]) (st2 := [zi 0, zi 0, zi (p : Int), zi 21, .inr (10, 0), .inl (.int a)]) rfl ?_
    refine zX.sn 1 (pc2 := 30) (l2 := [(0, .inr (10, 0)), (1, zi ((wd_L W).length : Int)), (2, zi pz), (3, .inl (.int u)), (4, .inl (.int a)), (5, zi (((wd_O W).length - wd_wf W : Nat) : Int)), (6, zi (p : Int))]) (st2 := [zi 0, zi 0, zi 0, zi (p : Int), zi 21, .inr (10, 0), .inl (.int a)]) rfl ?_
    refine zX.call (mid2 := 170) (as := [.inr (10, 0), zi 21, zi (p : Int), zi 0, zi 0, zi 0]) (rest := [.inl (.int a)]) ⟨rfl, rfl⟩ (fun _ => rfl) rfl ⟨Nat.le_of_ble_eq_true rfl, Nat.le_of_ble_eq_true rfl⟩ ?_
    refine k_load (d := d) hwr hp3 hF ?_
    show zX _ 173 33 [(0, .inr (10, 0)), (1, zi ((wd_L W).length : Int)), (2, zi pz), (3, .inl (.int u)), (4, .inl (.int a)), (5, zi (((wd_O W).length - wd_wf W : Nat) : Int)), (6, zi (p : Int))] [.inl (.int (zld (wd_L W) (wd_wk W) p 8 0 0)), .inl (.int a)] c s _ _
    refine zX.sn 1 (pc2 := 34) (l2 := [(0, .inr (10, 0)), (1, zi ((wd_L W).length : Int)), (2, zi pz), (3, .inl (.int u)), (4, .inl (.int a)), (5, zi (((wd_O W).length - wd_wf W : Nat) : Int)), (6, zi (p : Int))]) (st2 := [.inl (.int (a + (zld (wd_L W) (wd_wk W) p 8 0 0)))]) rfl ?_
    refine zX.sn 1 (pc2 := 36) (l2 := [(4, .inl (.int (a + (zld (wd_L W) (wd_wk W) p 8 0 0)))), (0, .inr (10, 0)), (1, zi ((wd_L W).length : Int)), (2, zi pz), (3, .inl (.int u)), (5, zi (((wd_O W).length - wd_wf W : Nat) : Int)), (6, zi (p : Int))]) (st2 := []) rfl ?_
    refine zX.sn 1 (pc2 := 37) (l2 := [(4, .inl (.int (a + (zld (wd_L W) (wd_wk W) p 8 0 0)))), (0, .inr (10, 0)), (1, zi ((wd_L W).length : Int)), (2, zi pz), (3, .inl (.int u)), (5, zi (((wd_O W).length - wd_wf W : Nat) : Int)), (6, zi (p : Int))]) (st2 := [.inr (10, 0)]) rfl ?_
    refine zX.call (mid2 := 108) (as := [.inr (10, 0)]) (rest := []) ⟨rfl, rfl⟩ (fun _ => rfl) (zX.inv rfl hf rfl rfl) ⟨Nat.le_of_ble_eq_true rfl, Nat.le_of_ble_eq_true rfl⟩ ?_
    refine s_mark (d := d + 6) hf hP (fun hml => ?_)
    show zX _ 173 40 [(4, .inl (.int (a + (zld (wd_L W) (wd_wk W) p 8 0 0)))), (0, .inr (10, 0)), (1, zi ((wd_L W).length : Int)), (2, zi pz), (3, .inl (.int u)), (5, zi (((wd_O W).length - wd_wf W : Nat) : Int)), (6, zi (p : Int))] [zi (zlm (wd_P W) 3 0 1000)] c s _ _
    refine zX.sn 1 (pc2 := 41) (l2 := [(4, .inl (.int (a + (zld (wd_L W) (wd_wk W) p 8 0 0)))), (0, .inr (10, 0)), (1, zi ((wd_L W).length : Int)), (2, zi pz), (3, .inl (.int u)), (5, zi (((wd_O W).length - wd_wf W : Nat) : Int)), (6, zi (p : Int))]) (st2 := [.inr (10, 0), zi (zlm (wd_P W) 3 0 1000)]) rfl ?_
    refine zX.sn 1 (pc2 := 43) (l2 := [(4, .inl (.int (a + (zld (wd_L W) (wd_wk W) p 8 0 0)))), (0, .inr (10, 0)), (1, zi ((wd_L W).length : Int)), (2, zi pz), (3, .inl (.int u)), (5, zi (((wd_O W).length - wd_wf W : Nat) : Int)), (6, zi (p : Int))]) (st2 := [zi 6, .inr (10, 0), zi (zlm (wd_P W) 3 0 1000)]) rfl ?_
    refine zX.sn 1 (pc2 := 45) (l2 := [(4, .inl (.int (a + (zld (wd_L W) (wd_wk W) p 8 0 0)))), (0, .inr (10, 0)), (1, zi ((wd_L W).length : Int)), (2, zi pz), (3, .inl (.int u)), (5, zi (((wd_O W).length - wd_wf W : Nat) : Int)), (6, zi (p : Int))]) (st2 := [zi (p : Int), zi 6, .inr (10, 0), zi (zlm (wd_P W) 3 0 1000)]) rfl ?_
    refine zX.sn 1 (pc2 := 46) (l2 := [(4, .inl (.int (a + (zld (wd_L W) (wd_wk W) p 8 0 0)))), (0, .inr (10, 0)), (1, zi ((wd_L W).length : Int)), (2, zi pz), (3, .inl (.int u)), (5, zi (((wd_O W).length - wd_wf W : Nat) : Int)), (6, zi (p : Int))]) (st2 := [zi 0, zi (p : Int), zi 6, .inr (10, 0), zi (zlm (wd_P W) 3 0 1000)]) rfl ?_
    refine zX.sn 1 (pc2 := 47) (l2 := [(4, .inl (.int (a + (zld (wd_L W) (wd_wk W) p 8 0 0)))), (0, .inr (10, 0)), (1, zi ((wd_L W).length : Int)), (2, zi pz), (3, .inl (.int u)), (5, zi (((wd_O W).length - wd_wf W : Nat) : Int)), (6, zi (p : Int))]) (st2 := [zi 0, zi 0, zi (p : Int), zi 6, .inr (10, 0), zi (zlm (wd_P W) 3 0 1000)]) rfl ?_
    refine zX.sn 1 (pc2 := 48) (l2 := [(4, .inl (.int (a + (zld (wd_L W) (wd_wk W) p 8 0 0)))), (0, .inr (10, 0)), (1, zi ((wd_L W).length : Int)), (2, zi pz), (3, .inl (.int u)), (5, zi (((wd_O W).length - wd_wf W : Nat) : Int)), (6, zi (p : Int))]) (st2 := [zi 0, zi 0, zi 0, zi (p : Int), zi 6, .inr (10, 0), zi (zlm (wd_P W) 3 0 1000)]) rfl ?_
    refine zX.call (mid2 := 170) (as := [.inr (10, 0), zi 6, zi (p : Int), zi 0, zi 0, zi 0]) (rest := [zi (zlm (wd_P W) 3 0 1000)]) ⟨rfl, rfl⟩ (fun _ => rfl) rfl ⟨Nat.le_of_ble_eq_true rfl, Nat.le_of_ble_eq_true rfl⟩ ?_
    refine k_markOf (d := d) hp3 hF ?_
    show zX _ 173 51 [(4, .inl (.int (a + (zld (wd_L W) (wd_wk W) p 8 0 0)))), (0, .inr (10, 0)), (1, zi ((wd_L W).length : Int)), (2, zi pz), (3, .inl (.int u)), (5, zi (((wd_O W).length - wd_wf W : Nat) : Int)), (6, zi (p : Int))] [zi (wd_P W p).2.1, zi (zlm (wd_P W) 3 0 1000)] c s _ _
    refine zX.icmp (tgt := 77) ⟨rfl, rfl⟩ rfl (by omega) (by omega) (fun (zz : (wd_P W p).2.1 < (zlm (wd_P W) 3 0 1000)) => absurd zz (by omega)) (fun _ => ?_)
    refine zX.sn 1 (pc2 := 55) (l2 := [(4, .inl (.int (a + (zld (wd_L W) (wd_wk W) p 8 0 0)))), (0, .inr (10, 0)), (1, zi ((wd_L W).length : Int)), (2, zi pz), (3, .inl (.int u)), (5, zi (((wd_O W).length - wd_wf W : Nat) : Int)), (6, zi (p : Int))]) (st2 := [.inr (10, 0)]) rfl ?_
    refine zX.sn 1 (pc2 := 56) (l2 := [(4, .inl (.int (a + (zld (wd_L W) (wd_wk W) p 8 0 0)))), (0, .inr (10, 0)), (1, zi ((wd_L W).length : Int)), (2, zi pz), (3, .inl (.int u)), (5, zi (((wd_O W).length - wd_wf W : Nat) : Int)), (6, zi (p : Int))]) (st2 := [zi 5, .inr (10, 0)]) rfl ?_
    refine zX.sn 1 (pc2 := 58) (l2 := [(4, .inl (.int (a + (zld (wd_L W) (wd_wk W) p 8 0 0)))), (0, .inr (10, 0)), (1, zi ((wd_L W).length : Int)), (2, zi pz), (3, .inl (.int u)), (5, zi (((wd_O W).length - wd_wf W : Nat) : Int)), (6, zi (p : Int))]) (st2 := [zi (p : Int), zi 5, .inr (10, 0)]) rfl ?_
    refine zX.sn 1 (pc2 := 59) (l2 := [(4, .inl (.int (a + (zld (wd_L W) (wd_wk W) p 8 0 0)))), (0, .inr (10, 0)), (1, zi ((wd_L W).length : Int)), (2, zi pz), (3, .inl (.int u)), (5, zi (((wd_O W).length - wd_wf W : Nat) : Int)), (6, zi (p : Int))]) (st2 := [zi 0, zi (p : Int), zi 5, .inr (10, 0)]) rfl ?_
    refine zX.sn 1 (pc2 := 60) (l2 := [(4, .inl (.int (a + (zld (wd_L W) (wd_wk W) p 8 0 0)))), (0, .inr (10, 0)), (1, zi ((wd_L W).length : Int)), (2, zi pz), (3, .inl (.int u)), (5, zi (((wd_O W).length - wd_wf W : Nat) : Int)), (6, zi (p : Int))]) (st2 := [zi 0, zi 0, zi (p : Int), zi 5, .inr (10, 0)]) rfl ?_
    refine zX.sn 1 (pc2 := 61) (l2 := [(4, .inl (.int (a + (zld (wd_L W) (wd_wk W) p 8 0 0)))), (0, .inr (10, 0)), (1, zi ((wd_L W).length : Int)), (2, zi pz), (3, .inl (.int u)), (5, zi (((wd_O W).length - wd_wf W : Nat) : Int)), (6, zi (p : Int))]) (st2 := [zi 0, zi 0, zi 0, zi (p : Int), zi 5, .inr (10, 0)]) rfl ?_
    refine zX.call (mid2 := 170) (as := [.inr (10, 0), zi 5, zi (p : Int), zi 0, zi 0, zi 0]) (rest := []) ⟨rfl, rfl⟩ (fun _ => rfl) rfl ⟨Nat.le_of_ble_eq_true rfl, Nat.le_of_ble_eq_true rfl⟩ ?_
    refine k_place (d := d) hp3 hF ?_
    show zX _ 173 64 [(4, .inl (.int (a + (zld (wd_L W) (wd_wk W) p 8 0 0)))), (0, .inr (10, 0)), (1, zi ((wd_L W).length : Int)), (2, zi pz), (3, .inl (.int u)), (5, zi (((wd_O W).length - wd_wf W : Nat) : Int)), (6, zi (p : Int))] [zi ((wd_P W p).1 : Int)] c s _ _
    refine zX.sn 1 (pc2 := 65) (l2 := [(4, .inl (.int (a + (zld (wd_L W) (wd_wk W) p 8 0 0)))), (0, .inr (10, 0)), (1, zi ((wd_L W).length : Int)), (2, zi pz), (3, .inl (.int u)), (5, zi (((wd_O W).length - wd_wf W : Nat) : Int)), (6, zi (p : Int))]) (st2 := [.inr (10, 0), zi ((wd_P W p).1 : Int)]) rfl ?_
    refine zX.sn 1 (pc2 := 66) (l2 := [(4, .inl (.int (a + (zld (wd_L W) (wd_wk W) p 8 0 0)))), (0, .inr (10, 0)), (1, zi ((wd_L W).length : Int)), (2, zi pz), (3, .inl (.int u)), (5, zi (((wd_O W).length - wd_wf W : Nat) : Int)), (6, zi (p : Int))]) (st2 := [zi 3, .inr (10, 0), zi ((wd_P W p).1 : Int)]) rfl ?_
    refine zX.sn 1 (pc2 := 68) (l2 := [(4, .inl (.int (a + (zld (wd_L W) (wd_wk W) p 8 0 0)))), (0, .inr (10, 0)), (1, zi ((wd_L W).length : Int)), (2, zi pz), (3, .inl (.int u)), (5, zi (((wd_O W).length - wd_wf W : Nat) : Int)), (6, zi (p : Int))]) (st2 := [zi (p : Int), zi 3, .inr (10, 0), zi ((wd_P W p).1 : Int)]) rfl ?_
    refine zX.sn 1 (pc2 := 69) (l2 := [(4, .inl (.int (a + (zld (wd_L W) (wd_wk W) p 8 0 0)))), (0, .inr (10, 0)), (1, zi ((wd_L W).length : Int)), (2, zi pz), (3, .inl (.int u)), (5, zi (((wd_O W).length - wd_wf W : Nat) : Int)), (6, zi (p : Int))]) (st2 := [zi 0, zi (p : Int), zi 3, .inr (10, 0), zi ((wd_P W p).1 : Int)]) rfl ?_
    refine zX.sn 1 (pc2 := 70) (l2 := [(4, .inl (.int (a + (zld (wd_L W) (wd_wk W) p 8 0 0)))), (0, .inr (10, 0)), (1, zi ((wd_L W).length : Int)), (2, zi pz), (3, .inl (.int u)), (5, zi (((wd_O W).length - wd_wf W : Nat) : Int)), (6, zi (p : Int))]) (st2 := [zi 0, zi 0, zi (p : Int), zi 3, .inr (10, 0), zi ((wd_P W p).1 : Int)]) rfl ?_
    refine zX.sn 1 (pc2 := 71) (l2 := [(4, .inl (.int (a + (zld (wd_L W) (wd_wk W) p 8 0 0)))), (0, .inr (10, 0)), (1, zi ((wd_L W).length : Int)), (2, zi pz), (3, .inl (.int u)), (5, zi (((wd_O W).length - wd_wf W : Nat) : Int)), (6, zi (p : Int))]) (st2 := [zi 0, zi 0, zi 0, zi (p : Int), zi 3, .inr (10, 0), zi ((wd_P W p).1 : Int)]) rfl ?_
    refine zX.call (mid2 := 170) (as := [.inr (10, 0), zi 3, zi (p : Int), zi 0, zi 0, zi 0]) (rest := [zi ((wd_P W p).1 : Int)]) ⟨rfl, rfl⟩ (fun _ => rfl) rfl ⟨Nat.le_of_ble_eq_true rfl, Nat.le_of_ble_eq_true rfl⟩ ?_
    refine k_entries (d := d) hp3 hF ?_
    show zX _ 173 74 [(4, .inl (.int (a + (zld (wd_L W) (wd_wk W) p 8 0 0)))), (0, .inr (10, 0)), (1, zi ((wd_L W).length : Int)), (2, zi pz), (3, .inl (.int u)), (5, zi (((wd_O W).length - wd_wf W : Nat) : Int)), (6, zi (p : Int))] [zi (wd_n W p : Int), zi ((wd_P W p).1 : Int)] c s _ _
    refine zX.icmp (tgt := 79) ⟨rfl, rfl⟩ rfl (by omega) (by omega) (fun _ => ?_) (fun (zz : (wd_n W p : Int) < ((wd_P W p).1 : Int)) => absurd zz (by omega))
    refine zX.s1 (pc2 := 82) (l2 := [(6, zi ((p : Int) + 1)), (4, .inl (.int (a + (zld (wd_L W) (wd_wk W) p 8 0 0)))), (0, .inr (10, 0)), (1, zi ((wd_L W).length : Int)), (2, zi pz), (3, .inl (.int u)), (5, zi (((wd_O W).length - wd_wf W : Nat) : Int))]) (st2 := []) ⟨rfl, rfl⟩ (by rw [show (zi ((p : Int) + 1) : xV) = .inl (.int (Int32.ofInt (p : Int) + 1)) from congrArg (fun z => (.inl (.int z) : xV)) (Int32.ofInt_add _ _)]; rfl) ?_
    refine zX.sn 1 (pc2 := 14) (l2 := [(6, zi ((p : Int) + 1)), (4, .inl (.int (a + (zld (wd_L W) (wd_wk W) p 8 0 0)))), (0, .inr (10, 0)), (1, zi ((wd_L W).length : Int)), (2, zi pz), (3, .inl (.int u)), (5, zi (((wd_O W).length - wd_wf W : Nat) : Int))]) (st2 := []) rfl ?_
    refine zX.re [(0, .inr (10, 0)), (1, zi ((wd_L W).length : Int)), (2, zi pz), (3, .inl (.int u)), (4, .inl (.int (a + (zld (wd_L W) (wd_wk W) p 8 0 0)))), (5, zi (((wd_O W).length - wd_wf W : Nat) : Int)), (6, zi ((p : Int) + 1))] [2, 3, 4, 5, 1, 6, 0] [6, 4, 0, 1, 2, 3, 5] rfl rfl (by decide) ?_
    exact ih (p + 1) _ (by omega) q
theorem l_so2 {u b : Int32} {pz : Int} {i : Nat} (hi5 : i < 5) (hwf : wd_wf W ≤ (wd_O W).length) (hF : zFd sc h M W) : ∀ (n k : Nat) (a : Int32), k + n = (wd_O W).length - wd_wf W → zX (d + 11) 173 173 [(0, .inr (10, 0)), (1, zi ((wd_L W).length : Int)), (2, zi pz), (3, .inl (.int u)), (4, .inl (.int b)), (5, zi (((wd_O W).length - wd_wf W : Nat) : Int)), (6, zi (i : Int)), (7, .inl (.int (zsgs i ((wd_O W).drop (wd_wf W + k)) a)))] [] c s h Q → zX (d + 11) 173 124 [(0, .inr (10, 0)), (1, zi ((wd_L W).length : Int)), (2, zi pz), (3, .inl (.int u)), (4, .inl (.int b)), (5, zi (((wd_O W).length - wd_wf W : Nat) : Int)), (6, zi (i : Int)), (7, .inl (.int a)), (8, zi (k : Int))] [] c s h Q := by
  obtain ⟨N, capv, capj, K, g, hM, hf, hA, hV, hP, hJ, hw, hps, hemp, hsc, hfe, hfv⟩ := id hF
  have hol := hV.1.le
  intro n
  induction n with
  | zero =>
    intro k a hi q
    refine zX.sn 1 (pc2 := 126) (l2 := [(0, .inr (10, 0)), (1, zi ((wd_L W).length : Int)), (2, zi pz), (3, .inl (.int u)), (4, .inl (.int b)), (5, zi (((wd_O W).length - wd_wf W : Nat) : Int)), (6, zi (i : Int)), (7, .inl (.int a)), (8, zi (k : Int))]) (st2 := [zi (k : Int)]) rfl ?_
    refine zX.sn 1 (pc2 := 128) (l2 := [(0, .inr (10, 0)), (1, zi ((wd_L W).length : Int)), (2, zi pz), (3, .inl (.int u)), (4, .inl (.int b)), (5, zi (((wd_O W).length - wd_wf W : Nat) : Int)), (6, zi (i : Int)), (7, .inl (.int a)), (8, zi (k : Int))]) (st2 := [zi (((wd_O W).length - wd_wf W : Nat) : Int), zi (k : Int)]) rfl ?_
    refine zX.icmp (tgt := 173) ⟨rfl, rfl⟩ rfl (by omega) (by omega) (fun _ => ?_) (fun (zz : (k : Int) < (((wd_O W).length - wd_wf W : Nat) : Int)) => absurd zz (by omega))
    refine zX.re [(0, .inr (10, 0)), (1, zi ((wd_L W).length : Int)), (2, zi pz), (3, .inl (.int u)), (4, .inl (.int b)), (5, zi (((wd_O W).length - wd_wf W : Nat) : Int)), (6, zi (i : Int)), (7, .inl (.int a))] [0, 1, 2, 3, 4, 5, 6, 7] [0, 1, 2, 3, 4, 5, 6, 7, 8] rfl rfl (by decide) ?_
    rw [List.drop_of_length_le (by omega)] at q
    exact q
  | succ n ih =>
    intro k a hi q
    have hlt : wd_wf W + k < (wd_O W).length := by omega
    have hx := List.getElem?_eq_getElem hlt
    rw [List.drop_eq_getElem_cons hlt] at q
    generalize (wd_O W)[wd_wf W + k] = x at hx q
    have h7 := zvw_le x
    have stp : zsgs i (x :: (wd_O W).drop (wd_wf W + k + 1)) a = zsgs i ((wd_O W).drop (wd_wf W + (k + 1))) (a + (if zvw x = i then Int32.ofInt (zsg x) else Int32.ofInt 0)) := rfl
    rw [stp] at q
    refine zX.sn 1 (pc2 := 126) (l2 := [(0, .inr (10, 0)), (1, zi ((wd_L W).length : Int)), (2, zi pz), (3, .inl (.int u)), (4, .inl (.int b)), (5, zi (((wd_O W).length - wd_wf W : Nat) : Int)), (6, zi (i : Int)), (7, .inl (.int a)), (8, zi (k : Int))]) (st2 := [zi (k : Int)]) rfl ?_
    refine zX.sn 1 (pc2 := 128) (l2 := [(0, .inr (10, 0)), (1, zi ((wd_L W).length : Int)), (2, zi pz), (3, .inl (.int u)), (4, .inl (.int b)), (5, zi (((wd_O W).length - wd_wf W : Nat) : Int)), (6, zi (i : Int)), (7, .inl (.int a)), (8, zi (k : Int))]) (st2 := [zi (((wd_O W).length - wd_wf W : Nat) : Int), zi (k : Int)]) rfl ?_
    refine zX.icmp (tgt := 173) ⟨rfl, rfl⟩ rfl (by omega) (by omega) (fun (zz : (((wd_O W).length - wd_wf W : Nat) : Int) ≤ (k : Int)) => absurd zz (by omega)) (fun _ => ?_)
    refine zX.sn 1 (pc2 := 133) (l2 := [(0, .inr (10, 0)), (1, zi ((wd_L W).length : Int)), (2, zi pz), (3, .inl (.int u)), (4, .inl (.int b)), (5, zi (((wd_O W).length - wd_wf W : Nat) : Int)), (6, zi (i : Int)), (7, .inl (.int a)), (8, zi (k : Int))]) (st2 := [.inl (.int a)]) rfl ?_
    refine zX.sn 1 (pc2 := 134) (l2 := [(0, .inr (10, 0)), (1, zi ((wd_L W).length : Int)), (2, zi pz), (3, .inl (.int u)), (4, .inl (.int b)), (5, zi (((wd_O W).length - wd_wf W : Nat) : Int)), (6, zi (i : Int)), (7, .inl (.int a)), (8, zi (k : Int))]) (st2 := [.inr (10, 0), .inl (.int a)]) rfl ?_
    refine zX.sn 1 (pc2 := 136) (l2 := [(0, .inr (10, 0)), (1, zi ((wd_L W).length : Int)), (2, zi pz), (3, .inl (.int u)), (4, .inl (.int b)), (5, zi (((wd_O W).length - wd_wf W : Nat) : Int)), (6, zi (i : Int)), (7, .inl (.int a)), (8, zi (k : Int))]) (st2 := [zi 17, .inr (10, 0), .inl (.int a)]) rfl ?_
    refine zX.sn 1 (pc2 := 138) (l2 := [(0, .inr (10, 0)), (1, zi ((wd_L W).length : Int)), (2, zi pz), (3, .inl (.int u)), (4, .inl (.int b)), (5, zi (((wd_O W).length - wd_wf W : Nat) : Int)), (6, zi (i : Int)), (7, .inl (.int a)), (8, zi (k : Int))]) (st2 := [zi (k : Int), zi 17, .inr (10, 0), .inl (.int a)]) rfl ?_
    refine zX.sn 1 (pc2 := 139) (l2 := [(0, .inr (10, 0)), (1, zi ((wd_L W).length : Int)), (2, zi pz), (3, .inl (.int u)), (4, .inl (.int b)), (5, zi (((wd_O W).length - wd_wf W : Nat) : Int)), (6, zi (i : Int)), (7, .inl (.int a)), (8, zi (k : Int))]) (st2 := [zi 0, zi (k : Int), zi 17, .inr (10, 0), .inl (.int a)]) rfl ?_
    refine zX.sn 1 (pc2 := 140) (l2 := [(0, .inr (10, 0)), (1, zi ((wd_L W).length : Int)), (2, zi pz), (3, .inl (.int u)), (4, .inl (.int b)), (5, zi (((wd_O W).length - wd_wf W : Nat) : Int)), (6, zi (i : Int)), (7, .inl (.int a)), (8, zi (k : Int))]) (st2 := [zi 0, zi 0, zi (k : Int), zi 17, .inr (10, 0), .inl (.int a)]) rfl ?_
    refine zX.sn 1 (pc2 := 141) (l2 := [(0, .inr (10, 0)), (1, zi ((wd_L W).length : Int)), (2, zi pz), (3, .inl (.int u)), (4, .inl (.int b)), (5, zi (((wd_O W).length - wd_wf W : Nat) : Int)), (6, zi (i : Int)), (7, .inl (.int a)), (8, zi (k : Int))]) (st2 := [zi 0, zi 0, zi 0, zi (k : Int), zi 17, .inr (10, 0), .inl (.int a)]) rfl ?_
    refine zX.call (mid2 := 170) (as := [.inr (10, 0), zi 17, zi (k : Int), zi 0, zi 0, zi 0]) (rest := [.inl (.int a)]) ⟨rfl, rfl⟩ (fun _ => rfl) rfl ⟨Nat.le_of_ble_eq_true rfl, Nat.le_of_ble_eq_true rfl⟩ ?_
    refine k_wait0 (d := d) hx hF ?_
    show zX _ 173 144 [(0, .inr (10, 0)), (1, zi ((wd_L W).length : Int)), (2, zi pz), (3, .inl (.int u)), (4, .inl (.int b)), (5, zi (((wd_O W).length - wd_wf W : Nat) : Int)), (6, zi (i : Int)), (7, .inl (.int a)), (8, zi (k : Int))] [zi (zvw x : Int), .inl (.int a)] c s _ _
    refine zX.sn 1 (pc2 := 146) (l2 := [(0, .inr (10, 0)), (1, zi ((wd_L W).length : Int)), (2, zi pz), (3, .inl (.int u)), (4, .inl (.int b)), (5, zi (((wd_O W).length - wd_wf W : Nat) : Int)), (6, zi (i : Int)), (7, .inl (.int a)), (8, zi (k : Int))]) (st2 := [zi (i : Int), zi (zvw x : Int), .inl (.int a)]) rfl ?_
    refine zX.icmp (tgt := 163) ⟨rfl, rfl⟩ rfl (by omega) (by omega) (fun (z : ¬ (zvw x : Int) = (i : Int)) => ?_) (fun (z : (zvw x : Int) = (i : Int)) => ?_)
    · refine zX.sn 1 (pc2 := 164) (l2 := [(0, .inr (10, 0)), (1, zi ((wd_L W).length : Int)), (2, zi pz), (3, .inl (.int u)), (4, .inl (.int b)), (5, zi (((wd_O W).length - wd_wf W : Nat) : Int)), (6, zi (i : Int)), (7, .inl (.int a)), (8, zi (k : Int))]) (st2 := [zi 0, .inl (.int a)]) rfl ?_
      refine zX.sn 1 (pc2 := 165) (l2 := [(0, .inr (10, 0)), (1, zi ((wd_L W).length : Int)), (2, zi pz), (3, .inl (.int u)), (4, .inl (.int b)), (5, zi (((wd_O W).length - wd_wf W : Nat) : Int)), (6, zi (i : Int)), (7, .inl (.int a)), (8, zi (k : Int))]) (st2 := [.inl (.int (a + (Int32.ofInt 0)))]) rfl ?_
      refine zX.sn 1 (pc2 := 167) (l2 := [(7, .inl (.int (a + (Int32.ofInt 0)))), (0, .inr (10, 0)), (1, zi ((wd_L W).length : Int)), (2, zi pz), (3, .inl (.int u)), (4, .inl (.int b)), (5, zi (((wd_O W).length - wd_wf W : Nat) : Int)), (6, zi (i : Int)), (8, zi (k : Int))]) (st2 := []) rfl ?_
      refine zX.s1 (pc2 := 170) (l2 := [(8, zi ((k : Int) + 1)), (7, .inl (.int (a + (Int32.ofInt 0)))), (0, .inr (10, 0)), (1, zi ((wd_L W).length : Int)), (2, zi pz), (3, .inl (.int u)), (4, .inl (.int b)), (5, zi (((wd_O W).length - wd_wf W : Nat) : Int)), (6, zi (i : Int))]) (st2 := []) ⟨rfl, rfl⟩ (by rw [show (zi ((k : Int) + 1) : xV) = .inl (.int (Int32.ofInt (k : Int) + 1)) from congrArg (fun z => (.inl (.int z) : xV)) (Int32.ofInt_add _ _)]; rfl) ?_
      refine zX.sn 1 (pc2 := 124) (l2 := [(8, zi ((k : Int) + 1)), (7, .inl (.int (a + (Int32.ofInt 0)))), (0, .inr (10, 0)), (1, zi ((wd_L W).length : Int)), (2, zi pz), (3, .inl (.int u)), (4, .inl (.int b)), (5, zi (((wd_O W).length - wd_wf W : Nat) : Int)), (6, zi (i : Int))]) (st2 := []) rfl ?_
      refine zX.re [(0, .inr (10, 0)), (1, zi ((wd_L W).length : Int)), (2, zi pz), (3, .inl (.int u)), (4, .inl (.int b)), (5, zi (((wd_O W).length - wd_wf W : Nat) : Int)), (6, zi (i : Int)), (7, .inl (.int (a + (Int32.ofInt 0)))), (8, zi ((k : Int) + 1))] [2, 3, 4, 5, 6, 7, 8, 1, 0] [8, 7, 0, 1, 2, 3, 4, 5, 6] rfl rfl (by decide) ?_
      rw [if_neg (by omega)] at q
      exact ih (k + 1) _ (by omega) q
    · refine zX.sn 1 (pc2 := 150) (l2 := [(0, .inr (10, 0)), (1, zi ((wd_L W).length : Int)), (2, zi pz), (3, .inl (.int u)), (4, .inl (.int b)), (5, zi (((wd_O W).length - wd_wf W : Nat) : Int)), (6, zi (i : Int)), (7, .inl (.int a)), (8, zi (k : Int))]) (st2 := [.inr (10, 0), .inl (.int a)]) rfl ?_
      refine zX.sn 1 (pc2 := 152) (l2 := [(0, .inr (10, 0)), (1, zi ((wd_L W).length : Int)), (2, zi pz), (3, .inl (.int u)), (4, .inl (.int b)), (5, zi (((wd_O W).length - wd_wf W : Nat) : Int)), (6, zi (i : Int)), (7, .inl (.int a)), (8, zi (k : Int))]) (st2 := [zi 17, .inr (10, 0), .inl (.int a)]) rfl ?_
      refine zX.sn 1 (pc2 := 154) (l2 := [(0, .inr (10, 0)), (1, zi ((wd_L W).length : Int)), (2, zi pz), (3, .inl (.int u)), (4, .inl (.int b)), (5, zi (((wd_O W).length - wd_wf W : Nat) : Int)), (6, zi (i : Int)), (7, .inl (.int a)), (8, zi (k : Int))]) (st2 := [zi (k : Int), zi 17, .inr (10, 0), .inl (.int a)]) rfl ?_
      refine zX.sn 1 (pc2 := 155) (l2 := [(0, .inr (10, 0)), (1, zi ((wd_L W).length : Int)), (2, zi pz), (3, .inl (.int u)), (4, .inl (.int b)), (5, zi (((wd_O W).length - wd_wf W : Nat) : Int)), (6, zi (i : Int)), (7, .inl (.int a)), (8, zi (k : Int))]) (st2 := [zi 5, zi (k : Int), zi 17, .inr (10, 0), .inl (.int a)]) rfl ?_
      refine zX.sn 1 (pc2 := 156) (l2 := [(0, .inr (10, 0)), (1, zi ((wd_L W).length : Int)), (2, zi pz), (3, .inl (.int u)), (4, .inl (.int b)), (5, zi (((wd_O W).length - wd_wf W : Nat) : Int)), (6, zi (i : Int)), (7, .inl (.int a)), (8, zi (k : Int))]) (st2 := [zi 0, zi 5, zi (k : Int), zi 17, .inr (10, 0), .inl (.int a)]) rfl ?_
      refine zX.sn 1 (pc2 := 157) (l2 := [(0, .inr (10, 0)), (1, zi ((wd_L W).length : Int)), (2, zi pz), (3, .inl (.int u)), (4, .inl (.int b)), (5, zi (((wd_O W).length - wd_wf W : Nat) : Int)), (6, zi (i : Int)), (7, .inl (.int a)), (8, zi (k : Int))]) (st2 := [zi 0, zi 0, zi 5, zi (k : Int), zi 17, .inr (10, 0), .inl (.int a)]) rfl ?_
      refine zX.call (mid2 := 170) (as := [.inr (10, 0), zi 17, zi (k : Int), zi 5, zi 0, zi 0]) (rest := [.inl (.int a)]) ⟨rfl, rfl⟩ (fun _ => rfl) rfl ⟨Nat.le_of_ble_eq_true rfl, Nat.le_of_ble_eq_true rfl⟩ ?_
      refine k_wait5 (d := d) hx hF ?_
      show zX _ 173 160 [(0, .inr (10, 0)), (1, zi ((wd_L W).length : Int)), (2, zi pz), (3, .inl (.int u)), (4, .inl (.int b)), (5, zi (((wd_O W).length - wd_wf W : Nat) : Int)), (6, zi (i : Int)), (7, .inl (.int a)), (8, zi (k : Int))] [zi (zsg x), .inl (.int a)] c s _ _
      refine zX.sn 1 (pc2 := 164) (l2 := [(0, .inr (10, 0)), (1, zi ((wd_L W).length : Int)), (2, zi pz), (3, .inl (.int u)), (4, .inl (.int b)), (5, zi (((wd_O W).length - wd_wf W : Nat) : Int)), (6, zi (i : Int)), (7, .inl (.int a)), (8, zi (k : Int))]) (st2 := [zi (zsg x), .inl (.int a)]) rfl ?_
      refine zX.sn 1 (pc2 := 165) (l2 := [(0, .inr (10, 0)), (1, zi ((wd_L W).length : Int)), (2, zi pz), (3, .inl (.int u)), (4, .inl (.int b)), (5, zi (((wd_O W).length - wd_wf W : Nat) : Int)), (6, zi (i : Int)), (7, .inl (.int a)), (8, zi (k : Int))]) (st2 := [.inl (.int (a + (Int32.ofInt (zsg x))))]) rfl ?_
      refine zX.sn 1 (pc2 := 167) (l2 := [(7, .inl (.int (a + (Int32.ofInt (zsg x))))), (0, .inr (10, 0)), (1, zi ((wd_L W).length : Int)), (2, zi pz), (3, .inl (.int u)), (4, .inl (.int b)), (5, zi (((wd_O W).length - wd_wf W : Nat) : Int)), (6, zi (i : Int)), (8, zi (k : Int))]) (st2 := []) rfl ?_
      refine zX.s1 (pc2 := 170) (l2 := [(8, zi ((k : Int) + 1)), (7, .inl (.int (a + (Int32.ofInt (zsg x))))), (0, .inr (10, 0)), (1, zi ((wd_L W).length : Int)), (2, zi pz), (3, .inl (.int u)), (4, .inl (.int b)), (5, zi (((wd_O W).length - wd_wf W : Nat) : Int)), (6, zi (i : Int))]) (st2 := []) ⟨rfl, rfl⟩ (by rw [show (zi ((k : Int) + 1) : xV) = .inl (.int (Int32.ofInt (k : Int) + 1)) from congrArg (fun z => (.inl (.int z) : xV)) (Int32.ofInt_add _ _)]; rfl) ?_
      refine zX.sn 1 (pc2 := 124) (l2 := [(8, zi ((k : Int) + 1)), (7, .inl (.int (a + (Int32.ofInt (zsg x))))), (0, .inr (10, 0)), (1, zi ((wd_L W).length : Int)), (2, zi pz), (3, .inl (.int u)), (4, .inl (.int b)), (5, zi (((wd_O W).length - wd_wf W : Nat) : Int)), (6, zi (i : Int))]) (st2 := []) rfl ?_
      refine zX.re [(0, .inr (10, 0)), (1, zi ((wd_L W).length : Int)), (2, zi pz), (3, .inl (.int u)), (4, .inl (.int b)), (5, zi (((wd_O W).length - wd_wf W : Nat) : Int)), (6, zi (i : Int)), (7, .inl (.int (a + (Int32.ofInt (zsg x))))), (8, zi ((k : Int) + 1))] [2, 3, 4, 5, 6, 7, 8, 1, 0] [8, 7, 0, 1, 2, 3, 4, 5, 6] rfl rfl (by decide) ?_
      rw [if_pos (by omega)] at q
      exact ih (k + 1) _ (by omega) q
theorem l_so3 {b : Int32} {pz : Int} (hpz : -1 ≤ pz ∧ pz < 400000) (hwf : wd_wf W ≤ (wd_O W).length) (hsg : pz < 0 → ∀ (i : Nat) (C : zCf) (S : zSt), (wd_L W)[i]? = some (C, S) → zsgs i ((wd_O W).drop (wd_wf W)) (wd_ps W i) = Int32.ofInt (zcnt S.1 (zuL C) : Int)) (hF : zFd sc h M W) : ∀ (n i : Nat) (u : Int32), i + n = (wd_L W).length → zX (d + 11) 173 215 [(0, .inr (10, 0)), (3, .inl (.int (zhA ((wd_L W).drop i) u))), (4, .inl (.int b))] [] c s h Q → zX (d + 11) 173 88 [(0, .inr (10, 0)), (1, zi ((wd_L W).length : Int)), (2, zi pz), (3, .inl (.int u)), (4, .inl (.int b)), (5, zi (((wd_O W).length - wd_wf W : Nat) : Int)), (6, zi (i : Int))] [] c s h Q := by
  obtain ⟨N, capv, capj, K, g, hM, hf, hA, hV, hP, hJ, hw, hps, hemp, hsc, hfe, hfv⟩ := id hF
  have hl5 := hV.2.1.1
  have hol := hV.1.le
  intro n
  induction n with
  | zero =>
    intro i u hi q
    refine zX.sn 1 (pc2 := 90) (l2 := [(0, .inr (10, 0)), (1, zi ((wd_L W).length : Int)), (2, zi pz), (3, .inl (.int u)), (4, .inl (.int b)), (5, zi (((wd_O W).length - wd_wf W : Nat) : Int)), (6, zi (i : Int))]) (st2 := [zi (i : Int)]) rfl ?_
    refine zX.sn 1 (pc2 := 91) (l2 := [(0, .inr (10, 0)), (1, zi ((wd_L W).length : Int)), (2, zi pz), (3, .inl (.int u)), (4, .inl (.int b)), (5, zi (((wd_O W).length - wd_wf W : Nat) : Int)), (6, zi (i : Int))]) (st2 := [zi ((wd_L W).length : Int), zi (i : Int)]) rfl ?_
    refine zX.icmp (tgt := 215) ⟨rfl, rfl⟩ rfl (by omega) (by omega) (fun _ => ?_) (fun (zz : (i : Int) < ((wd_L W).length : Int)) => absurd zz (by omega))
    refine zX.re [(0, .inr (10, 0)), (3, .inl (.int u)), (4, .inl (.int b))] [0, 3, 4] [0, 1, 2, 3, 4, 5, 6] rfl rfl (by decide) ?_
    rw [List.drop_of_length_le (by omega)] at q
    exact q
  | succ n ih =>
    intro i u hi q
    have hlt : i < (wd_L W).length := by omega
    have hx := List.getElem?_eq_getElem hlt
    rw [List.drop_eq_getElem_cons hlt] at q
    generalize hCS : (wd_L W)[i] = X at hx q
    obtain ⟨C, S⟩ := X
    have hbig := (hV.2.2 i C S hx).big
    have hcl := zcnt_le S.1 (zuL C)
    have stp : zhA ((C, S) :: (wd_L W).drop (i + 1)) u = zhA ((wd_L W).drop (i + 1)) (u + zhs S.2.1 8) := rfl
    rw [stp] at q
    refine zX.sn 1 (pc2 := 90) (l2 := [(0, .inr (10, 0)), (1, zi ((wd_L W).length : Int)), (2, zi pz), (3, .inl (.int u)), (4, .inl (.int b)), (5, zi (((wd_O W).length - wd_wf W : Nat) : Int)), (6, zi (i : Int))]) (st2 := [zi (i : Int)]) rfl ?_
    refine zX.sn 1 (pc2 := 91) (l2 := [(0, .inr (10, 0)), (1, zi ((wd_L W).length : Int)), (2, zi pz), (3, .inl (.int u)), (4, .inl (.int b)), (5, zi (((wd_O W).length - wd_wf W : Nat) : Int)), (6, zi (i : Int))]) (st2 := [zi ((wd_L W).length : Int), zi (i : Int)]) rfl ?_
    refine zX.icmp (tgt := 215) ⟨rfl, rfl⟩ rfl (by omega) (by omega) (fun (zz : ((wd_L W).length : Int) ≤ (i : Int)) => absurd zz (by omega)) (fun _ => ?_)
    refine zX.sn 1 (pc2 := 95) (l2 := [(0, .inr (10, 0)), (1, zi ((wd_L W).length : Int)), (2, zi pz), (3, .inl (.int u)), (4, .inl (.int b)), (5, zi (((wd_O W).length - wd_wf W : Nat) : Int)), (6, zi (i : Int))]) (st2 := [.inl (.int u)]) rfl ?_
    refine zX.sn 1 (pc2 := 96) (l2 := [(0, .inr (10, 0)), (1, zi ((wd_L W).length : Int)), (2, zi pz), (3, .inl (.int u)), (4, .inl (.int b)), (5, zi (((wd_O W).length - wd_wf W : Nat) : Int)), (6, zi (i : Int))]) (st2 := [.inr (10, 0), .inl (.int u)]) rfl ?_
    refine zX.sn 1 (pc2 := 98) (l2 := [(0, .inr (10, 0)), (1, zi ((wd_L W).length : Int)), (2, zi pz), (3, .inl (.int u)), (4, .inl (.int b)), (5, zi (((wd_O W).length - wd_wf W : Nat) : Int)), (6, zi (i : Int))]) (st2 := [zi 12, .inr (10, 0), .inl (.int u)]) rfl ?_
    refine zX.sn 1 (pc2 := 100) (l2 := [(0, .inr (10, 0)), (1, zi ((wd_L W).length : Int)), (2, zi pz), (3, .inl (.int u)), (4, .inl (.int b)), (5, zi (((wd_O W).length - wd_wf W : Nat) : Int)), (6, zi (i : Int))]) (st2 := [zi (i : Int), zi 12, .inr (10, 0), .inl (.int u)]) rfl ?_
    refine zX.sn 1 (pc2 := 101) (l2 := [(0, .inr (10, 0)), (1, zi ((wd_L W).length : Int)), (2, zi pz), (3, .inl (.int u)), (4, .inl (.int b)), (5, zi (((wd_O W).length - wd_wf W : Nat) : Int)), (6, zi (i : Int))]) (st2 := [zi 0, zi (i : Int), zi 12, .inr (10, 0), .inl (.int u)]) rfl ?_
    refine zX.sn 1 (pc2 := 102) (l2 := [(0, .inr (10, 0)), (1, zi ((wd_L W).length : Int)), (2, zi pz), (3, .inl (.int u)), (4, .inl (.int b)), (5, zi (((wd_O W).length - wd_wf W : Nat) : Int)), (6, zi (i : Int))]) (st2 := [zi 0, zi 0, zi (i : Int), zi 12, .inr (10, 0), .inl (.int u)]) rfl ?_
    refine zX.sn 1 (pc2 := 103) (l2 := [(0, .inr (10, 0)), (1, zi ((wd_L W).length : Int)), (2, zi pz), (3, .inl (.int u)), (4, .inl (.int b)), (5, zi (((wd_O W).length - wd_wf W : Nat) : Int)), (6, zi (i : Int))]) (st2 := [zi 0, zi 0, zi 0, zi (i : Int), zi 12, .inr (10, 0), .inl (.int u)]) rfl ?_
    refine zX.call (mid2 := 170) (as := [.inr (10, 0), zi 12, zi (i : Int), zi 0, zi 0, zi 0]) (rest := [.inl (.int u)]) ⟨rfl, rfl⟩ (fun _ => rfl) rfl ⟨Nat.le_of_ble_eq_true rfl, Nat.le_of_ble_eq_true rfl⟩ ?_
    refine k_held (d := d) hx hF ?_
    show zX _ 173 106 [(0, .inr (10, 0)), (1, zi ((wd_L W).length : Int)), (2, zi pz), (3, .inl (.int u)), (4, .inl (.int b)), (5, zi (((wd_O W).length - wd_wf W : Nat) : Int)), (6, zi (i : Int))] [.inl (.int (zhs S.2.1 8)), .inl (.int u)] c s _ _
    refine zX.sn 1 (pc2 := 107) (l2 := [(0, .inr (10, 0)), (1, zi ((wd_L W).length : Int)), (2, zi pz), (3, .inl (.int u)), (4, .inl (.int b)), (5, zi (((wd_O W).length - wd_wf W : Nat) : Int)), (6, zi (i : Int))]) (st2 := [.inl (.int (u + (zhs S.2.1 8)))]) rfl ?_
    refine zX.sn 1 (pc2 := 108) (l2 := [(3, .inl (.int (u + (zhs S.2.1 8)))), (0, .inr (10, 0)), (1, zi ((wd_L W).length : Int)), (2, zi pz), (4, .inl (.int b)), (5, zi (((wd_O W).length - wd_wf W : Nat) : Int)), (6, zi (i : Int))]) (st2 := []) rfl ?_
    refine zX.sn 1 (pc2 := 109) (l2 := [(3, .inl (.int (u + (zhs S.2.1 8)))), (0, .inr (10, 0)), (1, zi ((wd_L W).length : Int)), (2, zi pz), (4, .inl (.int b)), (5, zi (((wd_O W).length - wd_wf W : Nat) : Int)), (6, zi (i : Int))]) (st2 := [.inr (10, 0)]) rfl ?_
    refine zX.sn 1 (pc2 := 111) (l2 := [(3, .inl (.int (u + (zhs S.2.1 8)))), (0, .inr (10, 0)), (1, zi ((wd_L W).length : Int)), (2, zi pz), (4, .inl (.int b)), (5, zi (((wd_O W).length - wd_wf W : Nat) : Int)), (6, zi (i : Int))]) (st2 := [zi 18, .inr (10, 0)]) rfl ?_
    refine zX.sn 1 (pc2 := 113) (l2 := [(3, .inl (.int (u + (zhs S.2.1 8)))), (0, .inr (10, 0)), (1, zi ((wd_L W).length : Int)), (2, zi pz), (4, .inl (.int b)), (5, zi (((wd_O W).length - wd_wf W : Nat) : Int)), (6, zi (i : Int))]) (st2 := [zi (i : Int), zi 18, .inr (10, 0)]) rfl ?_
    refine zX.sn 1 (pc2 := 114) (l2 := [(3, .inl (.int (u + (zhs S.2.1 8)))), (0, .inr (10, 0)), (1, zi ((wd_L W).length : Int)), (2, zi pz), (4, .inl (.int b)), (5, zi (((wd_O W).length - wd_wf W : Nat) : Int)), (6, zi (i : Int))]) (st2 := [zi 0, zi (i : Int), zi 18, .inr (10, 0)]) rfl ?_
    refine zX.sn 1 (pc2 := 115) (l2 := [(3, .inl (.int (u + (zhs S.2.1 8)))), (0, .inr (10, 0)), (1, zi ((wd_L W).length : Int)), (2, zi pz), (4, .inl (.int b)), (5, zi (((wd_O W).length - wd_wf W : Nat) : Int)), (6, zi (i : Int))]) (st2 := [zi 0, zi 0, zi (i : Int), zi 18, .inr (10, 0)]) rfl ?_
    refine zX.sn 1 (pc2 := 116) (l2 := [(3, .inl (.int (u + (zhs S.2.1 8)))), (0, .inr (10, 0)), (1, zi ((wd_L W).length : Int)), (2, zi pz), (4, .inl (.int b)), (5, zi (((wd_O W).length - wd_wf W : Nat) : Int)), (6, zi (i : Int))]) (st2 := [zi 0, zi 0, zi 0, zi (i : Int), zi 18, .inr (10, 0)]) rfl ?_
    refine zX.call (mid2 := 170) (as := [.inr (10, 0), zi 18, zi (i : Int), zi 0, zi 0, zi 0]) (rest := []) ⟨rfl, rfl⟩ (fun _ => rfl) rfl ⟨Nat.le_of_ble_eq_true rfl, Nat.le_of_ble_eq_true rfl⟩ ?_
    refine k_psum (d := d) hlt hF ?_
    show zX _ 173 119 [(3, .inl (.int (u + (zhs S.2.1 8)))), (0, .inr (10, 0)), (1, zi ((wd_L W).length : Int)), (2, zi pz), (4, .inl (.int b)), (5, zi (((wd_O W).length - wd_wf W : Nat) : Int)), (6, zi (i : Int))] [.inl (.int (wd_ps W i))] c s _ _
    refine zX.sn 1 (pc2 := 121) (l2 := [(7, .inl (.int (wd_ps W i))), (3, .inl (.int (u + (zhs S.2.1 8)))), (0, .inr (10, 0)), (1, zi ((wd_L W).length : Int)), (2, zi pz), (4, .inl (.int b)), (5, zi (((wd_O W).length - wd_wf W : Nat) : Int)), (6, zi (i : Int))]) (st2 := []) rfl ?_
    refine zX.sn 1 (pc2 := 122) (l2 := [(7, .inl (.int (wd_ps W i))), (3, .inl (.int (u + (zhs S.2.1 8)))), (0, .inr (10, 0)), (1, zi ((wd_L W).length : Int)), (2, zi pz), (4, .inl (.int b)), (5, zi (((wd_O W).length - wd_wf W : Nat) : Int)), (6, zi (i : Int))]) (st2 := [zi 0]) rfl ?_
    refine zX.sn 1 (pc2 := 124) (l2 := [(8, zi 0), (7, .inl (.int (wd_ps W i))), (3, .inl (.int (u + (zhs S.2.1 8)))), (0, .inr (10, 0)), (1, zi ((wd_L W).length : Int)), (2, zi pz), (4, .inl (.int b)), (5, zi (((wd_O W).length - wd_wf W : Nat) : Int)), (6, zi (i : Int))]) (st2 := []) rfl ?_
    refine zX.re [(0, .inr (10, 0)), (1, zi ((wd_L W).length : Int)), (2, zi pz), (3, .inl (.int (u + (zhs S.2.1 8)))), (4, .inl (.int b)), (5, zi (((wd_O W).length - wd_wf W : Nat) : Int)), (6, zi (i : Int)), (7, .inl (.int (wd_ps W i))), (8, zi 0)] [3, 4, 5, 2, 6, 7, 8, 1, 0] [8, 7, 3, 0, 1, 2, 4, 5, 6] rfl rfl (by decide) ?_
    refine l_so2 (d := d) (by omega) hwf hF ((wd_O W).length - wd_wf W) 0 _ (by omega) ?_
    rw [Nat.add_zero]
    refine zX.sn 1 (pc2 := 174) (l2 := [(0, .inr (10, 0)), (1, zi ((wd_L W).length : Int)), (2, zi pz), (3, .inl (.int (u + (zhs S.2.1 8)))), (4, .inl (.int b)), (5, zi (((wd_O W).length - wd_wf W : Nat) : Int)), (6, zi (i : Int)), (7, .inl (.int (zsgs i ((wd_O W).drop (wd_wf W)) (wd_ps W i))))]) (st2 := [zi pz]) rfl ?_
    refine zX.icmp0 (tgt := 193) ⟨rfl, rfl⟩ rfl (by omega) (fun (z : 0 ≤ pz) => ?_) (fun (z : pz < 0) => ?_)
    · refine zX.sn 1 (pc2 := 194) (l2 := [(0, .inr (10, 0)), (1, zi ((wd_L W).length : Int)), (2, zi pz), (3, .inl (.int (u + (zhs S.2.1 8)))), (4, .inl (.int b)), (5, zi (((wd_O W).length - wd_wf W : Nat) : Int)), (6, zi (i : Int)), (7, .inl (.int (zsgs i ((wd_O W).drop (wd_wf W)) (wd_ps W i))))]) (st2 := [.inr (10, 0)]) rfl ?_
      refine zX.sn 1 (pc2 := 196) (l2 := [(0, .inr (10, 0)), (1, zi ((wd_L W).length : Int)), (2, zi pz), (3, .inl (.int (u + (zhs S.2.1 8)))), (4, .inl (.int b)), (5, zi (((wd_O W).length - wd_wf W : Nat) : Int)), (6, zi (i : Int)), (7, .inl (.int (zsgs i ((wd_O W).drop (wd_wf W)) (wd_ps W i))))]) (st2 := [zi 7, .inr (10, 0)]) rfl ?_
      refine zX.sn 1 (pc2 := 198) (l2 := [(0, .inr (10, 0)), (1, zi ((wd_L W).length : Int)), (2, zi pz), (3, .inl (.int (u + (zhs S.2.1 8)))), (4, .inl (.int b)), (5, zi (((wd_O W).length - wd_wf W : Nat) : Int)), (6, zi (i : Int)), (7, .inl (.int (zsgs i ((wd_O W).drop (wd_wf W)) (wd_ps W i))))]) (st2 := [zi (i : Int), zi 7, .inr (10, 0)]) rfl ?_
      refine zX.sn 1 (pc2 := 199) (l2 := [(0, .inr (10, 0)), (1, zi ((wd_L W).length : Int)), (2, zi pz), (3, .inl (.int (u + (zhs S.2.1 8)))), (4, .inl (.int b)), (5, zi (((wd_O W).length - wd_wf W : Nat) : Int)), (6, zi (i : Int)), (7, .inl (.int (zsgs i ((wd_O W).drop (wd_wf W)) (wd_ps W i))))]) (st2 := [zi 0, zi (i : Int), zi 7, .inr (10, 0)]) rfl ?_
      refine zX.sn 1 (pc2 := 200) (l2 := [(0, .inr (10, 0)), (1, zi ((wd_L W).length : Int)), (2, zi pz), (3, .inl (.int (u + (zhs S.2.1 8)))), (4, .inl (.int b)), (5, zi (((wd_O W).length - wd_wf W : Nat) : Int)), (6, zi (i : Int)), (7, .inl (.int (zsgs i ((wd_O W).drop (wd_wf W)) (wd_ps W i))))]) (st2 := [zi 0, zi 0, zi (i : Int), zi 7, .inr (10, 0)]) rfl ?_
      refine zX.sn 1 (pc2 := 201) (l2 := [(0, .inr (10, 0)), (1, zi ((wd_L W).length : Int)), (2, zi pz), (3, .inl (.int (u + (zhs S.2.1 8)))), (4, .inl (.int b)), (5, zi (((wd_O W).length - wd_wf W : Nat) : Int)), (6, zi (i : Int)), (7, .inl (.int (zsgs i ((wd_O W).drop (wd_wf W)) (wd_ps W i))))]) (st2 := [zi 0, zi 0, zi 0, zi (i : Int), zi 7, .inr (10, 0)]) rfl ?_
      refine zX.call (mid2 := 170) (as := [.inr (10, 0), zi 7, zi (i : Int), zi 0, zi 0, zi 0]) (rest := []) ⟨rfl, rfl⟩ (fun _ => rfl) rfl ⟨Nat.le_of_ble_eq_true rfl, Nat.le_of_ble_eq_true rfl⟩ ?_
      refine k_told (d := d) hx hF ?_
      show zX _ 173 204 [(0, .inr (10, 0)), (1, zi ((wd_L W).length : Int)), (2, zi pz), (3, .inl (.int (u + (zhs S.2.1 8)))), (4, .inl (.int b)), (5, zi (((wd_O W).length - wd_wf W : Nat) : Int)), (6, zi (i : Int)), (7, .inl (.int (zsgs i ((wd_O W).drop (wd_wf W)) (wd_ps W i))))] [zi (zcnt S.1 (zuL C) : Int)] c s _ _
      refine zX.icmp0 (tgt := 209) ⟨rfl, rfl⟩ rfl (by omega) (fun _ => ?_) (fun (zz : (zcnt S.1 (zuL C) : Int) < 0) => absurd zz (by omega))
      refine zX.s1 (pc2 := 212) (l2 := [(6, zi ((i : Int) + 1)), (0, .inr (10, 0)), (1, zi ((wd_L W).length : Int)), (2, zi pz), (3, .inl (.int (u + (zhs S.2.1 8)))), (4, .inl (.int b)), (5, zi (((wd_O W).length - wd_wf W : Nat) : Int)), (7, .inl (.int (zsgs i ((wd_O W).drop (wd_wf W)) (wd_ps W i))))]) (st2 := []) ⟨rfl, rfl⟩ (by rw [show (zi ((i : Int) + 1) : xV) = .inl (.int (Int32.ofInt (i : Int) + 1)) from congrArg (fun z => (.inl (.int z) : xV)) (Int32.ofInt_add _ _)]; rfl) ?_
      refine zX.sn 1 (pc2 := 88) (l2 := [(6, zi ((i : Int) + 1)), (0, .inr (10, 0)), (1, zi ((wd_L W).length : Int)), (2, zi pz), (3, .inl (.int (u + (zhs S.2.1 8)))), (4, .inl (.int b)), (5, zi (((wd_O W).length - wd_wf W : Nat) : Int)), (7, .inl (.int (zsgs i ((wd_O W).drop (wd_wf W)) (wd_ps W i))))]) (st2 := []) rfl ?_
      refine zX.re [(0, .inr (10, 0)), (1, zi ((wd_L W).length : Int)), (2, zi pz), (3, .inl (.int (u + (zhs S.2.1 8)))), (4, .inl (.int b)), (5, zi (((wd_O W).length - wd_wf W : Nat) : Int)), (6, zi ((i : Int) + 1))] [1, 2, 3, 4, 5, 6, 0] [6, 0, 1, 2, 3, 4, 5, 7] rfl rfl (by decide) ?_
      exact ih (i + 1) _ (by omega) q
    · refine zX.sn 1 (pc2 := 179) (l2 := [(0, .inr (10, 0)), (1, zi ((wd_L W).length : Int)), (2, zi pz), (3, .inl (.int (u + (zhs S.2.1 8)))), (4, .inl (.int b)), (5, zi (((wd_O W).length - wd_wf W : Nat) : Int)), (6, zi (i : Int)), (7, .inl (.int (zsgs i ((wd_O W).drop (wd_wf W)) (wd_ps W i))))]) (st2 := [.inl (.int (zsgs i ((wd_O W).drop (wd_wf W)) (wd_ps W i)))]) rfl ?_
      refine zX.sn 1 (pc2 := 180) (l2 := [(0, .inr (10, 0)), (1, zi ((wd_L W).length : Int)), (2, zi pz), (3, .inl (.int (u + (zhs S.2.1 8)))), (4, .inl (.int b)), (5, zi (((wd_O W).length - wd_wf W : Nat) : Int)), (6, zi (i : Int)), (7, .inl (.int (zsgs i ((wd_O W).drop (wd_wf W)) (wd_ps W i))))]) (st2 := [.inr (10, 0), .inl (.int (zsgs i ((wd_O W).drop (wd_wf W)) (wd_ps W i)))]) rfl ?_
      refine zX.sn 1 (pc2 := 182) (l2 := [(0, .inr (10, 0)), (1, zi ((wd_L W).length : Int)), (2, zi pz), (3, .inl (.int (u + (zhs S.2.1 8)))), (4, .inl (.int b)), (5, zi (((wd_O W).length - wd_wf W : Nat) : Int)), (6, zi (i : Int)), (7, .inl (.int (zsgs i ((wd_O W).drop (wd_wf W)) (wd_ps W i))))]) (st2 := [zi 7, .inr (10, 0), .inl (.int (zsgs i ((wd_O W).drop (wd_wf W)) (wd_ps W i)))]) rfl ?_
      refine zX.sn 1 (pc2 := 184) (l2 := [(0, .inr (10, 0)), (1, zi ((wd_L W).length : Int)), (2, zi pz), (3, .inl (.int (u + (zhs S.2.1 8)))), (4, .inl (.int b)), (5, zi (((wd_O W).length - wd_wf W : Nat) : Int)), (6, zi (i : Int)), (7, .inl (.int (zsgs i ((wd_O W).drop (wd_wf W)) (wd_ps W i))))]) (st2 := [zi (i : Int), zi 7, .inr (10, 0), .inl (.int (zsgs i ((wd_O W).drop (wd_wf W)) (wd_ps W i)))]) rfl ?_
      refine zX.sn 1 (pc2 := 185) (l2 := [(0, .inr (10, 0)), (1, zi ((wd_L W).length : Int)), (2, zi pz), (3, .inl (.int (u + (zhs S.2.1 8)))), (4, .inl (.int b)), (5, zi (((wd_O W).length - wd_wf W : Nat) : Int)), (6, zi (i : Int)), (7, .inl (.int (zsgs i ((wd_O W).drop (wd_wf W)) (wd_ps W i))))]) (st2 := [zi 0, zi (i : Int), zi 7, .inr (10, 0), .inl (.int (zsgs i ((wd_O W).drop (wd_wf W)) (wd_ps W i)))]) rfl ?_
      refine zX.sn 1 (pc2 := 186) (l2 := [(0, .inr (10, 0)), (1, zi ((wd_L W).length : Int)), (2, zi pz), (3, .inl (.int (u + (zhs S.2.1 8)))), (4, .inl (.int b)), (5, zi (((wd_O W).length - wd_wf W : Nat) : Int)), (6, zi (i : Int)), (7, .inl (.int (zsgs i ((wd_O W).drop (wd_wf W)) (wd_ps W i))))]) (st2 := [zi 0, zi 0, zi (i : Int), zi 7, .inr (10, 0), .inl (.int (zsgs i ((wd_O W).drop (wd_wf W)) (wd_ps W i)))]) rfl ?_
      refine zX.sn 1 (pc2 := 187) (l2 := [(0, .inr (10, 0)), (1, zi ((wd_L W).length : Int)), (2, zi pz), (3, .inl (.int (u + (zhs S.2.1 8)))), (4, .inl (.int b)), (5, zi (((wd_O W).length - wd_wf W : Nat) : Int)), (6, zi (i : Int)), (7, .inl (.int (zsgs i ((wd_O W).drop (wd_wf W)) (wd_ps W i))))]) (st2 := [zi 0, zi 0, zi 0, zi (i : Int), zi 7, .inr (10, 0), .inl (.int (zsgs i ((wd_O W).drop (wd_wf W)) (wd_ps W i)))]) rfl ?_
      refine zX.call (mid2 := 170) (as := [.inr (10, 0), zi 7, zi (i : Int), zi 0, zi 0, zi 0]) (rest := [.inl (.int (zsgs i ((wd_O W).drop (wd_wf W)) (wd_ps W i)))]) ⟨rfl, rfl⟩ (fun _ => rfl) rfl ⟨Nat.le_of_ble_eq_true rfl, Nat.le_of_ble_eq_true rfl⟩ ?_
      refine k_told (d := d) hx hF ?_
      show zX _ 173 190 [(0, .inr (10, 0)), (1, zi ((wd_L W).length : Int)), (2, zi pz), (3, .inl (.int (u + (zhs S.2.1 8)))), (4, .inl (.int b)), (5, zi (((wd_O W).length - wd_wf W : Nat) : Int)), (6, zi (i : Int)), (7, .inl (.int (zsgs i ((wd_O W).drop (wd_wf W)) (wd_ps W i))))] [zi (zcnt S.1 (zuL C) : Int), .inl (.int (zsgs i ((wd_O W).drop (wd_wf W)) (wd_ps W i)))] c s _ _
      have hse := hsg z i C S hx
      refine zX.rcmp (tgt := 207) ⟨rfl, rfl⟩ rfl (fun (zz : ¬ (zsgs i ((wd_O W).drop (wd_wf W)) (wd_ps W i)) = (Int32.ofInt (zcnt S.1 (zuL C) : Int))) => absurd hse zz) (fun _ => ?_)
      refine zX.sn 1 (pc2 := 194) (l2 := [(0, .inr (10, 0)), (1, zi ((wd_L W).length : Int)), (2, zi pz), (3, .inl (.int (u + (zhs S.2.1 8)))), (4, .inl (.int b)), (5, zi (((wd_O W).length - wd_wf W : Nat) : Int)), (6, zi (i : Int)), (7, .inl (.int (zsgs i ((wd_O W).drop (wd_wf W)) (wd_ps W i))))]) (st2 := [.inr (10, 0)]) rfl ?_
      refine zX.sn 1 (pc2 := 196) (l2 := [(0, .inr (10, 0)), (1, zi ((wd_L W).length : Int)), (2, zi pz), (3, .inl (.int (u + (zhs S.2.1 8)))), (4, .inl (.int b)), (5, zi (((wd_O W).length - wd_wf W : Nat) : Int)), (6, zi (i : Int)), (7, .inl (.int (zsgs i ((wd_O W).drop (wd_wf W)) (wd_ps W i))))]) (st2 := [zi 7, .inr (10, 0)]) rfl ?_
      refine zX.sn 1 (pc2 := 198) (l2 := [(0, .inr (10, 0)), (1, zi ((wd_L W).length : Int)), (2, zi pz), (3, .inl (.int (u + (zhs S.2.1 8)))), (4, .inl (.int b)), (5, zi (((wd_O W).length - wd_wf W : Nat) : Int)), (6, zi (i : Int)), (7, .inl (.int (zsgs i ((wd_O W).drop (wd_wf W)) (wd_ps W i))))]) (st2 := [zi (i : Int), zi 7, .inr (10, 0)]) rfl ?_
      refine zX.sn 1 (pc2 := 199) (l2 := [(0, .inr (10, 0)), (1, zi ((wd_L W).length : Int)), (2, zi pz), (3, .inl (.int (u + (zhs S.2.1 8)))), (4, .inl (.int b)), (5, zi (((wd_O W).length - wd_wf W : Nat) : Int)), (6, zi (i : Int)), (7, .inl (.int (zsgs i ((wd_O W).drop (wd_wf W)) (wd_ps W i))))]) (st2 := [zi 0, zi (i : Int), zi 7, .inr (10, 0)]) rfl ?_
      refine zX.sn 1 (pc2 := 200) (l2 := [(0, .inr (10, 0)), (1, zi ((wd_L W).length : Int)), (2, zi pz), (3, .inl (.int (u + (zhs S.2.1 8)))), (4, .inl (.int b)), (5, zi (((wd_O W).length - wd_wf W : Nat) : Int)), (6, zi (i : Int)), (7, .inl (.int (zsgs i ((wd_O W).drop (wd_wf W)) (wd_ps W i))))]) (st2 := [zi 0, zi 0, zi (i : Int), zi 7, .inr (10, 0)]) rfl ?_
      refine zX.sn 1 (pc2 := 201) (l2 := [(0, .inr (10, 0)), (1, zi ((wd_L W).length : Int)), (2, zi pz), (3, .inl (.int (u + (zhs S.2.1 8)))), (4, .inl (.int b)), (5, zi (((wd_O W).length - wd_wf W : Nat) : Int)), (6, zi (i : Int)), (7, .inl (.int (zsgs i ((wd_O W).drop (wd_wf W)) (wd_ps W i))))]) (st2 := [zi 0, zi 0, zi 0, zi (i : Int), zi 7, .inr (10, 0)]) rfl ?_
      refine zX.call (mid2 := 170) (as := [.inr (10, 0), zi 7, zi (i : Int), zi 0, zi 0, zi 0]) (rest := []) ⟨rfl, rfl⟩ (fun _ => rfl) rfl ⟨Nat.le_of_ble_eq_true rfl, Nat.le_of_ble_eq_true rfl⟩ ?_
      refine k_told (d := d) hx hF ?_
      show zX _ 173 204 [(0, .inr (10, 0)), (1, zi ((wd_L W).length : Int)), (2, zi pz), (3, .inl (.int (u + (zhs S.2.1 8)))), (4, .inl (.int b)), (5, zi (((wd_O W).length - wd_wf W : Nat) : Int)), (6, zi (i : Int)), (7, .inl (.int (zsgs i ((wd_O W).drop (wd_wf W)) (wd_ps W i))))] [zi (zcnt S.1 (zuL C) : Int)] c s _ _
      refine zX.icmp0 (tgt := 209) ⟨rfl, rfl⟩ rfl (by omega) (fun _ => ?_) (fun (zz : (zcnt S.1 (zuL C) : Int) < 0) => absurd zz (by omega))
      refine zX.s1 (pc2 := 212) (l2 := [(6, zi ((i : Int) + 1)), (0, .inr (10, 0)), (1, zi ((wd_L W).length : Int)), (2, zi pz), (3, .inl (.int (u + (zhs S.2.1 8)))), (4, .inl (.int b)), (5, zi (((wd_O W).length - wd_wf W : Nat) : Int)), (7, .inl (.int (zsgs i ((wd_O W).drop (wd_wf W)) (wd_ps W i))))]) (st2 := []) ⟨rfl, rfl⟩ (by rw [show (zi ((i : Int) + 1) : xV) = .inl (.int (Int32.ofInt (i : Int) + 1)) from congrArg (fun z => (.inl (.int z) : xV)) (Int32.ofInt_add _ _)]; rfl) ?_
      refine zX.sn 1 (pc2 := 88) (l2 := [(6, zi ((i : Int) + 1)), (0, .inr (10, 0)), (1, zi ((wd_L W).length : Int)), (2, zi pz), (3, .inl (.int (u + (zhs S.2.1 8)))), (4, .inl (.int b)), (5, zi (((wd_O W).length - wd_wf W : Nat) : Int)), (7, .inl (.int (zsgs i ((wd_O W).drop (wd_wf W)) (wd_ps W i))))]) (st2 := []) rfl ?_
      refine zX.re [(0, .inr (10, 0)), (1, zi ((wd_L W).length : Int)), (2, zi pz), (3, .inl (.int (u + (zhs S.2.1 8)))), (4, .inl (.int b)), (5, zi (((wd_O W).length - wd_wf W : Nat) : Int)), (6, zi ((i : Int) + 1))] [1, 2, 3, 4, 5, 6, 0] [6, 0, 1, 2, 3, 4, 5, 7] rfl rfl (by decide) ?_
      exact ih (i + 1) _ (by omega) q
set_option maxHeartbeats 1000000 in
theorem s_soundL {pz : Int} (hwr : ∀ i, 0 ≤ wd_wk W i ∧ wd_wk W i < 3) (hpz : -1 ≤ pz ∧ pz < 400000) (hwf : wd_wf W ≤ (wd_O W).length) (hsg : pz < 0 → ∀ (i : Nat) (C : zCf) (S : zSt), (wd_L W)[i]? = some (C, S) → zsgs i ((wd_O W).drop (wd_wf W)) (wd_ps W i) = Int32.ofInt (zcnt S.1 (zuL C) : Int)) (hhl : zhA (wd_L W) 0 = zlA W 3 0 0) (hJ72 : (wd_J W).length ≤ 72) (hso : ∀ (i : Nat) (C : zCf) (S : zSt), (wd_L W)[i]? = some (C, S) → zuFo i C (wd_J W) (zlm (wd_P W) 3 0 1000) = S.1) (hF : zFd sc h M W)
    (q : ∀ h1 M1 c1 s1, zFd sc h1 M1 W → zCs 0 0 M c s M1 c1 s1 → Q (.inl (some (zi 1))) c1 s1 h1) : zX (d + 11) 173 0 [(0, .inr (10, 0)), (1, zi ((wd_L W).length : Int)), (2, zi pz)] [] c s h Q := by
  obtain ⟨N, capv, capj, K, g, hM, hf, hA, hV, hP, hJ, hw, hps, hemp, hsc, hfe, hfv⟩ := id hF
  have hol := hV.1.le
  refine zX.sn 1 (pc2 := 1) (l2 := [(0, .inr (10, 0)), (1, zi ((wd_L W).length : Int)), (2, zi pz)]) (st2 := [zi 0]) rfl ?_
  refine zX.sn 1 (pc2 := 2) (l2 := [(3, zi 0), (0, .inr (10, 0)), (1, zi ((wd_L W).length : Int)), (2, zi pz)]) (st2 := []) rfl ?_
  refine zX.sn 1 (pc2 := 3) (l2 := [(3, zi 0), (0, .inr (10, 0)), (1, zi ((wd_L W).length : Int)), (2, zi pz)]) (st2 := [zi 0]) rfl ?_
  refine zX.sn 1 (pc2 := 5) (l2 := [(4, zi 0), (3, zi 0), (0, .inr (10, 0)), (1, zi ((wd_L W).length : Int)), (2, zi pz)]) (st2 := []) rfl ?_
  refine zX.sn 1 (pc2 := 6) (l2 := [(4, zi 0), (3, zi 0), (0, .inr (10, 0)), (1, zi ((wd_L W).length : Int)), (2, zi pz)]) (st2 := [.inr (10, 0)]) rfl ?_
  refine zX.call (mid2 := 115) (as := [.inr (10, 0)]) (rest := []) ⟨rfl, rfl⟩ (fun _ => rfl) (zX.inv rfl hf rfl rfl) ⟨Nat.le_of_ble_eq_true rfl, Nat.le_of_ble_eq_true rfl⟩ ?_
  refine s_waiting (d := d + 9) hV.1 hf ?_
  show zX _ 173 9 [(4, zi 0), (3, zi 0), (0, .inr (10, 0)), (1, zi ((wd_L W).length : Int)), (2, zi pz)] [zi (((wd_O W).length : Int) - (wd_wf W : Int))] c s _ _
  rw [show ((wd_O W).length : Int) - (wd_wf W : Int) = (((wd_O W).length - wd_wf W : Nat) : Int) from by omega]
  refine zX.sn 1 (pc2 := 11) (l2 := [(5, zi (((wd_O W).length - wd_wf W : Nat) : Int)), (4, zi 0), (3, zi 0), (0, .inr (10, 0)), (1, zi ((wd_L W).length : Int)), (2, zi pz)]) (st2 := []) rfl ?_
  refine zX.sn 1 (pc2 := 12) (l2 := [(5, zi (((wd_O W).length - wd_wf W : Nat) : Int)), (4, zi 0), (3, zi 0), (0, .inr (10, 0)), (1, zi ((wd_L W).length : Int)), (2, zi pz)]) (st2 := [zi 0]) rfl ?_
  refine zX.sn 1 (pc2 := 14) (l2 := [(6, zi 0), (5, zi (((wd_O W).length - wd_wf W : Nat) : Int)), (4, zi 0), (3, zi 0), (0, .inr (10, 0)), (1, zi ((wd_L W).length : Int)), (2, zi pz)]) (st2 := []) rfl ?_
  refine zX.re [(0, .inr (10, 0)), (1, zi ((wd_L W).length : Int)), (2, zi pz), (3, zi 0), (4, zi 0), (5, zi (((wd_O W).length - wd_wf W : Nat) : Int)), (6, zi 0)] [4, 5, 6, 3, 2, 1, 0] [6, 5, 4, 3, 0, 1, 2] rfl rfl (by decide) ?_
  refine l_so1 (d := d) hwr hF 3 0 _ rfl ?_
  show zX _ 173 85 [(0, .inr (10, 0)), (1, zi ((wd_L W).length : Int)), (2, zi pz), (3, .inl (.int 0)), (4, .inl (.int (zlA W 3 0 0))), (5, zi (((wd_O W).length - wd_wf W : Nat) : Int))] [] c s _ _
  refine zX.sn 1 (pc2 := 86) (l2 := [(0, .inr (10, 0)), (1, zi ((wd_L W).length : Int)), (2, zi pz), (3, .inl (.int 0)), (4, .inl (.int (zlA W 3 0 0))), (5, zi (((wd_O W).length - wd_wf W : Nat) : Int))]) (st2 := [zi 0]) rfl ?_
  refine zX.sn 1 (pc2 := 88) (l2 := [(6, zi 0), (0, .inr (10, 0)), (1, zi ((wd_L W).length : Int)), (2, zi pz), (3, .inl (.int 0)), (4, .inl (.int (zlA W 3 0 0))), (5, zi (((wd_O W).length - wd_wf W : Nat) : Int))]) (st2 := []) rfl ?_
  refine zX.re [(0, .inr (10, 0)), (1, zi ((wd_L W).length : Int)), (2, zi pz), (3, .inl (.int 0)), (4, .inl (.int (zlA W 3 0 0))), (5, zi (((wd_O W).length - wd_wf W : Nat) : Int)), (6, zi 0)] [1, 2, 3, 4, 5, 6, 0] [6, 0, 1, 2, 3, 4, 5] rfl rfl (by decide) ?_
  refine l_so3 (d := d) hpz hwf hsg hF (wd_L W).length 0 _ (by omega) ?_
  rw [List.drop_zero]
  rw [hhl]
  show zX _ 173 215 [(0, .inr (10, 0)), (3, .inl (.int (zlA W 3 0 0))), (4, .inl (.int (zlA W 3 0 0)))] [] c s _ _
  refine zX.sn 1 (pc2 := 216) (l2 := [(0, .inr (10, 0)), (3, .inl (.int (zlA W 3 0 0))), (4, .inl (.int (zlA W 3 0 0)))]) (st2 := [.inl (.int (zlA W 3 0 0))]) rfl ?_
  refine zX.sn 1 (pc2 := 218) (l2 := [(0, .inr (10, 0)), (3, .inl (.int (zlA W 3 0 0))), (4, .inl (.int (zlA W 3 0 0)))]) (st2 := [.inl (.int (zlA W 3 0 0)), .inl (.int (zlA W 3 0 0))]) rfl ?_
  refine zX.rcmp (tgt := 232) ⟨rfl, rfl⟩ rfl (fun (zz : ¬ (zlA W 3 0 0) = (zlA W 3 0 0)) => absurd rfl zz) (fun _ => ?_)
  refine zX.sn 1 (pc2 := 222) (l2 := [(0, .inr (10, 0)), (3, .inl (.int (zlA W 3 0 0))), (4, .inl (.int (zlA W 3 0 0)))]) (st2 := [.inr (10, 0)]) rfl ?_
  refine zX.call (mid2 := 128) (as := [.inr (10, 0)]) (rest := []) ⟨rfl, rfl⟩ (fun _ => rfl) (zX.inv rfl hf rfl rfl) ⟨Nat.le_of_ble_eq_true rfl, Nat.le_of_ble_eq_true rfl⟩ ?_
  refine s_sound (d := d + 1) (G := ((wd_L W), (wd_O W))) hJ72 hP hso hf hA hV hJ (fun h1 K1 c1 s1 a1 a2 a3 => ?_)
  show zX _ 173 225 [(0, .inr (10, 0)), (3, .inl (.int (zlA W 3 0 0))), (4, .inl (.int (zlA W 3 0 0)))] [zi 1] c1 s1 _ _
  refine zX.icmp0 (x := 1) (tgt := 232) ⟨rfl, rfl⟩ rfl (by omega) (fun (zz : (1 : Int) = 0) => absurd zz (by omega)) (fun _ => ?_)
  refine zX.sn 1 (pc2 := 229) (l2 := [(0, .inr (10, 0)), (3, .inl (.int (zlA W 3 0 0))), (4, .inl (.int (zlA W 3 0 0)))]) (st2 := [zi 1]) rfl ?_
  refine zX.sn 1 (pc2 := 233) (l2 := [(0, .inr (10, 0)), (3, .inl (.int (zlA W 3 0 0))), (4, .inl (.int (zlA W 3 0 0)))]) (st2 := [zi 1]) rfl ?_
  refine zX.ret rfl (zret_z rfl (by decide)) ?_
  refine q h1 (N + zKm K1 5 + capv + capj + zPc (wd_P W)) c1 s1 ⟨N, capv, capj, K1, g, rfl, (a2 _ _ (by omega)).trans hf, hA.fr (fun a b z => a2 a b (by omega)), a1, hP.mv (fun a b z => a2 a b (by omega)), hJ.mv9 (fun a b z => a2 a b (by omega)) (fun b o ho => (a2 _ _ (by omega)).trans ho), (a2 _ _ (by omega)).trans hw, (a2 _ _ (by omega)).trans hps, (a2 _ _ (by omega)).trans hemp, (a2 _ _ (by omega)).trans hsc, fun q i hq hi => (a2 _ _ (by omega)).trans (hfe q i hq hi), fun hr a b z1 z2 z3 => (a2 _ _ (fun z => ?_)).trans (hfv hr a b z1 z2 z3)⟩ (by have := a3.1; have := a3.2.1; have := a3.2.2; omega)
  have z4 : b % 8 < (wd_L W).length := z.2.2
  omega
end YA4
