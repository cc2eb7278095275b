set_option maxRecDepth 100000
section YC97
variable {d : Nat} {Q : xR → Nat → Nat → xH → Prop}
theorem s_needW {w c s : Nat} {h : xH} (hw : w < 3) (q : Q (.inl none) c s h) : zX d 133 0 [(0, .inr (10, 0)), (1, zi (w : Int))] [] c s h Q := by
  refine zX.sn 1 (pc2 := 1) (l2 := [(0, .inr (10, 0)), (1, zi (w : Int))]) (st2 := [zi (w : Int)]) rfl ?_
  refine zX.icmp0 (tgt := 9) ⟨rfl, rfl⟩ rfl (by omega) (fun (zz : (w : Int) < 0) => absurd zz (by omega)) (fun _ => ?_)
  refine zX.sn 1 (pc2 := 5) (l2 := [(0, .inr (10, 0)), (1, zi (w : Int))]) (st2 := [zi (w : Int)]) rfl ?_
  refine zX.sn 1 (pc2 := 6) (l2 := [(0, .inr (10, 0)), (1, zi (w : Int))]) (st2 := [zi 3, zi (w : Int)]) rfl ?_
  refine zX.icmp (tgt := 20) ⟨rfl, rfl⟩ rfl (by omega) (by omega) (fun _ => ?_) (fun (zz : (3 : Int) ≤ (w : Int)) => absurd zz (by omega))
  refine zX.ret rfl rfl ?_
  exact q
theorem s_needK {k c s : Nat} {h : xH} {fs : List xV} {f : Nat → xV} (hk : k < 8) (hf : h (10, 0) = some (.inl (10, zFn fs))) (hw : h (17, 0) = some (.inr (0, 8, f))) (q : Q (.inl none) c s h) : zX d 131 0 [(0, .inr (10, 0)), (1, zi (k : Int))] [] c s h Q := by
  refine zX.sn 1 (pc2 := 1) (l2 := [(0, .inr (10, 0)), (1, zi (k : Int))]) (st2 := [zi (k : Int)]) rfl ?_
  refine zX.icmp0 (tgt := 13) ⟨rfl, rfl⟩ rfl (by omega) (fun (zz : (k : Int) < 0) => absurd zz (by omega)) (fun _ => ?_)
  refine zX.sn 1 (pc2 := 5) (l2 := [(0, .inr (10, 0)), (1, zi (k : Int))]) (st2 := [zi (k : Int)]) rfl ?_
  refine zX.sn 1 (pc2 := 6) (l2 := [(0, .inr (10, 0)), (1, zi (k : Int))]) (st2 := [.inr (10, 0), zi (k : Int)]) rfl ?_
  refine zX.getf ⟨rfl, rfl⟩ hf rfl rfl ?_
  refine zX.alen ⟨rfl, rfl⟩ hw ?_
  refine zX.icmp (tgt := 24) ⟨rfl, rfl⟩ rfl (by omega) (by omega) (fun _ => ?_) (fun (zz : ((8 : Nat) : Int) ≤ (k : Int)) => absurd zz (by omega))
  refine zX.ret rfl rfl ?_
  exact q
/-- what a worker's keys hold, from the i-th key on -/
def zld (L : zVL) (wk : Nat → Int) (w : Nat) : Nat → Nat → Int32 → Int32
  | 0, _, a => a
  | n + 1, i, a => zld L wk w n (i + 1) (if wk i = (w : Int) then a + zhk i L 0 else a)
set_option maxHeartbeats 4000000 in
theorem l_load {N capv w c s : Nat} {fs : List xV} {L : zVL} {out : List Int64} {K : zKp} {h : xH} {wk : Nat → Int} (hwr : ∀ i, 0 ≤ wk i ∧ wk i < 3) (hwl : w < 3) (hw : h (17, 0) = some (.inr (0, 8, zA wk))) (hf : h (10, 0) = some (.inl (10, zFn fs))) (hA : zAL h 13 0 capv (zVn L)) (hV : zVa h N K L out) : ∀ (n i : Nat) (a : Int32), i + n = 8 → Q (.inl (some (.inl (.int (zld L wk w n i a))))) c s h → zX (d + 4) 125 9 [(0, .inr (10, 0)), (1, zi (w : Int)), (2, .inl (.int a)), (3, zi (i : Int))] [] c s h Q := by
  intro n
  induction n with
  | zero =>
    intro i a hi q
    refine zX.sn 1 (pc2 := 10) (l2 := [(0, .inr (10, 0)), (1, zi (w : Int)), (2, .inl (.int a)), (3, zi (i : Int))]) (st2 := [zi (i : Int)]) rfl ?_
    refine zX.sn 1 (pc2 := 11) (l2 := [(0, .inr (10, 0)), (1, zi (w : Int)), (2, .inl (.int a)), (3, zi (i : Int))]) (st2 := [.inr (10, 0), zi (i : Int)]) rfl ?_
    refine zX.getf ⟨rfl, rfl⟩ hf rfl rfl ?_
    refine zX.alen ⟨rfl, rfl⟩ hw ?_
    show zX _ 125 15 [(0, .inr (10, 0)), (1, zi (w : Int)), (2, .inl (.int a)), (3, zi (i : Int))] [zi ((8 : Nat) : Int), zi (i : Int)] c s _ _
    refine zX.icmp (tgt := 42) ⟨rfl, rfl⟩ rfl (by omega) (by omega) (fun _ => ?_) (fun (zz : (i : Int) < ((8 : Nat) : Int)) => absurd zz (by omega))
    refine zX.sn 1 (pc2 := 43) (l2 := [(0, .inr (10, 0)), (1, zi (w : Int)), (2, .inl (.int a)), (3, zi (i : Int))]) (st2 := [.inl (.int a)]) rfl ?_
    refine zX.ret rfl rfl ?_
    exact q
  | succ n ih =>
    intro i a hi q
    have hwi := hwr i
    refine zX.sn 1 (pc2 := 10) (l2 := [(0, .inr (10, 0)), (1, zi (w : Int)), (2, .inl (.int a)), (3, zi (i : Int))]) (st2 := [zi (i : Int)]) rfl ?_
    refine zX.sn 1 (pc2 := 11) (l2 := [(0, .inr (10, 0)), (1, zi (w : Int)), (2, .inl (.int a)), (3, zi (i : Int))]) (st2 := [.inr (10, 0), zi (i : Int)]) rfl ?_
    refine zX.getf ⟨rfl, rfl⟩ hf rfl rfl ?_
    refine zX.alen ⟨rfl, rfl⟩ hw ?_
    show zX _ 125 15 [(0, .inr (10, 0)), (1, zi (w : Int)), (2, .inl (.int a)), (3, zi (i : Int))] [zi ((8 : Nat) : Int), zi (i : Int)] c s _ _
    refine zX.icmp (tgt := 42) ⟨rfl, rfl⟩ rfl (by omega) (by omega) (fun (zz : ((8 : Nat) : Int) ≤ (i : Int)) => absurd zz (by omega)) (fun _ => ?_)
    refine zX.sn 1 (pc2 := 19) (l2 := [(0, .inr (10, 0)), (1, zi (w : Int)), (2, .inl (.int a)), (3, zi (i : Int))]) (st2 := [.inr (10, 0)]) rfl ?_
    refine zX.getf ⟨rfl, rfl⟩ hf rfl rfl ?_
    refine zX.sn 1 (pc2 := 23) (l2 := [(0, .inr (10, 0)), (1, zi (w : Int)), (2, .inl (.int a)), (3, zi (i : Int))]) (st2 := [zi (i : Int), .inr (17, 0)]) rfl ?_
    refine zX.iald (j := i) ⟨rfl, rfl⟩ hw rfl (by omega) (by omega) ?_
    show zX _ 125 24 [(0, .inr (10, 0)), (1, zi (w : Int)), (2, .inl (.int a)), (3, zi (i : Int))] [zi (wk i)] c s _ _
    refine zX.sn 1 (pc2 := 25) (l2 := [(0, .inr (10, 0)), (1, zi (w : Int)), (2, .inl (.int a)), (3, zi (i : Int))]) (st2 := [zi (w : Int), zi (wk i)]) rfl ?_
    have stp : zld L wk w (n + 1) i a = zld L wk w n (i + 1) (if wk i = (w : Int) then a + zhk i L 0 else a) := rfl
    rw [stp] at q
    refine zX.icmp (tgt := 36) ⟨rfl, rfl⟩ rfl (by omega) (by omega) (fun (z : ¬ wk i = (w : Int)) => ?_) (fun (z : wk i = (w : Int)) => ?_)
    · refine zX.s1 (pc2 := 39) (l2 := [(3, zi ((i : Int) + 1)), (0, .inr (10, 0)), (1, zi (w : Int)), (2, .inl (.int a))]) (st2 := []) ⟨rfl, rfl⟩ (by rw [show (zi ((i : Int) + 1) : xV) = .inl (.int (Int32.ofInt (i : Int) + 1)) from congrArg (fun z => (.inl (.int z) : xV)) (Int32.ofInt_add _ _)]; rfl) ?_
      refine zX.sn 1 (pc2 := 9) (l2 := [(3, zi ((i : Int) + 1)), (0, .inr (10, 0)), (1, zi (w : Int)), (2, .inl (.int a))]) (st2 := []) rfl ?_
      refine zX.re [(0, .inr (10, 0)), (1, zi (w : Int)), (2, .inl (.int a)), (3, zi ((i : Int) + 1))] [1, 2, 3, 0] [3, 0, 1, 2] rfl rfl (by decide) ?_
      rw [if_neg z] at q
      exact ih (i + 1) a (by omega) q
    · refine zX.sn 1 (pc2 := 29) (l2 := [(0, .inr (10, 0)), (1, zi (w : Int)), (2, .inl (.int a)), (3, zi (i : Int))]) (st2 := [.inl (.int a)]) rfl ?_
      refine zX.sn 1 (pc2 := 30) (l2 := [(0, .inr (10, 0)), (1, zi (w : Int)), (2, .inl (.int a)), (3, zi (i : Int))]) (st2 := [.inr (10, 0), .inl (.int a)]) rfl ?_
      refine zX.sn 1 (pc2 := 31) (l2 := [(0, .inr (10, 0)), (1, zi (w : Int)), (2, .inl (.int a)), (3, zi (i : Int))]) (st2 := [zi (i : Int), .inr (10, 0), .inl (.int a)]) rfl ?_
      refine zX.call (mid2 := 144) (as := [.inr (10, 0), zi (i : Int)]) (rest := [.inl (.int a)]) ⟨rfl, rfl⟩ (fun _ => rfl) (zX.inv rfl hf rfl rfl) ⟨Nat.le_of_ble_eq_true rfl, Nat.le_of_ble_eq_true rfl⟩ ?_
      refine s_hok (d := d) (by omega) hf hA hV ?_
      show zX _ 125 34 [(0, .inr (10, 0)), (1, zi (w : Int)), (2, .inl (.int a)), (3, zi (i : Int))] [.inl (.int (zhk i L 0)), .inl (.int a)] c s _ _
      refine zX.sn 1 (pc2 := 35) (l2 := [(0, .inr (10, 0)), (1, zi (w : Int)), (2, .inl (.int a)), (3, zi (i : Int))]) (st2 := [.inl (.int (a + zhk i L 0))]) rfl ?_
      refine zX.sn 1 (pc2 := 36) (l2 := [(2, .inl (.int (a + zhk i L 0))), (0, .inr (10, 0)), (1, zi (w : Int)), (3, zi (i : Int))]) (st2 := []) rfl ?_
      refine zX.s1 (pc2 := 39) (l2 := [(3, zi ((i : Int) + 1)), (2, .inl (.int (a + zhk i L 0))), (0, .inr (10, 0)), (1, zi (w : Int))]) (st2 := []) ⟨rfl, rfl⟩ (by rw [show (zi ((i : Int) + 1) : xV) = .inl (.int (Int32.ofInt (i : Int) + 1)) from congrArg (fun z => (.inl (.int z) : xV)) (Int32.ofInt_add _ _)]; rfl) ?_
      refine zX.sn 1 (pc2 := 9) (l2 := [(3, zi ((i : Int) + 1)), (2, .inl (.int (a + zhk i L 0))), (0, .inr (10, 0)), (1, zi (w : Int))]) (st2 := []) rfl ?_
      refine zX.re [(0, .inr (10, 0)), (1, zi (w : Int)), (2, .inl (.int (a + zhk i L 0))), (3, zi ((i : Int) + 1))] [2, 3, 1, 0] [3, 2, 0, 1] rfl rfl (by decide) ?_
      rw [if_pos z] at q
      exact ih (i + 1) _ (by omega) q
theorem s_load {N capv w c s : Nat} {fs : List xV} {L : zVL} {out : List Int64} {K : zKp} {h : xH} {wk : Nat → Int} (hwr : ∀ i, 0 ≤ wk i ∧ wk i < 3) (hwl : w < 3) (hw : h (17, 0) = some (.inr (0, 8, zA wk))) (hf : h (10, 0) = some (.inl (10, zFn fs))) (hA : zAL h 13 0 capv (zVn L)) (hV : zVa h N K L out) (q : Q (.inl (some (.inl (.int (zld L wk w 8 0 0))))) c s h) : zX (d + 4) 125 0 [(0, .inr (10, 0)), (1, zi (w : Int))] [] c s h Q := by
  refine zX.sn 1 (pc2 := 1) (l2 := [(0, .inr (10, 0)), (1, zi (w : Int))]) (st2 := [.inr (10, 0)]) rfl ?_
  refine zX.sn 1 (pc2 := 2) (l2 := [(0, .inr (10, 0)), (1, zi (w : Int))]) (st2 := [zi (w : Int), .inr (10, 0)]) rfl ?_
  refine zX.call (mid2 := 133) (as := [.inr (10, 0), zi (w : Int)]) (rest := []) ⟨rfl, rfl⟩ (fun _ => rfl) (zX.inv rfl hf rfl rfl) ⟨Nat.le_of_ble_eq_true rfl, Nat.le_of_ble_eq_true rfl⟩ ?_
  refine s_needW hwl ?_
  show zX _ 125 5 [(0, .inr (10, 0)), (1, zi (w : Int))] [] c s _ _
  refine zX.sn 1 (pc2 := 6) (l2 := [(0, .inr (10, 0)), (1, zi (w : Int))]) (st2 := [zi 0]) rfl ?_
  refine zX.sn 1 (pc2 := 7) (l2 := [(2, zi 0), (0, .inr (10, 0)), (1, zi (w : Int))]) (st2 := []) rfl ?_
  refine zX.sn 1 (pc2 := 8) (l2 := [(2, zi 0), (0, .inr (10, 0)), (1, zi (w : Int))]) (st2 := [zi 0]) rfl ?_
  refine zX.sn 1 (pc2 := 9) (l2 := [(3, zi 0), (2, zi 0), (0, .inr (10, 0)), (1, zi (w : Int))]) (st2 := []) rfl ?_
  refine zX.re [(0, .inr (10, 0)), (1, zi (w : Int)), (2, zi 0), (3, zi 0)] [2, 3, 1, 0] [3, 2, 0, 1] rfl rfl (by decide) ?_
  exact l_load (d := d) hwr hwl hw hf hA hV 8 0 0 rfl q
end YC97
