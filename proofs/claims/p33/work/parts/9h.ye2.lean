set_option maxRecDepth 100000
section YD9h
variable {d : Nat} {Q : xR → Nat → Nat → xH → Prop}
theorem zOut.le {h : xH} {N : Nat} {out : List Int64} (ho : zOut h N out) : out.length ≤ 320000 := by
  obtain ⟨fo, h2, h3, h4, h5, h6, h7, h8⟩ := ho
  omega
theorem s_detail0 {c s : Nat} {h : xH} {x : Int64} (q : Q (.inl (some (zi (zvw x : Int)))) c s h) : zX (d + 1) 21 0 [(0, .inl (.long x)), (2, zi 0)] [] c s h Q := by
  refine zX.sn 1 (pc2 := 1) (l2 := [(0, .inl (.long x)), (2, zi 0)]) (st2 := [zi 0]) rfl ?_
  refine zX.tsw (tgt := 36) ⟨rfl, rfl⟩ (by omega) (by omega) rfl rfl ?_
  refine zX.sn 1 (pc2 := 37) (l2 := [(0, .inl (.long x)), (2, zi 0)]) (st2 := [.inl (.long x)]) rfl ?_
  refine zX.call (mid2 := 15) (as := [.inl (.long x)]) (rest := []) ⟨rfl, rfl⟩ (fun _ => rfl) rfl ⟨Nat.le_of_ble_eq_true rfl, Nat.le_of_ble_eq_true rfl⟩ ?_
  refine s_viewIn ?_
  show zX _ 21 40 [(0, .inl (.long x)), (2, zi 0)] [zi (zvw x : Int)] c s _ _
  refine zX.ret rfl rfl ?_
  exact q
theorem s_detailAt0 {c s j N : Nat} {h : xH} {x : Int64} {out : List Int64} {fs : List xV} (hf : h (10, 0) = some (.inl (10, zFn fs))) (hO : zOut h N out) (hx : out[j]? = some x) (q : Q (.inl (some (zi (zvw x : Int)))) c s h) : zX (d + 2) 143 0 [(0, .inr (10, 0)), (1, zi (j : Int)), (2, zi 0)] [] c s h Q := by
  refine zX.sn 1 (pc2 := 1) (l2 := [(0, .inr (10, 0)), (1, zi (j : Int)), (2, zi 0)]) (st2 := [zi 0]) rfl ?_
  refine zX.icmp0 (x := 0) (tgt := 9) ⟨rfl, rfl⟩ rfl (by omega) (fun (zz : (0 : Int) < 0) => absurd zz (by omega)) (fun _ => ?_)
  refine zX.sn 1 (pc2 := 5) (l2 := [(0, .inr (10, 0)), (1, zi (j : Int)), (2, zi 0)]) (st2 := [zi 0]) rfl ?_
  refine zX.sn 1 (pc2 := 6) (l2 := [(0, .inr (10, 0)), (1, zi (j : Int)), (2, zi 0)]) (st2 := [zi 5, zi 0]) rfl ?_
  refine zX.icmp (tgt := 20) ⟨rfl, rfl⟩ rfl (by omega) (by omega) (fun _ => ?_) (fun (zz : 5 < (0 : Int)) => absurd zz (by omega))
  refine zX.sn 1 (pc2 := 21) (l2 := [(0, .inr (10, 0)), (1, zi (j : Int)), (2, zi 0)]) (st2 := [.inr (10, 0)]) rfl ?_
  refine zX.getf ⟨rfl, rfl⟩ hf rfl rfl ?_
  refine zX.sn 1 (pc2 := 25) (l2 := [(0, .inr (10, 0)), (1, zi (j : Int)), (2, zi 0)]) (st2 := [zi (j : Int), .inr (2, 0)]) rfl ?_
  refine zX.call (mid2 := 12) (as := [.inr (2, 0), zi (j : Int)]) (rest := []) ⟨rfl, rfl⟩ (fun _ => rfl) (zX.inv rfl hO.ob rfl rfl) ⟨Nat.le_of_ble_eq_true rfl, Nat.le_of_ble_eq_true rfl⟩ ?_
  refine s_oat (j := j) rfl hO hx ?_
  show zX _ 143 28 [(0, .inr (10, 0)), (1, zi (j : Int)), (2, zi 0)] [.inl (.long x)] c s _ _
  refine zX.sn 1 (pc2 := 29) (l2 := [(0, .inr (10, 0)), (1, zi (j : Int)), (2, zi 0)]) (st2 := [zi 0, .inl (.long x)]) rfl ?_
  refine zX.call (mid2 := 21) (as := [.inl (.long x), zi 0]) (rest := []) ⟨rfl, rfl⟩ (fun _ => rfl) rfl ⟨Nat.le_of_ble_eq_true rfl, Nat.le_of_ble_eq_true rfl⟩ ?_
  refine s_detail0 (d := d) ?_
  show zX _ 143 32 [(0, .inr (10, 0)), (1, zi (j : Int)), (2, zi 0)] [zi (zvw x : Int)] c s _ _
  refine zX.ret rfl rfl ?_
  exact q
theorem s_waitingAt0 {c s k N pr cu pj cj : Nat} {rd ct uw : Bool} {h : xH} {x : Int64} {out : List Int64} (hf : h (10, 0) = some (.inl (10, zFn (zFf rd ct uw pr cu pj cj)))) (hO : zOut h N out) (hx : out[(if uw then cu else pr) + k]? = some x) (q : Q (.inl (some (zi (zvw x : Int)))) c s h) : zX (d + 3) 121 0 [(0, .inr (10, 0)), (1, zi (k : Int)), (2, zi 0)] [] c s h Q := by
  have hlt : (if uw then cu else pr) + k < out.length := (List.getElem?_eq_some_iff.mp hx).1
  have hle := hO.le
  refine zX.sn 1 (pc2 := 1) (l2 := [(0, .inr (10, 0)), (1, zi (k : Int)), (2, zi 0)]) (st2 := [.inr (10, 0)]) rfl ?_
  refine zX.call (mid2 := 141) (as := [.inr (10, 0)]) (rest := []) ⟨rfl, rfl⟩ (fun _ => rfl) (zX.inv rfl hf rfl rfl) ⟨Nat.le_of_ble_eq_true rfl, Nat.le_of_ble_eq_true rfl⟩ ?_
  refine s_wfrom hf ?_
  show zX _ 121 4 [(0, .inr (10, 0)), (1, zi (k : Int)), (2, zi 0)] [zi ((if uw then cu else pr : Nat) : Int)] c s _ _
  refine zX.sn 1 (pc2 := 5) (l2 := [(3, zi ((if uw then cu else pr : Nat) : Int)), (0, .inr (10, 0)), (1, zi (k : Int)), (2, zi 0)]) (st2 := []) rfl ?_
  refine zX.sn 1 (pc2 := 6) (l2 := [(3, zi ((if uw then cu else pr : Nat) : Int)), (0, .inr (10, 0)), (1, zi (k : Int)), (2, zi 0)]) (st2 := [zi (k : Int)]) rfl ?_
  refine zX.icmp0 (tgt := 22) ⟨rfl, rfl⟩ rfl (by omega) (fun (zz : (k : Int) < 0) => absurd zz (by omega)) (fun _ => ?_)
  refine zX.sn 1 (pc2 := 10) (l2 := [(3, zi ((if uw then cu else pr : Nat) : Int)), (0, .inr (10, 0)), (1, zi (k : Int)), (2, zi 0)]) (st2 := [zi (k : Int)]) rfl ?_
  refine zX.sn 1 (pc2 := 11) (l2 := [(3, zi ((if uw then cu else pr : Nat) : Int)), (0, .inr (10, 0)), (1, zi (k : Int)), (2, zi 0)]) (st2 := [.inr (10, 0), zi (k : Int)]) rfl ?_
  refine zX.getf ⟨rfl, rfl⟩ hf rfl rfl ?_
  refine zX.getf ⟨rfl, rfl⟩ hO.ob rfl rfl ?_
  refine zX.sn 1 (pc2 := 18) (l2 := [(3, zi ((if uw then cu else pr : Nat) : Int)), (0, .inr (10, 0)), (1, zi (k : Int)), (2, zi 0)]) (st2 := [zi ((if uw then cu else pr : Nat) : Int), zi (out.length : Int), zi (k : Int)]) rfl ?_
  refine zX.isub ⟨rfl, rfl⟩ ?_
  refine zX.icmp (tgt := 32) ⟨rfl, rfl⟩ rfl (by omega) (by omega) (fun _ => ?_) (fun (zz : ((out.length : Int) - ((if uw then cu else pr : Nat) : Int)) ≤ (k : Int)) => absurd zz (by omega))
  refine zX.sn 1 (pc2 := 33) (l2 := [(3, zi ((if uw then cu else pr : Nat) : Int)), (0, .inr (10, 0)), (1, zi (k : Int)), (2, zi 0)]) (st2 := [.inr (10, 0)]) rfl ?_
  refine zX.sn 1 (pc2 := 34) (l2 := [(3, zi ((if uw then cu else pr : Nat) : Int)), (0, .inr (10, 0)), (1, zi (k : Int)), (2, zi 0)]) (st2 := [zi ((if uw then cu else pr : Nat) : Int), .inr (10, 0)]) rfl ?_
  refine zX.sn 1 (pc2 := 35) (l2 := [(3, zi ((if uw then cu else pr : Nat) : Int)), (0, .inr (10, 0)), (1, zi (k : Int)), (2, zi 0)]) (st2 := [zi (k : Int), zi ((if uw then cu else pr : Nat) : Int), .inr (10, 0)]) rfl ?_
  refine zX.iadd ⟨rfl, rfl⟩ ?_
  refine zX.sn 1 (pc2 := 37) (l2 := [(3, zi ((if uw then cu else pr : Nat) : Int)), (0, .inr (10, 0)), (1, zi (k : Int)), (2, zi 0)]) (st2 := [zi 0, zi (((if uw then cu else pr : Nat) : Int) + (k : Int)), .inr (10, 0)]) rfl ?_
  have he : ((if uw then cu else pr : Nat) : Int) + (k : Int) = (((if uw then cu else pr) + k : Nat) : Int) := rfl
  rw [he]
  refine zX.call (mid2 := 143) (as := [.inr (10, 0), zi (((if uw then cu else pr) + k : Nat) : Int), zi 0]) (rest := []) ⟨rfl, rfl⟩ (fun _ => rfl) (zX.inv rfl hf rfl rfl) ⟨Nat.le_of_ble_eq_true rfl, Nat.le_of_ble_eq_true rfl⟩ ?_
  refine s_detailAt0 (d := d) hf hO hx ?_
  show zX _ 121 40 [(3, zi ((if uw then cu else pr : Nat) : Int)), (0, .inr (10, 0)), (1, zi (k : Int)), (2, zi 0)] [zi (zvw x : Int)] c s _ _
  refine zX.ret rfl rfl ?_
  exact q
theorem s_detail5 {c s : Nat} {h : xH} {x : Int64} (q : Q (.inl (some (zi (zsg x)))) c s h) : zX (d + 1) 21 0 [(0, .inl (.long x)), (2, zi 5)] [] c s h Q := by
  refine zX.sn 1 (pc2 := 1) (l2 := [(0, .inl (.long x)), (2, zi 5)]) (st2 := [zi 5]) rfl ?_
  refine zX.tswd (tgt := 61) ⟨rfl, rfl⟩ (by omega) (by omega) rfl ?_
  refine zX.sn 1 (pc2 := 62) (l2 := [(0, .inl (.long x)), (2, zi 5)]) (st2 := [.inl (.long x)]) rfl ?_
  refine zX.call (mid2 := 20) (as := [.inl (.long x)]) (rest := []) ⟨rfl, rfl⟩ (fun _ => rfl) rfl ⟨Nat.le_of_ble_eq_true rfl, Nat.le_of_ble_eq_true rfl⟩ ?_
  refine s_signIn ?_
  show zX _ 21 65 [(0, .inl (.long x)), (2, zi 5)] [zi (zsg x)] c s _ _
  refine zX.ret rfl rfl ?_
  exact q
theorem s_detailAt5 {c s j N : Nat} {h : xH} {x : Int64} {out : List Int64} {fs : List xV} (hf : h (10, 0) = some (.inl (10, zFn fs))) (hO : zOut h N out) (hx : out[j]? = some x) (q : Q (.inl (some (zi (zsg x)))) c s h) : zX (d + 2) 143 0 [(0, .inr (10, 0)), (1, zi (j : Int)), (2, zi 5)] [] c s h Q := by
  refine zX.sn 1 (pc2 := 1) (l2 := [(0, .inr (10, 0)), (1, zi (j : Int)), (2, zi 5)]) (st2 := [zi 5]) rfl ?_
  refine zX.icmp0 (x := 5) (tgt := 9) ⟨rfl, rfl⟩ rfl (by omega) (fun (zz : (5 : Int) < 0) => absurd zz (by omega)) (fun _ => ?_)
  refine zX.sn 1 (pc2 := 5) (l2 := [(0, .inr (10, 0)), (1, zi (j : Int)), (2, zi 5)]) (st2 := [zi 5]) rfl ?_
  refine zX.sn 1 (pc2 := 6) (l2 := [(0, .inr (10, 0)), (1, zi (j : Int)), (2, zi 5)]) (st2 := [zi 5, zi 5]) rfl ?_
  refine zX.icmp (tgt := 20) ⟨rfl, rfl⟩ rfl (by omega) (by omega) (fun _ => ?_) (fun (zz : 5 < (5 : Int)) => absurd zz (by omega))
  refine zX.sn 1 (pc2 := 21) (l2 := [(0, .inr (10, 0)), (1, zi (j : Int)), (2, zi 5)]) (st2 := [.inr (10, 0)]) rfl ?_
  refine zX.getf ⟨rfl, rfl⟩ hf rfl rfl ?_
  refine zX.sn 1 (pc2 := 25) (l2 := [(0, .inr (10, 0)), (1, zi (j : Int)), (2, zi 5)]) (st2 := [zi (j : Int), .inr (2, 0)]) rfl ?_
  refine zX.call (mid2 := 12) (as := [.inr (2, 0), zi (j : Int)]) (rest := []) ⟨rfl, rfl⟩ (fun _ => rfl) (zX.inv rfl hO.ob rfl rfl) ⟨Nat.le_of_ble_eq_true rfl, Nat.le_of_ble_eq_true rfl⟩ ?_
  refine s_oat (j := j) rfl hO hx ?_
  show zX _ 143 28 [(0, .inr (10, 0)), (1, zi (j : Int)), (2, zi 5)] [.inl (.long x)] c s _ _
  refine zX.sn 1 (pc2 := 29) (l2 := [(0, .inr (10, 0)), (1, zi (j : Int)), (2, zi 5)]) (st2 := [zi 5, .inl (.long x)]) rfl ?_
  refine zX.call (mid2 := 21) (as := [.inl (.long x), zi 5]) (rest := []) ⟨rfl, rfl⟩ (fun _ => rfl) rfl ⟨Nat.le_of_ble_eq_true rfl, Nat.le_of_ble_eq_true rfl⟩ ?_
  refine s_detail5 (d := d) ?_
  show zX _ 143 32 [(0, .inr (10, 0)), (1, zi (j : Int)), (2, zi 5)] [zi (zsg x)] c s _ _
  refine zX.ret rfl rfl ?_
  exact q
theorem s_waitingAt5 {c s k N pr cu pj cj : Nat} {rd ct uw : Bool} {h : xH} {x : Int64} {out : List Int64} (hf : h (10, 0) = some (.inl (10, zFn (zFf rd ct uw pr cu pj cj)))) (hO : zOut h N out) (hx : out[(if uw then cu else pr) + k]? = some x) (q : Q (.inl (some (zi (zsg x)))) c s h) : zX (d + 3) 121 0 [(0, .inr (10, 0)), (1, zi (k : Int)), (2, zi 5)] [] c s h Q := by
  have hlt : (if uw then cu else pr) + k < out.length := (List.getElem?_eq_some_iff.mp hx).1
  have hle := hO.le
  refine zX.sn 1 (pc2 := 1) (l2 := [(0, .inr (10, 0)), (1, zi (k : Int)), (2, zi 5)]) (st2 := [.inr (10, 0)]) rfl ?_
  refine zX.call (mid2 := 141) (as := [.inr (10, 0)]) (rest := []) ⟨rfl, rfl⟩ (fun _ => rfl) (zX.inv rfl hf rfl rfl) ⟨Nat.le_of_ble_eq_true rfl, Nat.le_of_ble_eq_true rfl⟩ ?_
  refine s_wfrom hf ?_
  show zX _ 121 4 [(0, .inr (10, 0)), (1, zi (k : Int)), (2, zi 5)] [zi ((if uw then cu else pr : Nat) : Int)] c s _ _
  refine zX.sn 1 (pc2 := 5) (l2 := [(3, zi ((if uw then cu else pr : Nat) : Int)), (0, .inr (10, 0)), (1, zi (k : Int)), (2, zi 5)]) (st2 := []) rfl ?_
  refine zX.sn 1 (pc2 := 6) (l2 := [(3, zi ((if uw then cu else pr : Nat) : Int)), (0, .inr (10, 0)), (1, zi (k : Int)), (2, zi 5)]) (st2 := [zi (k : Int)]) rfl ?_
  refine zX.icmp0 (tgt := 22) ⟨rfl, rfl⟩ rfl (by omega) (fun (zz : (k : Int) < 0) => absurd zz (by omega)) (fun _ => ?_)
  refine zX.sn 1 (pc2 := 10) (l2 := [(3, zi ((if uw then cu else pr : Nat) : Int)), (0, .inr (10, 0)), (1, zi (k : Int)), (2, zi 5)]) (st2 := [zi (k : Int)]) rfl ?_
  refine zX.sn 1 (pc2 := 11) (l2 := [(3, zi ((if uw then cu else pr : Nat) : Int)), (0, .inr (10, 0)), (1, zi (k : Int)), (2, zi 5)]) (st2 := [.inr (10, 0), zi (k : Int)]) rfl ?_
  refine zX.getf ⟨rfl, rfl⟩ hf rfl rfl ?_
  refine zX.getf ⟨rfl, rfl⟩ hO.ob rfl rfl ?_
  refine zX.sn 1 (pc2 := 18) (l2 := [(3, zi ((if uw then cu else pr : Nat) : Int)), (0, .inr (10, 0)), (1, zi (k : Int)), (2, zi 5)]) (st2 := [zi ((if uw then cu else pr : Nat) : Int), zi (out.length : Int), zi (k : Int)]) rfl ?_
  refine zX.isub ⟨rfl, rfl⟩ ?_
  refine zX.icmp (tgt := 32) ⟨rfl, rfl⟩ rfl (by omega) (by omega) (fun _ => ?_) (fun (zz : ((out.length : Int) - ((if uw then cu else pr : Nat) : Int)) ≤ (k : Int)) => absurd zz (by omega))
  refine zX.sn 1 (pc2 := 33) (l2 := [(3, zi ((if uw then cu else pr : Nat) : Int)), (0, .inr (10, 0)), (1, zi (k : Int)), (2, zi 5)]) (st2 := [.inr (10, 0)]) rfl ?_
  refine zX.sn 1 (pc2 := 34) (l2 := [(3, zi ((if uw then cu else pr : Nat) : Int)), (0, .inr (10, 0)), (1, zi (k : Int)), (2, zi 5)]) (st2 := [zi ((if uw then cu else pr : Nat) : Int), .inr (10, 0)]) rfl ?_
  refine zX.sn 1 (pc2 := 35) (l2 := [(3, zi ((if uw then cu else pr : Nat) : Int)), (0, .inr (10, 0)), (1, zi (k : Int)), (2, zi 5)]) (st2 := [zi (k : Int), zi ((if uw then cu else pr : Nat) : Int), .inr (10, 0)]) rfl ?_
  refine zX.iadd ⟨rfl, rfl⟩ ?_
  refine zX.sn 1 (pc2 := 37) (l2 := [(3, zi ((if uw then cu else pr : Nat) : Int)), (0, .inr (10, 0)), (1, zi (k : Int)), (2, zi 5)]) (st2 := [zi 5, zi (((if uw then cu else pr : Nat) : Int) + (k : Int)), .inr (10, 0)]) rfl ?_
  have he : ((if uw then cu else pr : Nat) : Int) + (k : Int) = (((if uw then cu else pr) + k : Nat) : Int) := rfl
  rw [he]
  refine zX.call (mid2 := 143) (as := [.inr (10, 0), zi (((if uw then cu else pr) + k : Nat) : Int), zi 5]) (rest := []) ⟨rfl, rfl⟩ (fun _ => rfl) (zX.inv rfl hf rfl rfl) ⟨Nat.le_of_ble_eq_true rfl, Nat.le_of_ble_eq_true rfl⟩ ?_
  refine s_detailAt5 (d := d) hf hO hx ?_
  show zX _ 121 40 [(3, zi ((if uw then cu else pr : Nat) : Int)), (0, .inr (10, 0)), (1, zi (k : Int)), (2, zi 5)] [zi (zsg x)] c s _ _
  refine zX.ret rfl rfl ?_
  exact q
theorem s_promisedSum {capv i c s : Nat} {fs : List xV} {L : zVL} {h : xH} {ps : Nat → Int32} (hi : i < L.length) (hl : L.length ≤ 5) (hf : h (10, 0) = some (.inl (10, zFn fs))) (hA : zAL h 13 0 capv (zVn L)) (hps : h (18, 0) = some (.inr (0, 5, zI ps))) (q : Q (.inl (some (.inl (.int (ps i))))) c s h) : zX (d + 1) 122 0 [(0, .inr (10, 0)), (1, zi (i : Int))] [] c s h Q := by
  have hnl : (zVn L).length = L.length := zVn_len
  refine zX.sn 1 (pc2 := 1) (l2 := [(0, .inr (10, 0)), (1, zi (i : Int))]) (st2 := [zi (i : Int)]) rfl ?_
  refine zX.icmp0 (tgt := 24) ⟨rfl, rfl⟩ rfl (by omega) (fun (zz : (i : Int) < 0) => absurd zz (by omega)) (fun _ => ?_)
  refine zX.sn 1 (pc2 := 5) (l2 := [(0, .inr (10, 0)), (1, zi (i : Int))]) (st2 := [zi (i : Int)]) rfl ?_
  refine zX.sn 1 (pc2 := 6) (l2 := [(0, .inr (10, 0)), (1, zi (i : Int))]) (st2 := [.inr (10, 0), zi (i : Int)]) rfl ?_
  refine zX.getf ⟨rfl, rfl⟩ hf rfl rfl ?_
  refine zX.call (mid2 := 150) (as := [.inr (13, 0)]) (rest := [zi (i : Int)]) ⟨rfl, rfl⟩ (fun _ => rfl) (zX.invA rfl hA rfl rfl) ⟨Nat.le_of_ble_eq_true rfl, Nat.le_of_ble_eq_true rfl⟩ ?_
  refine s_size hA ?_
  show zX _ 122 12 [(0, .inr (10, 0)), (1, zi (i : Int))] [zi ((zVn L).length : Int), zi (i : Int)] c s _ _
  refine zX.icmp (tgt := 24) ⟨rfl, rfl⟩ rfl (by omega) (by omega) (fun (zz : ((zVn L).length : Int) ≤ (i : Int)) => absurd zz (by omega)) (fun _ => ?_)
  refine zX.sn 1 (pc2 := 16) (l2 := [(0, .inr (10, 0)), (1, zi (i : Int))]) (st2 := [zi (i : Int)]) rfl ?_
  refine zX.sn 1 (pc2 := 17) (l2 := [(0, .inr (10, 0)), (1, zi (i : Int))]) (st2 := [.inr (10, 0), zi (i : Int)]) rfl ?_
  refine zX.getf ⟨rfl, rfl⟩ hf rfl rfl ?_
  refine zX.alen ⟨rfl, rfl⟩ hps ?_
  refine zX.icmp (tgt := 35) ⟨rfl, rfl⟩ rfl (by omega) (by omega) (fun _ => ?_) (fun (zz : ((5 : Nat) : Int) ≤ (i : Int)) => absurd zz (by omega))
  refine zX.sn 1 (pc2 := 36) (l2 := [(0, .inr (10, 0)), (1, zi (i : Int))]) (st2 := [.inr (10, 0)]) rfl ?_
  refine zX.getf ⟨rfl, rfl⟩ hf rfl rfl ?_
  refine zX.sn 1 (pc2 := 40) (l2 := [(0, .inr (10, 0)), (1, zi (i : Int))]) (st2 := [zi (i : Int), .inr (18, 0)]) rfl ?_
  refine zX.iald (j := i) ⟨rfl, rfl⟩ hps rfl (by omega) (by omega) ?_
  show zX _ 122 41 [(0, .inr (10, 0)), (1, zi (i : Int))] [.inl (.int (ps i))] c s _ _
  refine zX.ret rfl rfl ?_
  exact q
/-- outputs are counted as promised -/
def zcp1 (ps : Nat → Int32) (x : Int64) : Nat → Int32 := if zvw x < 5 then zAd ps (zvw x) (Int32.ofInt (zsg x)) else ps
def zcp (out : List Int64) (ps : Nat → Int32) : Nat → Int32 := out.foldl zcp1 ps
theorem l_countP {m N c s : Nat} {fs : List xV} {out : List Int64} {x1 : Int} (hm : m ≤ out.length) : ∀ (n i : Nat) (ps : Nat → Int32) (h : xH), n = m - i → h (10, 0) = some (.inl (10, zFn fs)) → zOut h N out → h (18, 0) = some (.inr (0, 5, zI ps)) →
    (∀ h1 : xH, h1 (18, 0) = some (.inr (0, 5, zI (zcp ((out.drop i).take (m - i)) ps))) → (∀ a b : Nat, ¬ (a = 18 ∧ b = 0) → h1 (a, b) = h (a, b)) → Q (.inl none) c s h1) → i ≤ m + 0 → zX (d + 1) 142 2 [(0, .inr (10, 0)), (1, zi x1), (2, zi (m : Int)), (3, zi (i : Int))] [] c s h Q := by
  intro n
  induction n with
  | zero =>
    intro i ps h hi hf hO hps q him
    have hle := hO.le
    refine zX.sn 1 (pc2 := 3) (l2 := [(0, .inr (10, 0)), (1, zi x1), (2, zi (m : Int)), (3, zi (i : Int))]) (st2 := [zi (i : Int)]) rfl ?_
    refine zX.sn 1 (pc2 := 4) (l2 := [(0, .inr (10, 0)), (1, zi x1), (2, zi (m : Int)), (3, zi (i : Int))]) (st2 := [zi (m : Int), zi (i : Int)]) rfl ?_
    refine zX.icmp (tgt := 60) ⟨rfl, rfl⟩ rfl (by omega) (by omega) (fun _ => ?_) (fun (zz : (i : Int) < (m : Int)) => absurd zz (by omega))
    refine zX.ret rfl rfl ?_
    rw [show (out.drop i).take (m - i) = [] from by rw [show m - i = 0 from by omega]; rfl] at q
    exact q h hps (fun _ _ _ => rfl)
  | succ n ih =>
    intro i ps h hi hf hO hps q him
    have hle := hO.le
    have hlt : i < out.length := by omega
    have hx := List.getElem?_eq_getElem hlt
    generalize out[i] = x at hx
    have hdt : (out.drop i).take (m - i) = x :: (out.drop (i + 1)).take (m - (i + 1)) := by
      rw [List.drop_eq_getElem_cons hlt, show m - i = (m - (i + 1)) + 1 from by omega, List.take_succ_cons]
      rw [(List.getElem?_eq_some_iff.mp hx).2]
    rw [hdt] at q
    have stp : zcp (x :: (out.drop (i + 1)).take (m - (i + 1))) ps = zcp ((out.drop (i + 1)).take (m - (i + 1))) (zcp1 ps x) := rfl
    rw [stp] at q
    have h7 := zvw_le x
    refine zX.sn 1 (pc2 := 3) (l2 := [(0, .inr (10, 0)), (1, zi x1), (2, zi (m : Int)), (3, zi (i : Int))]) (st2 := [zi (i : Int)]) rfl ?_
    refine zX.sn 1 (pc2 := 4) (l2 := [(0, .inr (10, 0)), (1, zi x1), (2, zi (m : Int)), (3, zi (i : Int))]) (st2 := [zi (m : Int), zi (i : Int)]) rfl ?_
    refine zX.icmp (tgt := 60) ⟨rfl, rfl⟩ rfl (by omega) (by omega) (fun (zz : (m : Int) ≤ (i : Int)) => absurd zz (by omega)) (fun _ => ?_)
    refine zX.sn 1 (pc2 := 8) (l2 := [(0, .inr (10, 0)), (1, zi x1), (2, zi (m : Int)), (3, zi (i : Int))]) (st2 := [.inr (10, 0)]) rfl ?_
    refine zX.getf ⟨rfl, rfl⟩ hf rfl rfl ?_
    refine zX.sn 1 (pc2 := 12) (l2 := [(0, .inr (10, 0)), (1, zi x1), (2, zi (m : Int)), (3, zi (i : Int))]) (st2 := [zi (i : Int), .inr (2, 0)]) rfl ?_
    refine zX.call (mid2 := 12) (as := [.inr (2, 0), zi (i : Int)]) (rest := []) ⟨rfl, rfl⟩ (fun _ => rfl) (zX.inv rfl hO.ob rfl rfl) ⟨Nat.le_of_ble_eq_true rfl, Nat.le_of_ble_eq_true rfl⟩ ?_
    refine s_oat (j := i) rfl hO hx ?_
    show zX _ 142 15 [(0, .inr (10, 0)), (1, zi x1), (2, zi (m : Int)), (3, zi (i : Int))] [.inl (.long x)] c s _ _
    refine zX.sn 1 (pc2 := 17) (l2 := [(4, .inl (.long x)), (0, .inr (10, 0)), (1, zi x1), (2, zi (m : Int)), (3, zi (i : Int))]) (st2 := []) rfl ?_
    refine zX.sn 1 (pc2 := 19) (l2 := [(4, .inl (.long x)), (0, .inr (10, 0)), (1, zi x1), (2, zi (m : Int)), (3, zi (i : Int))]) (st2 := [.inl (.long x)]) rfl ?_
    refine zX.call (mid2 := 15) (as := [.inl (.long x)]) (rest := []) ⟨rfl, rfl⟩ (fun _ => rfl) rfl ⟨Nat.le_of_ble_eq_true rfl, Nat.le_of_ble_eq_true rfl⟩ ?_
    refine s_viewIn ?_
    show zX _ 142 22 [(4, .inl (.long x)), (0, .inr (10, 0)), (1, zi x1), (2, zi (m : Int)), (3, zi (i : Int))] [zi (zvw x : Int)] c s _ _
    refine zX.sn 1 (pc2 := 24) (l2 := [(6, zi (zvw x : Int)), (4, .inl (.long x)), (0, .inr (10, 0)), (1, zi x1), (2, zi (m : Int)), (3, zi (i : Int))]) (st2 := []) rfl ?_
    refine zX.sn 1 (pc2 := 26) (l2 := [(6, zi (zvw x : Int)), (4, .inl (.long x)), (0, .inr (10, 0)), (1, zi x1), (2, zi (m : Int)), (3, zi (i : Int))]) (st2 := [zi (zvw x : Int)]) rfl ?_
    refine zX.icmp0 (tgt := 54) ⟨rfl, rfl⟩ rfl (by omega) (fun (zz : (zvw x : Int) < 0) => absurd zz (by omega)) (fun _ => ?_)
    refine zX.sn 1 (pc2 := 31) (l2 := [(6, zi (zvw x : Int)), (4, .inl (.long x)), (0, .inr (10, 0)), (1, zi x1), (2, zi (m : Int)), (3, zi (i : Int))]) (st2 := [zi (zvw x : Int)]) rfl ?_
    refine zX.sn 1 (pc2 := 32) (l2 := [(6, zi (zvw x : Int)), (4, .inl (.long x)), (0, .inr (10, 0)), (1, zi x1), (2, zi (m : Int)), (3, zi (i : Int))]) (st2 := [.inr (10, 0), zi (zvw x : Int)]) rfl ?_
    refine zX.getf ⟨rfl, rfl⟩ hf rfl rfl ?_
    refine zX.alen ⟨rfl, rfl⟩ hps ?_
    refine zX.icmp (tgt := 54) ⟨rfl, rfl⟩ rfl (by omega) (by omega) (fun (z : ((5 : Nat) : Int) ≤ (zvw x : Int)) => ?_) (fun (z : (zvw x : Int) < ((5 : Nat) : Int)) => ?_)
    · refine zX.s1 (pc2 := 57) (l2 := [(3, zi ((i : Int) + 1)), (6, zi (zvw x : Int)), (4, .inl (.long x)), (0, .inr (10, 0)), (1, zi x1), (2, zi (m : Int))]) (st2 := []) ⟨rfl, rfl⟩ (by rw [show (zi ((i : Int) + 1) : xV) = .inl (.int (Int32.ofInt (i : Int) + 1)) from congrArg (fun z => (.inl (.int z) : xV)) (Int32.ofInt_add _ _)]; rfl) ?_
      refine zX.sn 1 (pc2 := 2) (l2 := [(3, zi ((i : Int) + 1)), (6, zi (zvw x : Int)), (4, .inl (.long x)), (0, .inr (10, 0)), (1, zi x1), (2, zi (m : Int))]) (st2 := []) rfl ?_
      refine zX.re [(0, .inr (10, 0)), (1, zi x1), (2, zi (m : Int)), (3, zi ((i : Int) + 1))] [3, 4, 5, 0] [3, 6, 4, 0, 1, 2] rfl rfl (by decide) ?_
      rw [show zcp1 ps x = ps from if_neg (by omega)] at q
      exact ih (i + 1) ps h (by omega) hf hO hps q (by omega)
    · refine zX.sn 1 (pc2 := 40) (l2 := [(6, zi (zvw x : Int)), (4, .inl (.long x)), (0, .inr (10, 0)), (1, zi x1), (2, zi (m : Int)), (3, zi (i : Int))]) (st2 := [.inr (10, 0)]) rfl ?_
      refine zX.getf ⟨rfl, rfl⟩ hf rfl rfl ?_
      refine zX.sn 1 (pc2 := 45) (l2 := [(6, zi (zvw x : Int)), (4, .inl (.long x)), (0, .inr (10, 0)), (1, zi x1), (2, zi (m : Int)), (3, zi (i : Int))]) (st2 := [zi (zvw x : Int), .inr (18, 0)]) rfl ?_
      refine zX.sn 1 (pc2 := 46) (l2 := [(6, zi (zvw x : Int)), (4, .inl (.long x)), (0, .inr (10, 0)), (1, zi x1), (2, zi (m : Int)), (3, zi (i : Int))]) (st2 := [zi (zvw x : Int), .inr (18, 0), zi (zvw x : Int), .inr (18, 0)]) rfl ?_
      refine zX.iald (j := zvw x) ⟨rfl, rfl⟩ hps rfl (by omega) (by omega) ?_
      show zX _ 142 47 [(6, zi (zvw x : Int)), (4, .inl (.long x)), (0, .inr (10, 0)), (1, zi x1), (2, zi (m : Int)), (3, zi (i : Int))] [.inl (.int (ps (zvw x))), zi (zvw x : Int), .inr (18, 0)] c s _ _
      refine zX.sn 1 (pc2 := 49) (l2 := [(6, zi (zvw x : Int)), (4, .inl (.long x)), (0, .inr (10, 0)), (1, zi x1), (2, zi (m : Int)), (3, zi (i : Int))]) (st2 := [.inl (.long x), .inl (.int (ps (zvw x))), zi (zvw x : Int), .inr (18, 0)]) rfl ?_
      refine zX.call (mid2 := 20) (as := [.inl (.long x)]) (rest := [.inl (.int (ps (zvw x))), zi (zvw x : Int), .inr (18, 0)]) ⟨rfl, rfl⟩ (fun _ => rfl) rfl ⟨Nat.le_of_ble_eq_true rfl, Nat.le_of_ble_eq_true rfl⟩ ?_
      refine s_signIn ?_
      show zX _ 142 52 [(6, zi (zvw x : Int)), (4, .inl (.long x)), (0, .inr (10, 0)), (1, zi x1), (2, zi (m : Int)), (3, zi (i : Int))] [zi (zsg x), .inl (.int (ps (zvw x))), zi (zvw x : Int), .inr (18, 0)] c s _ _
      refine zX.sn 1 (pc2 := 53) (l2 := [(6, zi (zvw x : Int)), (4, .inl (.long x)), (0, .inr (10, 0)), (1, zi x1), (2, zi (m : Int)), (3, zi (i : Int))]) (st2 := [.inl (.int ((ps (zvw x)) + (Int32.ofInt (zsg x)))), zi (zvw x : Int), .inr (18, 0)]) rfl ?_
      refine zX.iast (j := zvw x) ⟨rfl, rfl⟩ hps (by decide) rfl (by omega) (by omega) ?_
      generalize hh1 : xup h (18, 0) _ = h1
      have hs1 : h1 (18, 0) = some (.inr (0, 5, zI (zcp1 ps x))) := by
        rw [← hh1, show zcp1 ps x = zAd ps (zvw x) (Int32.ofInt (zsg x)) from if_pos (by omega)]
        exact zup_s
      have hn1 : ∀ a b : Nat, ¬ (a = 18 ∧ b = 0) → h1 (a, b) = h (a, b) := fun a b hn => by
        rw [← hh1]
        exact zup_n (zn (by omega)) rfl
      show zX _ 142 54 [(6, zi (zvw x : Int)), (4, .inl (.long x)), (0, .inr (10, 0)), (1, zi x1), (2, zi (m : Int)), (3, zi (i : Int))] [] c s _ _
      refine zX.s1 (pc2 := 57) (l2 := [(3, zi ((i : Int) + 1)), (6, zi (zvw x : Int)), (4, .inl (.long x)), (0, .inr (10, 0)), (1, zi x1), (2, zi (m : Int))]) (st2 := []) ⟨rfl, rfl⟩ (by rw [show (zi ((i : Int) + 1) : xV) = .inl (.int (Int32.ofInt (i : Int) + 1)) from congrArg (fun z => (.inl (.int z) : xV)) (Int32.ofInt_add _ _)]; rfl) ?_
      refine zX.sn 1 (pc2 := 2) (l2 := [(3, zi ((i : Int) + 1)), (6, zi (zvw x : Int)), (4, .inl (.long x)), (0, .inr (10, 0)), (1, zi x1), (2, zi (m : Int))]) (st2 := []) rfl ?_
      refine zX.re [(0, .inr (10, 0)), (1, zi x1), (2, zi (m : Int)), (3, zi ((i : Int) + 1))] [3, 4, 5, 0] [3, 6, 4, 0, 1, 2] rfl rfl (by decide) ?_
      exact ih (i + 1) (zcp1 ps x) h1 (by omega) ((hn1 _ _ (by omega)).trans hf) (hO.fr (fun a b z => hn1 a b (by omega))) hs1 (fun h2 d1 d2 => q h2 d1 (fun a b hn => (d2 a b hn).trans (hn1 a b hn))) (by omega)
theorem s_countP {i m N c s : Nat} {fs : List xV} {out : List Int64} {ps : Nat → Int32} {h : xH} (him : i ≤ m) (hm : m ≤ out.length) (hf : h (10, 0) = some (.inl (10, zFn fs))) (hO : zOut h N out) (hps : h (18, 0) = some (.inr (0, 5, zI ps)))
    (q : ∀ h1 : xH, h1 (18, 0) = some (.inr (0, 5, zI (zcp ((out.drop i).take (m - i)) ps))) → (∀ a b : Nat, ¬ (a = 18 ∧ b = 0) → h1 (a, b) = h (a, b)) → Q (.inl none) c s h1) : zX (d + 1) 142 0 [(0, .inr (10, 0)), (1, zi (i : Int)), (2, zi (m : Int))] [] c s h Q := by
  refine zX.sn 1 (pc2 := 1) (l2 := [(0, .inr (10, 0)), (1, zi (i : Int)), (2, zi (m : Int))]) (st2 := [zi (i : Int)]) rfl ?_
  refine zX.sn 1 (pc2 := 2) (l2 := [(3, zi (i : Int)), (0, .inr (10, 0)), (1, zi (i : Int)), (2, zi (m : Int))]) (st2 := []) rfl ?_
  refine zX.re [(0, .inr (10, 0)), (1, zi (i : Int)), (2, zi (m : Int)), (3, zi (i : Int))] [1, 2, 3, 0] [3, 0, 1, 2] rfl rfl (by decide) ?_
  exact l_countP hm (m - i) i ps h rfl hf hO hps q (by omega)
theorem s_complete {N c s pr cu pj cj : Nat} {rd ct : Bool} {h : xH} {out : List Int64} {ps : Nat → Int32} (him : pr ≤ cu) (hm : cu ≤ out.length) (hO : zOut h N out) (hf : h (10, 0) = some (.inl (10, zFn (zFf rd ct true pr cu pj cj)))) (hps : h (18, 0) = some (.inr (0, 5, zI ps)))
    (q : ∀ h1 : xH, h1 (10, 0) = some (.inl (10, zFn (zFf rd ct false cu cu cj cj))) → h1 (18, 0) = some (.inr (0, 5, zI (zcp ((out.drop pr).take (cu - pr)) ps))) → (∀ a b : Nat, ¬ (a = 10 ∧ b = 0 ∨ a = 18 ∧ b = 0) → h1 (a, b) = h (a, b)) → Q (.inl (some (zi (cu : Int)))) c s h1) : zX (d + 2) 117 0 [(0, .inr (10, 0))] [] c s h Q := by
  refine zX.sn 1 (pc2 := 1) (l2 := [(0, .inr (10, 0))]) (st2 := [.inr (10, 0)]) rfl ?_
  refine zX.getf ⟨rfl, rfl⟩ hf rfl rfl ?_
  show zX _ 117 4 [(0, .inr (10, 0))] [zi 1] c s _ _
  refine zX.icmp0 (x := 1) (tgt := 17) ⟨rfl, rfl⟩ rfl (by omega) (fun _ => ?_) (fun (zz : (1 : Int) = 0) => absurd zz (by omega))
  refine zX.sn 1 (pc2 := 18) (l2 := [(0, .inr (10, 0))]) (st2 := [.inr (10, 0)]) rfl ?_
  refine zX.sn 1 (pc2 := 19) (l2 := [(0, .inr (10, 0))]) (st2 := [zi 0, .inr (10, 0)]) rfl ?_
  refine zX.putf ⟨rfl, rfl⟩ hf rfl (by decide) rfl ?_
  show zX _ 117 22 [(0, .inr (10, 0))] [] c s (xup h (10, 0) (.inl (10, zFn (zFf rd ct false pr cu pj cj)))) _
  generalize hh1 : xup h (10, 0) (.inl (10, zFn (zFf rd ct false pr cu pj cj))) = h1
  have hs1 : h1 (10, 0) = some (.inl (10, zFn (zFf rd ct false pr cu pj cj))) := by
    rw [← hh1]
    exact zup_s
  have hn1 : ∀ a b : Nat, ¬ (a = 10 ∧ b = 0) → h1 (a, b) = h (a, b) := fun a b hn => by
    rw [← hh1]
    exact zup_n (zn (by omega)) rfl
  have hO1 : zOut h1 N out := hO.fr (fun a b z => hn1 a b (by omega))
  have hp1 := (hn1 18 0 (by omega)).trans hps
  refine zX.sn 1 (pc2 := 23) (l2 := [(0, .inr (10, 0))]) (st2 := [.inr (10, 0)]) rfl ?_
  refine zX.sn 1 (pc2 := 24) (l2 := [(0, .inr (10, 0))]) (st2 := [.inr (10, 0), .inr (10, 0)]) rfl ?_
  refine zX.getf ⟨rfl, rfl⟩ hs1 rfl rfl ?_
  refine zX.sn 1 (pc2 := 28) (l2 := [(0, .inr (10, 0))]) (st2 := [.inr (10, 0), zi (pr : Int), .inr (10, 0)]) rfl ?_
  refine zX.getf ⟨rfl, rfl⟩ hs1 rfl rfl ?_
  refine zX.call (mid2 := 142) (as := [.inr (10, 0), zi (pr : Int), zi (cu : Int)]) (rest := []) ⟨rfl, rfl⟩ (fun _ => rfl) (zX.inv rfl hs1 rfl rfl) ⟨Nat.le_of_ble_eq_true rfl, Nat.le_of_ble_eq_true rfl⟩ ?_
  refine s_countP (d := d) him hm hs1 hO1 hp1 (fun h2 a1 a2 => ?_)
  show zX _ 117 34 [(0, .inr (10, 0))] [] c s _ _
  have hf2 := (a2 10 0 (by omega)).trans hs1
  refine zX.sn 1 (pc2 := 35) (l2 := [(0, .inr (10, 0))]) (st2 := [.inr (10, 0)]) rfl ?_
  refine zX.sn 1 (pc2 := 36) (l2 := [(0, .inr (10, 0))]) (st2 := [.inr (10, 0), .inr (10, 0)]) rfl ?_
  refine zX.getf ⟨rfl, rfl⟩ hf2 rfl rfl ?_
  refine zX.putf ⟨rfl, rfl⟩ hf2 rfl (by decide) rfl ?_
  show zX _ 117 42 [(0, .inr (10, 0))] [] c s (xup h2 (10, 0) (.inl (10, zFn (zFf rd ct false cu cu pj cj)))) _
  generalize hh3 : xup h2 (10, 0) (.inl (10, zFn (zFf rd ct false cu cu pj cj))) = h3
  have hs3 : h3 (10, 0) = some (.inl (10, zFn (zFf rd ct false cu cu pj cj))) := by
    rw [← hh3]
    exact zup_s
  have hn3 : ∀ a b : Nat, ¬ (a = 10 ∧ b = 0) → h3 (a, b) = h2 (a, b) := fun a b hn => by
    rw [← hh3]
    exact zup_n (zn (by omega)) rfl
  refine zX.sn 1 (pc2 := 43) (l2 := [(0, .inr (10, 0))]) (st2 := [.inr (10, 0)]) rfl ?_
  refine zX.sn 1 (pc2 := 44) (l2 := [(0, .inr (10, 0))]) (st2 := [.inr (10, 0), .inr (10, 0)]) rfl ?_
  refine zX.getf ⟨rfl, rfl⟩ hs3 rfl rfl ?_
  refine zX.putf ⟨rfl, rfl⟩ hs3 rfl (by decide) rfl ?_
  show zX _ 117 50 [(0, .inr (10, 0))] [] c s (xup h3 (10, 0) (.inl (10, zFn (zFf rd ct false cu cu cj cj)))) _
  generalize hh4 : xup h3 (10, 0) (.inl (10, zFn (zFf rd ct false cu cu cj cj))) = h4
  have hs4 : h4 (10, 0) = some (.inl (10, zFn (zFf rd ct false cu cu cj cj))) := by
    rw [← hh4]
    exact zup_s
  have hn4 : ∀ a b : Nat, ¬ (a = 10 ∧ b = 0) → h4 (a, b) = h2 (a, b) := fun a b hn => by
    rw [← hh4]
    exact zup_n (zn (by omega)) (hn3 a b hn)
  refine zX.sn 1 (pc2 := 51) (l2 := [(0, .inr (10, 0))]) (st2 := [.inr (10, 0)]) rfl ?_
  refine zX.getf ⟨rfl, rfl⟩ hs4 rfl rfl ?_
  refine zX.ret rfl rfl ?_
  exact q h4 hs4 ((hn4 _ _ (by omega)).trans a1) (fun a b hn => (hn4 a b (by omega)).trans ((a2 a b (by omega)).trans (hn1 a b (by omega))))
end YD9h
