set_option maxRecDepth 100000
section ZR52
set_option maxHeartbeats 4000000 in
theorem r_bits0 {d c s : Nat} {h : xH} {Q : xR → Nat → Nat → xH → Prop} {x : UInt32} 
    (k1 : (¬ (Op.cmpValue (FP.fcmp x FP.fconst0) .l) = 0) → (¬ (Op.cmpValue (FP.fcmp x FP.fconst0) .g) < 0) → zX d 59 40 [(0, .inl (.float x)), (1, zi 0), (2, .inl (.float x)), (3, zi 127), (4, zi 0)] [] c s h Q)
    (k2 : (¬ (Op.cmpValue (FP.fcmp x FP.fconst0) .l) = 0) → ((Op.cmpValue (FP.fcmp x FP.fconst0) .g) < 0) → zX d 59 40 [(0, .inl (.float x)), (1, zi (-2147483648)), (2, .inl (.float (FP.fneg x))), (3, zi 127), (4, zi 0)] [] c s h Q)
    (k3 : ((Op.cmpValue (FP.fcmp x FP.fconst0) .l) = 0) → Q (.inl (some (zi 0))) c s h) :
    zX d 59 0 [(0, .inl (.float x))] [] c s h Q := by
  refine zX.sn 1 (pc2 := 1) (l2 := [(0, .inl (.float x))]) (st2 := [.inl (.float x)]) rfl ?_
  refine zX.sn 1 (pc2 := 2) (l2 := [(0, .inl (.float x))]) (st2 := [.inl (.float FP.fconst0), .inl (.float x)]) rfl ?_
  refine zX.sn 1 (pc2 := 3) (l2 := [(0, .inl (.float x))]) (st2 := [.inl (.int (Op.cmpValue (FP.fcmp x FP.fconst0) .l))]) rfl ?_
  refine zX.rcmp0 (tgt := 8) ⟨rfl, rfl⟩ rfl (fun (e1 : ¬ (Op.cmpValue (FP.fcmp x FP.fconst0) .l) = 0) => ?_) (fun (e1 : (Op.cmpValue (FP.fcmp x FP.fconst0) .l) = 0) => ?_)
  · refine zX.sn 1 (pc2 := 9) (l2 := [(0, .inl (.float x))]) (st2 := [.inl (.float x)]) rfl ?_
    refine zX.sn 1 (pc2 := 10) (l2 := [(0, .inl (.float x))]) (st2 := [.inl (.float FP.fconst0), .inl (.float x)]) rfl ?_
    refine zX.sn 1 (pc2 := 11) (l2 := [(0, .inl (.float x))]) (st2 := [.inl (.int (Op.cmpValue (FP.fcmp x FP.fconst0) .g))]) rfl ?_
    refine zX.rcmp0 (tgt := 19) ⟨rfl, rfl⟩ rfl (fun (e2 : ¬ (Op.cmpValue (FP.fcmp x FP.fconst0) .g) < 0) => ?_) (fun (e2 : (Op.cmpValue (FP.fcmp x FP.fconst0) .g) < 0) => ?_)
    · refine zX.sn 1 (pc2 := 20) (l2 := [(0, .inl (.float x))]) (st2 := [zi 0]) rfl ?_
      refine zX.sn 1 (pc2 := 21) (l2 := [(1, zi 0), (0, .inl (.float x))]) (st2 := []) rfl ?_
      refine zX.sn 1 (pc2 := 22) (l2 := [(1, zi 0), (0, .inl (.float x))]) (st2 := [.inl (.float x)]) rfl ?_
      refine zX.sn 1 (pc2 := 23) (l2 := [(1, zi 0), (0, .inl (.float x))]) (st2 := [.inl (.float FP.fconst0), .inl (.float x)]) rfl ?_
      refine zX.sn 1 (pc2 := 24) (l2 := [(1, zi 0), (0, .inl (.float x))]) (st2 := [.inl (.int (Op.cmpValue (FP.fcmp x FP.fconst0) .g))]) rfl ?_
      refine zX.rcmp0 (tgt := 32) ⟨rfl, rfl⟩ rfl (fun (e3 : ¬ (Op.cmpValue (FP.fcmp x FP.fconst0) .g) < 0) => ?_) (fun (zz : (Op.cmpValue (FP.fcmp x FP.fconst0) .g) < 0) => absurd zz (fun z => by first | exact z e2 | exact e2 z | omega))
      refine zX.sn 1 (pc2 := 33) (l2 := [(1, zi 0), (0, .inl (.float x))]) (st2 := [.inl (.float x)]) rfl ?_
      refine zX.sn 1 (pc2 := 34) (l2 := [(2, .inl (.float x)), (1, zi 0), (0, .inl (.float x))]) (st2 := []) rfl ?_
      refine zX.sn 1 (pc2 := 36) (l2 := [(2, .inl (.float x)), (1, zi 0), (0, .inl (.float x))]) (st2 := [zi 127]) rfl ?_
      refine zX.sn 1 (pc2 := 37) (l2 := [(3, zi 127), (2, .inl (.float x)), (1, zi 0), (0, .inl (.float x))]) (st2 := []) rfl ?_
      refine zX.sn 1 (pc2 := 38) (l2 := [(3, zi 127), (2, .inl (.float x)), (1, zi 0), (0, .inl (.float x))]) (st2 := [zi 0]) rfl ?_
      refine zX.sn 1 (pc2 := 40) (l2 := [(4, zi 0), (3, zi 127), (2, .inl (.float x)), (1, zi 0), (0, .inl (.float x))]) (st2 := []) rfl ?_
      refine zX.re [(0, .inl (.float x)), (1, zi 0), (2, .inl (.float x)), (3, zi 127), (4, zi 0)] [4, 3, 2, 1, 0] [4, 3, 2, 1, 0] rfl rfl (by decide) ?_
      exact k1 e1 e2
    · refine zX.s2 [] (pc2 := 16) (l2 := [(0, .inl (.float x))]) (st2 := [zi (-2147483648)]) ⟨rfl, rfl⟩ (fun _ => rfl) rfl (fun _ => rfl) ?_
      refine zX.sn 1 (pc2 := 20) (l2 := [(0, .inl (.float x))]) (st2 := [zi (-2147483648)]) rfl ?_
      refine zX.sn 1 (pc2 := 21) (l2 := [(1, zi (-2147483648)), (0, .inl (.float x))]) (st2 := []) rfl ?_
      refine zX.sn 1 (pc2 := 22) (l2 := [(1, zi (-2147483648)), (0, .inl (.float x))]) (st2 := [.inl (.float x)]) rfl ?_
      refine zX.sn 1 (pc2 := 23) (l2 := [(1, zi (-2147483648)), (0, .inl (.float x))]) (st2 := [.inl (.float FP.fconst0), .inl (.float x)]) rfl ?_
      refine zX.sn 1 (pc2 := 24) (l2 := [(1, zi (-2147483648)), (0, .inl (.float x))]) (st2 := [.inl (.int (Op.cmpValue (FP.fcmp x FP.fconst0) .g))]) rfl ?_
      refine zX.rcmp0 (tgt := 32) ⟨rfl, rfl⟩ rfl (fun (zz : ¬ (Op.cmpValue (FP.fcmp x FP.fconst0) .g) < 0) => absurd zz (fun z => by first | exact e2 z | exact z e2 | omega)) (fun (e4 : (Op.cmpValue (FP.fcmp x FP.fconst0) .g) < 0) => ?_)
      refine zX.sn 1 (pc2 := 28) (l2 := [(1, zi (-2147483648)), (0, .inl (.float x))]) (st2 := [.inl (.float x)]) rfl ?_
      refine zX.sn 1 (pc2 := 29) (l2 := [(1, zi (-2147483648)), (0, .inl (.float x))]) (st2 := [.inl (.float (FP.fneg x))]) rfl ?_
      refine zX.sn 1 (pc2 := 33) (l2 := [(1, zi (-2147483648)), (0, .inl (.float x))]) (st2 := [.inl (.float (FP.fneg x))]) rfl ?_
      refine zX.sn 1 (pc2 := 34) (l2 := [(2, .inl (.float (FP.fneg x))), (1, zi (-2147483648)), (0, .inl (.float x))]) (st2 := []) rfl ?_
      refine zX.sn 1 (pc2 := 36) (l2 := [(2, .inl (.float (FP.fneg x))), (1, zi (-2147483648)), (0, .inl (.float x))]) (st2 := [zi 127]) rfl ?_
      refine zX.sn 1 (pc2 := 37) (l2 := [(3, zi 127), (2, .inl (.float (FP.fneg x))), (1, zi (-2147483648)), (0, .inl (.float x))]) (st2 := []) rfl ?_
      refine zX.sn 1 (pc2 := 38) (l2 := [(3, zi 127), (2, .inl (.float (FP.fneg x))), (1, zi (-2147483648)), (0, .inl (.float x))]) (st2 := [zi 0]) rfl ?_
      refine zX.sn 1 (pc2 := 40) (l2 := [(4, zi 0), (3, zi 127), (2, .inl (.float (FP.fneg x))), (1, zi (-2147483648)), (0, .inl (.float x))]) (st2 := []) rfl ?_
      refine zX.re [(0, .inl (.float x)), (1, zi (-2147483648)), (2, .inl (.float (FP.fneg x))), (3, zi 127), (4, zi 0)] [4, 3, 2, 1, 0] [4, 3, 2, 1, 0] rfl rfl (by decide) ?_
      exact k2 e1 e2
  · refine zX.sn 1 (pc2 := 7) (l2 := [(0, .inl (.float x))]) (st2 := [zi 0]) rfl ?_
    refine zX.ret rfl rfl ?_
    exact k3 e1

set_option maxHeartbeats 4000000 in
theorem r_bits1 {d c s : Nat} {h : xH} {Q : xR → Nat → Nat → xH → Prop} {x f : UInt32} {sg : Int32} {ex : Int} {j : Nat} (hj : j ≤ 256) (hg : (FP.fdiv f FP.fconst2) &&& 0x7fffffff ≤ 0x7f800000)
    (k1 : (256 ≤ (j : Int)) → zX d 59 70 [(0, .inl (.float x)), (1, .inl (.int sg)), (2, .inl (.float f)), (3, zi ex), (4, zi 0)] [] c s h Q)
    (k2 : ((j : Int) < 256) → ((Op.cmpValue (FP.fcmp f FP.fconst2) .l) < 0) → zX d 59 70 [(0, .inl (.float x)), (1, .inl (.int sg)), (2, .inl (.float f)), (3, zi ex), (4, zi 0)] [] c s h Q)
    (k3 : ((j : Int) < 256) → (¬ (Op.cmpValue (FP.fcmp f FP.fconst2) .l) < 0) → zX d 59 40 [(0, .inl (.float x)), (1, .inl (.int sg)), (2, .inl (.float (FP.fdiv f FP.fconst2))), (3, zi (ex + 1)), (4, zi ((j : Int) + 1))] [] c s h Q) :
    zX d 59 40 [(0, .inl (.float x)), (1, .inl (.int sg)), (2, .inl (.float f)), (3, zi ex), (4, zi (j : Int))] [] c s h Q := by
  refine zX.sn 1 (pc2 := 42) (l2 := [(0, .inl (.float x)), (1, .inl (.int sg)), (2, .inl (.float f)), (3, zi ex), (4, zi (j : Int))]) (st2 := [zi (j : Int)]) rfl ?_
  refine zX.sn 1 (pc2 := 45) (l2 := [(0, .inl (.float x)), (1, .inl (.int sg)), (2, .inl (.float f)), (3, zi ex), (4, zi (j : Int))]) (st2 := [zi 256, zi (j : Int)]) rfl ?_
  refine zX.icmp (tgt := 67) ⟨rfl, rfl⟩ rfl (by omega) (by omega) (fun (e1 : 256 ≤ (j : Int)) => ?_) (fun (e1 : (j : Int) < 256) => ?_)
  · refine zX.sn 1 (pc2 := 68) (l2 := [(0, .inl (.float x)), (1, .inl (.int sg)), (2, .inl (.float f)), (3, zi ex), (4, zi (j : Int))]) (st2 := [zi 0]) rfl ?_
    refine zX.sn 1 (pc2 := 70) (l2 := [(4, zi 0), (0, .inl (.float x)), (1, .inl (.int sg)), (2, .inl (.float f)), (3, zi ex)]) (st2 := []) rfl ?_
    refine zX.re [(0, .inl (.float x)), (1, .inl (.int sg)), (2, .inl (.float f)), (3, zi ex), (4, zi 0)] [1, 2, 3, 4, 0] [4, 0, 1, 2, 3] rfl rfl (by decide) ?_
    exact k1 e1
  · refine zX.sn 1 (pc2 := 49) (l2 := [(0, .inl (.float x)), (1, .inl (.int sg)), (2, .inl (.float f)), (3, zi ex), (4, zi (j : Int))]) (st2 := [.inl (.float f)]) rfl ?_
    refine zX.sn 1 (pc2 := 50) (l2 := [(0, .inl (.float x)), (1, .inl (.int sg)), (2, .inl (.float f)), (3, zi ex), (4, zi (j : Int))]) (st2 := [.inl (.float FP.fconst2), .inl (.float f)]) rfl ?_
    refine zX.sn 1 (pc2 := 51) (l2 := [(0, .inl (.float x)), (1, .inl (.int sg)), (2, .inl (.float f)), (3, zi ex), (4, zi (j : Int))]) (st2 := [.inl (.int (Op.cmpValue (FP.fcmp f FP.fconst2) .l))]) rfl ?_
    refine zX.rcmp0 (tgt := 67) ⟨rfl, rfl⟩ rfl (fun (e2 : (Op.cmpValue (FP.fcmp f FP.fconst2) .l) < 0) => ?_) (fun (e2 : ¬ (Op.cmpValue (FP.fcmp f FP.fconst2) .l) < 0) => ?_)
    · refine zX.sn 1 (pc2 := 68) (l2 := [(0, .inl (.float x)), (1, .inl (.int sg)), (2, .inl (.float f)), (3, zi ex), (4, zi (j : Int))]) (st2 := [zi 0]) rfl ?_
      refine zX.sn 1 (pc2 := 70) (l2 := [(4, zi 0), (0, .inl (.float x)), (1, .inl (.int sg)), (2, .inl (.float f)), (3, zi ex)]) (st2 := []) rfl ?_
      refine zX.re [(0, .inl (.float x)), (1, .inl (.int sg)), (2, .inl (.float f)), (3, zi ex), (4, zi 0)] [1, 2, 3, 4, 0] [4, 0, 1, 2, 3] rfl rfl (by decide) ?_
      exact k2 e1 e2
    · refine zX.sn 1 (pc2 := 55) (l2 := [(0, .inl (.float x)), (1, .inl (.int sg)), (2, .inl (.float f)), (3, zi ex), (4, zi (j : Int))]) (st2 := [.inl (.float f)]) rfl ?_
      refine zX.sn 1 (pc2 := 56) (l2 := [(0, .inl (.float x)), (1, .inl (.int sg)), (2, .inl (.float f)), (3, zi ex), (4, zi (j : Int))]) (st2 := [.inl (.float FP.fconst2), .inl (.float f)]) rfl ?_
      refine zX.s1 (pc2 := 57) (l2 := [(0, .inl (.float x)), (1, .inl (.int sg)), (2, .inl (.float f)), (3, zi ex), (4, zi (j : Int))]) (st2 := [.inl (.float (FP.fdiv f FP.fconst2))]) ⟨rfl, rfl⟩ (if_pos hg) ?_
      refine zX.sn 1 (pc2 := 58) (l2 := [(2, .inl (.float (FP.fdiv f FP.fconst2))), (0, .inl (.float x)), (1, .inl (.int sg)), (3, zi ex), (4, zi (j : Int))]) (st2 := []) rfl ?_
      refine zX.s1 (pc2 := 61) (l2 := [(3, zi (ex + 1)), (2, .inl (.float (FP.fdiv f FP.fconst2))), (0, .inl (.float x)), (1, .inl (.int sg)), (4, zi (j : Int))]) (st2 := []) ⟨rfl, rfl⟩ (by rw [show (zi (ex + 1) : xV) = .inl (.int (Int32.ofInt ex + 1)) from congrArg (fun z => (.inl (.int z) : xV)) (Int32.ofInt_add _ _)]; rfl) ?_
      refine zX.s1 (pc2 := 64) (l2 := [(4, zi ((j : Int) + 1)), (3, zi (ex + 1)), (2, .inl (.float (FP.fdiv f FP.fconst2))), (0, .inl (.float x)), (1, .inl (.int sg))]) (st2 := []) ⟨rfl, rfl⟩ (by rw [show (zi ((j : Int) + 1) : xV) = .inl (.int (Int32.ofInt (j : Int) + 1)) from congrArg (fun z => (.inl (.int z) : xV)) (Int32.ofInt_add _ _)]; rfl) ?_
      refine zX.sn 1 (pc2 := 40) (l2 := [(4, zi ((j : Int) + 1)), (3, zi (ex + 1)), (2, .inl (.float (FP.fdiv f FP.fconst2))), (0, .inl (.float x)), (1, .inl (.int sg))]) (st2 := []) rfl ?_
      refine zX.re [(0, .inl (.float x)), (1, .inl (.int sg)), (2, .inl (.float (FP.fdiv f FP.fconst2))), (3, zi (ex + 1)), (4, zi ((j : Int) + 1))] [3, 4, 2, 1, 0] [4, 3, 2, 0, 1] rfl rfl (by decide) ?_
      exact k3 e1 e2

set_option maxHeartbeats 4000000 in
theorem r_bits2 {d c s : Nat} {h : xH} {Q : xR → Nat → Nat → xH → Prop} {x f : UInt32} {sg : Int32} {ex : Int} {j : Nat} (hj : j ≤ 256) (hg : (FP.fmul f FP.fconst2) &&& 0x7fffffff ≤ 0x7f800000) (hg1 : (FP.fsub f FP.fconst1) &&& 0x7fffffff ≤ 0x7f800000) (hg2 : (FP.fmul (FP.fsub f FP.fconst1) (UInt32.ofNat 1258291200)) &&& 0x7fffffff ≤ 0x7f800000)
    (k1 : (256 ≤ (j : Int)) → Q (.inl (some (.inl (.int ((sg ||| ((Int32.ofInt ex) <<< ((Int32.ofInt 23) &&& 31))) ||| (FP.f2i (FP.fmul (FP.fsub f FP.fconst1) (UInt32.ofNat 1258291200)))))))) c s h)
    (k2 : ((j : Int) < 256) → (¬ (Op.cmpValue (FP.fcmp f FP.fconst1) .g) < 0) → Q (.inl (some (.inl (.int ((sg ||| ((Int32.ofInt ex) <<< ((Int32.ofInt 23) &&& 31))) ||| (FP.f2i (FP.fmul (FP.fsub f FP.fconst1) (UInt32.ofNat 1258291200)))))))) c s h)
    (k3 : ((j : Int) < 256) → ((Op.cmpValue (FP.fcmp f FP.fconst1) .g) < 0) → zX d 59 70 [(0, .inl (.float x)), (1, .inl (.int sg)), (2, .inl (.float (FP.fmul f FP.fconst2))), (3, zi (ex + (-1))), (4, zi ((j : Int) + 1))] [] c s h Q) :
    zX d 59 70 [(0, .inl (.float x)), (1, .inl (.int sg)), (2, .inl (.float f)), (3, zi ex), (4, zi (j : Int))] [] c s h Q := by
  refine zX.sn 1 (pc2 := 72) (l2 := [(0, .inl (.float x)), (1, .inl (.int sg)), (2, .inl (.float f)), (3, zi ex), (4, zi (j : Int))]) (st2 := [zi (j : Int)]) rfl ?_
  refine zX.sn 1 (pc2 := 75) (l2 := [(0, .inl (.float x)), (1, .inl (.int sg)), (2, .inl (.float f)), (3, zi ex), (4, zi (j : Int))]) (st2 := [zi 256, zi (j : Int)]) rfl ?_
  refine zX.icmp (tgt := 97) ⟨rfl, rfl⟩ rfl (by omega) (by omega) (fun (e1 : 256 ≤ (j : Int)) => ?_) (fun (e1 : (j : Int) < 256) => ?_)
  · refine zX.sn 1 (pc2 := 98) (l2 := [(0, .inl (.float x)), (1, .inl (.int sg)), (2, .inl (.float f)), (3, zi ex), (4, zi (j : Int))]) (st2 := [.inl (.float f)]) rfl ?_
    refine zX.sn 1 (pc2 := 99) (l2 := [(0, .inl (.float x)), (1, .inl (.int sg)), (2, .inl (.float f)), (3, zi ex), (4, zi (j : Int))]) (st2 := [.inl (.float FP.fconst1), .inl (.float f)]) rfl ?_
    refine zX.s1 (pc2 := 100) (l2 := [(0, .inl (.float x)), (1, .inl (.int sg)), (2, .inl (.float f)), (3, zi ex), (4, zi (j : Int))]) (st2 := [.inl (.float (FP.fsub f FP.fconst1))]) ⟨rfl, rfl⟩ (if_pos hg1) ?_
    refine zX.s2 [] (pc2 := 102) (l2 := [(0, .inl (.float x)), (1, .inl (.int sg)), (2, .inl (.float f)), (3, zi ex), (4, zi (j : Int))]) (st2 := [.inl (.float (UInt32.ofNat 1258291200)), .inl (.float (FP.fsub f FP.fconst1))]) ⟨rfl, rfl⟩ (fun _ => rfl) rfl (fun _ => rfl) ?_
    refine zX.s1 (pc2 := 103) (l2 := [(0, .inl (.float x)), (1, .inl (.int sg)), (2, .inl (.float f)), (3, zi ex), (4, zi (j : Int))]) (st2 := [.inl (.float (FP.fmul (FP.fsub f FP.fconst1) (UInt32.ofNat 1258291200)))]) ⟨rfl, rfl⟩ (if_pos hg2) ?_
    refine zX.sn 1 (pc2 := 104) (l2 := [(0, .inl (.float x)), (1, .inl (.int sg)), (2, .inl (.float f)), (3, zi ex), (4, zi (j : Int))]) (st2 := [.inl (.int (FP.f2i (FP.fmul (FP.fsub f FP.fconst1) (UInt32.ofNat 1258291200))))]) rfl ?_
    refine zX.sn 1 (pc2 := 106) (l2 := [(4, .inl (.int (FP.f2i (FP.fmul (FP.fsub f FP.fconst1) (UInt32.ofNat 1258291200))))), (0, .inl (.float x)), (1, .inl (.int sg)), (2, .inl (.float f)), (3, zi ex)]) (st2 := []) rfl ?_
    refine zX.sn 1 (pc2 := 107) (l2 := [(4, .inl (.int (FP.f2i (FP.fmul (FP.fsub f FP.fconst1) (UInt32.ofNat 1258291200))))), (0, .inl (.float x)), (1, .inl (.int sg)), (2, .inl (.float f)), (3, zi ex)]) (st2 := [.inl (.int sg)]) rfl ?_
    refine zX.sn 1 (pc2 := 108) (l2 := [(4, .inl (.int (FP.f2i (FP.fmul (FP.fsub f FP.fconst1) (UInt32.ofNat 1258291200))))), (0, .inl (.float x)), (1, .inl (.int sg)), (2, .inl (.float f)), (3, zi ex)]) (st2 := [zi ex, .inl (.int sg)]) rfl ?_
    refine zX.sn 1 (pc2 := 110) (l2 := [(4, .inl (.int (FP.f2i (FP.fmul (FP.fsub f FP.fconst1) (UInt32.ofNat 1258291200))))), (0, .inl (.float x)), (1, .inl (.int sg)), (2, .inl (.float f)), (3, zi ex)]) (st2 := [zi 23, zi ex, .inl (.int sg)]) rfl ?_
    refine zX.sn 1 (pc2 := 111) (l2 := [(4, .inl (.int (FP.f2i (FP.fmul (FP.fsub f FP.fconst1) (UInt32.ofNat 1258291200))))), (0, .inl (.float x)), (1, .inl (.int sg)), (2, .inl (.float f)), (3, zi ex)]) (st2 := [.inl (.int ((Int32.ofInt ex) <<< ((Int32.ofInt 23) &&& 31))), .inl (.int sg)]) rfl ?_
    refine zX.sn 1 (pc2 := 112) (l2 := [(4, .inl (.int (FP.f2i (FP.fmul (FP.fsub f FP.fconst1) (UInt32.ofNat 1258291200))))), (0, .inl (.float x)), (1, .inl (.int sg)), (2, .inl (.float f)), (3, zi ex)]) (st2 := [.inl (.int (sg ||| ((Int32.ofInt ex) <<< ((Int32.ofInt 23) &&& 31))))]) rfl ?_
    refine zX.sn 1 (pc2 := 114) (l2 := [(4, .inl (.int (FP.f2i (FP.fmul (FP.fsub f FP.fconst1) (UInt32.ofNat 1258291200))))), (0, .inl (.float x)), (1, .inl (.int sg)), (2, .inl (.float f)), (3, zi ex)]) (st2 := [.inl (.int (FP.f2i (FP.fmul (FP.fsub f FP.fconst1) (UInt32.ofNat 1258291200)))), .inl (.int (sg ||| ((Int32.ofInt ex) <<< ((Int32.ofInt 23) &&& 31))))]) rfl ?_
    refine zX.sn 1 (pc2 := 115) (l2 := [(4, .inl (.int (FP.f2i (FP.fmul (FP.fsub f FP.fconst1) (UInt32.ofNat 1258291200))))), (0, .inl (.float x)), (1, .inl (.int sg)), (2, .inl (.float f)), (3, zi ex)]) (st2 := [.inl (.int ((sg ||| ((Int32.ofInt ex) <<< ((Int32.ofInt 23) &&& 31))) ||| (FP.f2i (FP.fmul (FP.fsub f FP.fconst1) (UInt32.ofNat 1258291200)))))]) rfl ?_
    refine zX.ret rfl rfl ?_
    exact k1 e1
  · refine zX.sn 1 (pc2 := 79) (l2 := [(0, .inl (.float x)), (1, .inl (.int sg)), (2, .inl (.float f)), (3, zi ex), (4, zi (j : Int))]) (st2 := [.inl (.float f)]) rfl ?_
    refine zX.sn 1 (pc2 := 80) (l2 := [(0, .inl (.float x)), (1, .inl (.int sg)), (2, .inl (.float f)), (3, zi ex), (4, zi (j : Int))]) (st2 := [.inl (.float FP.fconst1), .inl (.float f)]) rfl ?_
    refine zX.sn 1 (pc2 := 81) (l2 := [(0, .inl (.float x)), (1, .inl (.int sg)), (2, .inl (.float f)), (3, zi ex), (4, zi (j : Int))]) (st2 := [.inl (.int (Op.cmpValue (FP.fcmp f FP.fconst1) .g))]) rfl ?_
    refine zX.rcmp0 (tgt := 97) ⟨rfl, rfl⟩ rfl (fun (e2 : ¬ (Op.cmpValue (FP.fcmp f FP.fconst1) .g) < 0) => ?_) (fun (e2 : (Op.cmpValue (FP.fcmp f FP.fconst1) .g) < 0) => ?_)
    · refine zX.sn 1 (pc2 := 98) (l2 := [(0, .inl (.float x)), (1, .inl (.int sg)), (2, .inl (.float f)), (3, zi ex), (4, zi (j : Int))]) (st2 := [.inl (.float f)]) rfl ?_
      refine zX.sn 1 (pc2 := 99) (l2 := [(0, .inl (.float x)), (1, .inl (.int sg)), (2, .inl (.float f)), (3, zi ex), (4, zi (j : Int))]) (st2 := [.inl (.float FP.fconst1), .inl (.float f)]) rfl ?_
      refine zX.s1 (pc2 := 100) (l2 := [(0, .inl (.float x)), (1, .inl (.int sg)), (2, .inl (.float f)), (3, zi ex), (4, zi (j : Int))]) (st2 := [.inl (.float (FP.fsub f FP.fconst1))]) ⟨rfl, rfl⟩ (if_pos hg1) ?_
      refine zX.s2 [] (pc2 := 102) (l2 := [(0, .inl (.float x)), (1, .inl (.int sg)), (2, .inl (.float f)), (3, zi ex), (4, zi (j : Int))]) (st2 := [.inl (.float (UInt32.ofNat 1258291200)), .inl (.float (FP.fsub f FP.fconst1))]) ⟨rfl, rfl⟩ (fun _ => rfl) rfl (fun _ => rfl) ?_
      refine zX.s1 (pc2 := 103) (l2 := [(0, .inl (.float x)), (1, .inl (.int sg)), (2, .inl (.float f)), (3, zi ex), (4, zi (j : Int))]) (st2 := [.inl (.float (FP.fmul (FP.fsub f FP.fconst1) (UInt32.ofNat 1258291200)))]) ⟨rfl, rfl⟩ (if_pos hg2) ?_
      refine zX.sn 1 (pc2 := 104) (l2 := [(0, .inl (.float x)), (1, .inl (.int sg)), (2, .inl (.float f)), (3, zi ex), (4, zi (j : Int))]) (st2 := [.inl (.int (FP.f2i (FP.fmul (FP.fsub f FP.fconst1) (UInt32.ofNat 1258291200))))]) rfl ?_
      refine zX.sn 1 (pc2 := 106) (l2 := [(4, .inl (.int (FP.f2i (FP.fmul (FP.fsub f FP.fconst1) (UInt32.ofNat 1258291200))))), (0, .inl (.float x)), (1, .inl (.int sg)), (2, .inl (.float f)), (3, zi ex)]) (st2 := []) rfl ?_
      refine zX.sn 1 (pc2 := 107) (l2 := [(4, .inl (.int (FP.f2i (FP.fmul (FP.fsub f FP.fconst1) (UInt32.ofNat 1258291200))))), (0, .inl (.float x)), (1, .inl (.int sg)), (2, .inl (.float f)), (3, zi ex)]) (st2 := [.inl (.int sg)]) rfl ?_
      refine zX.sn 1 (pc2 := 108) (l2 := [(4, .inl (.int (FP.f2i (FP.fmul (FP.fsub f FP.fconst1) (UInt32.ofNat 1258291200))))), (0, .inl (.float x)), (1, .inl (.int sg)), (2, .inl (.float f)), (3, zi ex)]) (st2 := [zi ex, .inl (.int sg)]) rfl ?_
      refine zX.sn 1 (pc2 := 110) (l2 := [(4, .inl (.int (FP.f2i (FP.fmul (FP.fsub f FP.fconst1) (UInt32.ofNat 1258291200))))), (0, .inl (.float x)), (1, .inl (.int sg)), (2, .inl (.float f)), (3, zi ex)]) (st2 := [zi 23, zi ex, .inl (.int sg)]) rfl ?_
      refine zX.sn 1 (pc2 := 111) (l2 := [(4, .inl (.int (FP.f2i (FP.fmul (FP.fsub f FP.fconst1) (UInt32.ofNat 1258291200))))), (0, .inl (.float x)), (1, .inl (.int sg)), (2, .inl (.float f)), (3, zi ex)]) (st2 := [.inl (.int ((Int32.ofInt ex) <<< ((Int32.ofInt 23) &&& 31))), .inl (.int sg)]) rfl ?_
      refine zX.sn 1 (pc2 := 112) (l2 := [(4, .inl (.int (FP.f2i (FP.fmul (FP.fsub f FP.fconst1) (UInt32.ofNat 1258291200))))), (0, .inl (.float x)), (1, .inl (.int sg)), (2, .inl (.float f)), (3, zi ex)]) (st2 := [.inl (.int (sg ||| ((Int32.ofInt ex) <<< ((Int32.ofInt 23) &&& 31))))]) rfl ?_
      refine zX.sn 1 (pc2 := 114) (l2 := [(4, .inl (.int (FP.f2i (FP.fmul (FP.fsub f FP.fconst1) (UInt32.ofNat 1258291200))))), (0, .inl (.float x)), (1, .inl (.int sg)), (2, .inl (.float f)), (3, zi ex)]) (st2 := [.inl (.int (FP.f2i (FP.fmul (FP.fsub f FP.fconst1) (UInt32.ofNat 1258291200)))), .inl (.int (sg ||| ((Int32.ofInt ex) <<< ((Int32.ofInt 23) &&& 31))))]) rfl ?_
      refine zX.sn 1 (pc2 := 115) (l2 := [(4, .inl (.int (FP.f2i (FP.fmul (FP.fsub f FP.fconst1) (UInt32.ofNat 1258291200))))), (0, .inl (.float x)), (1, .inl (.int sg)), (2, .inl (.float f)), (3, zi ex)]) (st2 := [.inl (.int ((sg ||| ((Int32.ofInt ex) <<< ((Int32.ofInt 23) &&& 31))) ||| (FP.f2i (FP.fmul (FP.fsub f FP.fconst1) (UInt32.ofNat 1258291200)))))]) rfl ?_
      refine zX.ret rfl rfl ?_
      exact k2 e1 e2
    · refine zX.sn 1 (pc2 := 85) (l2 := [(0, .inl (.float x)), (1, .inl (.int sg)), (2, .inl (.float f)), (3, zi ex), (4, zi (j : Int))]) (st2 := [.inl (.float f)]) rfl ?_
      refine zX.sn 1 (pc2 := 86) (l2 := [(0, .inl (.float x)), (1, .inl (.int sg)), (2, .inl (.float f)), (3, zi ex), (4, zi (j : Int))]) (st2 := [.inl (.float FP.fconst2), .inl (.float f)]) rfl ?_
      refine zX.s1 (pc2 := 87) (l2 := [(0, .inl (.float x)), (1, .inl (.int sg)), (2, .inl (.float f)), (3, zi ex), (4, zi (j : Int))]) (st2 := [.inl (.float (FP.fmul f FP.fconst2))]) ⟨rfl, rfl⟩ (if_pos hg) ?_
      refine zX.sn 1 (pc2 := 88) (l2 := [(2, .inl (.float (FP.fmul f FP.fconst2))), (0, .inl (.float x)), (1, .inl (.int sg)), (3, zi ex), (4, zi (j : Int))]) (st2 := []) rfl ?_
      refine zX.s1 (pc2 := 91) (l2 := [(3, zi (ex + (-1))), (2, .inl (.float (FP.fmul f FP.fconst2))), (0, .inl (.float x)), (1, .inl (.int sg)), (4, zi (j : Int))]) (st2 := []) ⟨rfl, rfl⟩ (by rw [show (zi (ex + (-1)) : xV) = .inl (.int (Int32.ofInt ex + (-1))) from congrArg (fun z => (.inl (.int z) : xV)) (Int32.ofInt_add _ _)]; rfl) ?_
      refine zX.s1 (pc2 := 94) (l2 := [(4, zi ((j : Int) + 1)), (3, zi (ex + (-1))), (2, .inl (.float (FP.fmul f FP.fconst2))), (0, .inl (.float x)), (1, .inl (.int sg))]) (st2 := []) ⟨rfl, rfl⟩ (by rw [show (zi ((j : Int) + 1) : xV) = .inl (.int (Int32.ofInt (j : Int) + 1)) from congrArg (fun z => (.inl (.int z) : xV)) (Int32.ofInt_add _ _)]; rfl) ?_
      refine zX.sn 1 (pc2 := 70) (l2 := [(4, zi ((j : Int) + 1)), (3, zi (ex + (-1))), (2, .inl (.float (FP.fmul f FP.fconst2))), (0, .inl (.float x)), (1, .inl (.int sg))]) (st2 := []) rfl ?_
      refine zX.re [(0, .inl (.float x)), (1, .inl (.int sg)), (2, .inl (.float (FP.fmul f FP.fconst2))), (3, zi (ex + (-1))), (4, zi ((j : Int) + 1))] [3, 4, 2, 1, 0] [4, 3, 2, 0, 1] rfl rfl (by decide) ?_
      exact k3 e1 e2

set_option maxHeartbeats 4000000 in
theorem r_meas0 {d c s : Nat} {h : xH} {Q : xR → Nat → Nat → xH → Prop} {ro i L k : Nat} {fn fs fg : Nat → Int32} {x : Int} {me : Int} (hx : x = (k : Int)) (h0 : 0 < ro) (hL : L ≤ 67108864) (hk : k < L) (hn : ¬ 0 < (fn k)) (hme0 : 0 ≤ me ∧ me < 65536) (H_ro_i : h (ro, i) = some (.inl (7, [.inr (ro + 1, i), .inr (ro + 2, i), .inr (ro + 3, i)]))) (H_ro_1_i : h (ro + 1, i) = some (.inr (0, L, zI fn))) (H_ro_2_i : h (ro + 2, i) = some (.inr (0, L, zI fs))) (H_ro_3_i : h (ro + 3, i) = some (.inr (0, L, zI fg)))
    (k1 : Q (.inl (some (zi 0))) c s h) :
    zX (d + 1) 58 0 [(0, .inr (ro, i)), (1, zi x), (2, zi me)] [] c s h Q := by
  refine zX.sn 1 (pc2 := 1) (l2 := [(0, .inr (ro, i)), (1, zi x), (2, zi me)]) (st2 := [.inr (ro, i)]) rfl ?_
  refine zX.sn 1 (pc2 := 2) (l2 := [(0, .inr (ro, i)), (1, zi x), (2, zi me)]) (st2 := [zi x, .inr (ro, i)]) rfl ?_
  refine zX.call (mid2 := 52) (as := [.inr (ro, i), zi x]) (rest := []) ⟨rfl, rfl⟩ (fun _ => rfl) (zX.inv rfl H_ro_i rfl rfl) ⟨Nat.le_of_ble_eq_true rfl, Nat.le_of_ble_eq_true rfl⟩ ?_
  show zX _ 52 0 [(0, .inr (ro, i)), (1, zi x)] [] c s _ _
  refine zX.sn 1 (pc2 := 1) (l2 := [(0, .inr (ro, i)), (1, zi x)]) (st2 := [zi x]) rfl ?_
  refine zX.icmp0 (tgt := 35) ⟨rfl, rfl⟩ rfl (by omega) (fun (zz : x < 0) => absurd zz (by omega)) (fun (e1 : 0 ≤ x) => ?_)
  refine zX.sn 1 (pc2 := 5) (l2 := [(0, .inr (ro, i)), (1, zi x)]) (st2 := [zi x]) rfl ?_
  refine zX.sn 1 (pc2 := 6) (l2 := [(0, .inr (ro, i)), (1, zi x)]) (st2 := [.inr (ro, i), zi x]) rfl ?_
  refine zX.getf ⟨rfl, rfl⟩ H_ro_i rfl rfl ?_
  refine zX.alen ⟨rfl, rfl⟩ H_ro_1_i ?_
  refine zX.icmp (tgt := 35) ⟨rfl, rfl⟩ rfl (by omega) (by omega) (fun (zz : (L : Int) ≤ x) => absurd zz (by omega)) (fun (e2 : x < (L : Int)) => ?_)
  refine zX.sn 1 (pc2 := 14) (l2 := [(0, .inr (ro, i)), (1, zi x)]) (st2 := [zi x]) rfl ?_
  refine zX.sn 1 (pc2 := 15) (l2 := [(0, .inr (ro, i)), (1, zi x)]) (st2 := [.inr (ro, i), zi x]) rfl ?_
  refine zX.getf ⟨rfl, rfl⟩ H_ro_i rfl rfl ?_
  refine zX.alen ⟨rfl, rfl⟩ H_ro_2_i ?_
  refine zX.icmp (tgt := 35) ⟨rfl, rfl⟩ rfl (by omega) (by omega) (fun (zz : (L : Int) ≤ x) => absurd zz (by omega)) (fun (e3 : x < (L : Int)) => ?_)
  refine zX.sn 1 (pc2 := 23) (l2 := [(0, .inr (ro, i)), (1, zi x)]) (st2 := [zi x]) rfl ?_
  refine zX.sn 1 (pc2 := 24) (l2 := [(0, .inr (ro, i)), (1, zi x)]) (st2 := [.inr (ro, i), zi x]) rfl ?_
  refine zX.getf ⟨rfl, rfl⟩ H_ro_i rfl rfl ?_
  refine zX.alen ⟨rfl, rfl⟩ H_ro_3_i ?_
  refine zX.icmp (tgt := 35) ⟨rfl, rfl⟩ rfl (by omega) (by omega) (fun (zz : (L : Int) ≤ x) => absurd zz (by omega)) (fun (e4 : x < (L : Int)) => ?_)
  refine zX.sn 1 (pc2 := 32) (l2 := [(0, .inr (ro, i)), (1, zi x)]) (st2 := [zi 1]) rfl ?_
  refine zX.sn 1 (pc2 := 36) (l2 := [(0, .inr (ro, i)), (1, zi x)]) (st2 := [zi 1]) rfl ?_
  refine zX.ret rfl (zret_z rfl (by decide)) ?_
  show zX _ 58 5 [(0, .inr (ro, i)), (1, zi x), (2, zi me)] [zi 1] c s _ _
  refine zX.icmp0 (tgt := 17) ⟨rfl, rfl⟩ rfl (by omega) (fun (zz : 1 = 0) => absurd zz (by omega)) (fun (e5 : ¬ 1 = 0) => ?_)
  refine zX.sn 1 (pc2 := 9) (l2 := [(0, .inr (ro, i)), (1, zi x), (2, zi me)]) (st2 := [.inr (ro, i)]) rfl ?_
  refine zX.getf ⟨rfl, rfl⟩ H_ro_i rfl rfl ?_
  refine zX.sn 1 (pc2 := 13) (l2 := [(0, .inr (ro, i)), (1, zi x), (2, zi me)]) (st2 := [zi x, .inr (ro + 1, i)]) rfl ?_
  refine zX.iald (j := k) ⟨rfl, rfl⟩ H_ro_1_i hx (by omega) (by omega) ?_
  show zX _ 58 14 [(0, .inr (ro, i)), (1, zi x), (2, zi me)] [.inl (.int (fn k))] c s _ _
  refine zX.rcmp0 (tgt := 19) ⟨rfl, rfl⟩ rfl (fun (zz : 0 < (fn k)) => absurd zz (hn)) (fun (e6 : ¬ 0 < (fn k)) => ?_)
  refine zX.sn 1 (pc2 := 18) (l2 := [(0, .inr (ro, i)), (1, zi x), (2, zi me)]) (st2 := [zi 0]) rfl ?_
  refine zX.ret rfl rfl ?_
  exact k1

set_option maxHeartbeats 4000000 in
theorem r_meas_c {d c s : Nat} {h : xH} {Q : xR → Nat → Nat → xH → Prop} {ro i L k : Nat} {fn fs fg : Nat → Int32} {x : Int} (hx : x = (k : Int)) (h0 : 0 < ro) (hL : L ≤ 67108864) (hk : k < L) (hn : 0 < (fn k)) (H_ro_i : h (ro, i) = some (.inl (7, [.inr (ro + 1, i), .inr (ro + 2, i), .inr (ro + 3, i)]))) (H_ro_1_i : h (ro + 1, i) = some (.inr (0, L, zI fn))) (H_ro_2_i : h (ro + 2, i) = some (.inr (0, L, zI fs))) (H_ro_3_i : h (ro + 3, i) = some (.inr (0, L, zI fg)))
    (k1 : Q (.inl (some (.inl (.int (fn k))))) c s h) :
    zX (d + 1) 58 0 [(0, .inr (ro, i)), (1, zi x), (2, zi 99)] [] c s h Q := by
  refine zX.sn 1 (pc2 := 1) (l2 := [(0, .inr (ro, i)), (1, zi x), (2, zi 99)]) (st2 := [.inr (ro, i)]) rfl ?_
  refine zX.sn 1 (pc2 := 2) (l2 := [(0, .inr (ro, i)), (1, zi x), (2, zi 99)]) (st2 := [zi x, .inr (ro, i)]) rfl ?_
  refine zX.call (mid2 := 52) (as := [.inr (ro, i), zi x]) (rest := []) ⟨rfl, rfl⟩ (fun _ => rfl) (zX.inv rfl H_ro_i rfl rfl) ⟨Nat.le_of_ble_eq_true rfl, Nat.le_of_ble_eq_true rfl⟩ ?_
  show zX _ 52 0 [(0, .inr (ro, i)), (1, zi x)] [] c s _ _
  refine zX.sn 1 (pc2 := 1) (l2 := [(0, .inr (ro, i)), (1, zi x)]) (st2 := [zi x]) rfl ?_
  refine zX.icmp0 (tgt := 35) ⟨rfl, rfl⟩ rfl (by omega) (fun (zz : x < 0) => absurd zz (by omega)) (fun (e1 : 0 ≤ x) => ?_)
  refine zX.sn 1 (pc2 := 5) (l2 := [(0, .inr (ro, i)), (1, zi x)]) (st2 := [zi x]) rfl ?_
  refine zX.sn 1 (pc2 := 6) (l2 := [(0, .inr (ro, i)), (1, zi x)]) (st2 := [.inr (ro, i), zi x]) rfl ?_
  refine zX.getf ⟨rfl, rfl⟩ H_ro_i rfl rfl ?_
  refine zX.alen ⟨rfl, rfl⟩ H_ro_1_i ?_
  refine zX.icmp (tgt := 35) ⟨rfl, rfl⟩ rfl (by omega) (by omega) (fun (zz : (L : Int) ≤ x) => absurd zz (by omega)) (fun (e2 : x < (L : Int)) => ?_)
  refine zX.sn 1 (pc2 := 14) (l2 := [(0, .inr (ro, i)), (1, zi x)]) (st2 := [zi x]) rfl ?_
  refine zX.sn 1 (pc2 := 15) (l2 := [(0, .inr (ro, i)), (1, zi x)]) (st2 := [.inr (ro, i), zi x]) rfl ?_
  refine zX.getf ⟨rfl, rfl⟩ H_ro_i rfl rfl ?_
  refine zX.alen ⟨rfl, rfl⟩ H_ro_2_i ?_
  refine zX.icmp (tgt := 35) ⟨rfl, rfl⟩ rfl (by omega) (by omega) (fun (zz : (L : Int) ≤ x) => absurd zz (by omega)) (fun (e3 : x < (L : Int)) => ?_)
  refine zX.sn 1 (pc2 := 23) (l2 := [(0, .inr (ro, i)), (1, zi x)]) (st2 := [zi x]) rfl ?_
  refine zX.sn 1 (pc2 := 24) (l2 := [(0, .inr (ro, i)), (1, zi x)]) (st2 := [.inr (ro, i), zi x]) rfl ?_
  refine zX.getf ⟨rfl, rfl⟩ H_ro_i rfl rfl ?_
  refine zX.alen ⟨rfl, rfl⟩ H_ro_3_i ?_
  refine zX.icmp (tgt := 35) ⟨rfl, rfl⟩ rfl (by omega) (by omega) (fun (zz : (L : Int) ≤ x) => absurd zz (by omega)) (fun (e4 : x < (L : Int)) => ?_)
  refine zX.sn 1 (pc2 := 32) (l2 := [(0, .inr (ro, i)), (1, zi x)]) (st2 := [zi 1]) rfl ?_
  refine zX.sn 1 (pc2 := 36) (l2 := [(0, .inr (ro, i)), (1, zi x)]) (st2 := [zi 1]) rfl ?_
  refine zX.ret rfl (zret_z rfl (by decide)) ?_
  show zX _ 58 5 [(0, .inr (ro, i)), (1, zi x), (2, zi 99)] [zi 1] c s _ _
  refine zX.icmp0 (tgt := 17) ⟨rfl, rfl⟩ rfl (by omega) (fun (zz : 1 = 0) => absurd zz (by omega)) (fun (e5 : ¬ 1 = 0) => ?_)
  refine zX.sn 1 (pc2 := 9) (l2 := [(0, .inr (ro, i)), (1, zi x), (2, zi 99)]) (st2 := [.inr (ro, i)]) rfl ?_
  refine zX.getf ⟨rfl, rfl⟩ H_ro_i rfl rfl ?_
  refine zX.sn 1 (pc2 := 13) (l2 := [(0, .inr (ro, i)), (1, zi x), (2, zi 99)]) (st2 := [zi x, .inr (ro + 1, i)]) rfl ?_
  refine zX.iald (j := k) ⟨rfl, rfl⟩ H_ro_1_i hx (by omega) (by omega) ?_
  show zX _ 58 14 [(0, .inr (ro, i)), (1, zi x), (2, zi 99)] [.inl (.int (fn k))] c s _ _
  refine zX.rcmp0 (tgt := 19) ⟨rfl, rfl⟩ rfl (fun (e6 : 0 < (fn k)) => ?_) (fun (zz : ¬ 0 < (fn k)) => absurd zz ((fun z => z hn)))
  refine zX.sn 1 (pc2 := 20) (l2 := [(0, .inr (ro, i)), (1, zi x), (2, zi 99)]) (st2 := [zi 99]) rfl ?_
  refine zX.sn 1 (pc2 := 22) (l2 := [(0, .inr (ro, i)), (1, zi x), (2, zi 99)]) (st2 := [zi 99, zi 99]) rfl ?_
  refine zX.icmp (tgt := 32) ⟨rfl, rfl⟩ rfl (by omega) (by omega) (fun (zz : ¬ 99 = 99) => absurd zz (by omega)) (fun (e7 : 99 = 99) => ?_)
  refine zX.sn 1 (pc2 := 26) (l2 := [(0, .inr (ro, i)), (1, zi x), (2, zi 99)]) (st2 := [.inr (ro, i)]) rfl ?_
  refine zX.getf ⟨rfl, rfl⟩ H_ro_i rfl rfl ?_
  refine zX.sn 1 (pc2 := 30) (l2 := [(0, .inr (ro, i)), (1, zi x), (2, zi 99)]) (st2 := [zi x, .inr (ro + 1, i)]) rfl ?_
  refine zX.iald (j := k) ⟨rfl, rfl⟩ H_ro_1_i hx (by omega) (by omega) ?_
  show zX _ 58 31 [(0, .inr (ro, i)), (1, zi x), (2, zi 99)] [.inl (.int (fn k))] c s _ _
  refine zX.ret rfl rfl ?_
  exact k1

set_option maxHeartbeats 4000000 in
theorem r_meas_s {d c s : Nat} {h : xH} {Q : xR → Nat → Nat → xH → Prop} {ro i L k : Nat} {fn fs fg : Nat → Int32} {x : Int} (hx : x = (k : Int)) (h0 : 0 < ro) (hL : L ≤ 67108864) (hk : k < L) (hn : 0 < (fn k)) (H_ro_i : h (ro, i) = some (.inl (7, [.inr (ro + 1, i), .inr (ro + 2, i), .inr (ro + 3, i)]))) (H_ro_1_i : h (ro + 1, i) = some (.inr (0, L, zI fn))) (H_ro_2_i : h (ro + 2, i) = some (.inr (0, L, zI fs))) (H_ro_3_i : h (ro + 3, i) = some (.inr (0, L, zI fg)))
    (k1 : Q (.inl (some (.inl (.int (fs k))))) c s h) :
    zX (d + 1) 58 0 [(0, .inr (ro, i)), (1, zi x), (2, zi 115)] [] c s h Q := by
  refine zX.sn 1 (pc2 := 1) (l2 := [(0, .inr (ro, i)), (1, zi x), (2, zi 115)]) (st2 := [.inr (ro, i)]) rfl ?_
  refine zX.sn 1 (pc2 := 2) (l2 := [(0, .inr (ro, i)), (1, zi x), (2, zi 115)]) (st2 := [zi x, .inr (ro, i)]) rfl ?_
  refine zX.call (mid2 := 52) (as := [.inr (ro, i), zi x]) (rest := []) ⟨rfl, rfl⟩ (fun _ => rfl) (zX.inv rfl H_ro_i rfl rfl) ⟨Nat.le_of_ble_eq_true rfl, Nat.le_of_ble_eq_true rfl⟩ ?_
  show zX _ 52 0 [(0, .inr (ro, i)), (1, zi x)] [] c s _ _
  refine zX.sn 1 (pc2 := 1) (l2 := [(0, .inr (ro, i)), (1, zi x)]) (st2 := [zi x]) rfl ?_
  refine zX.icmp0 (tgt := 35) ⟨rfl, rfl⟩ rfl (by omega) (fun (zz : x < 0) => absurd zz (by omega)) (fun (e1 : 0 ≤ x) => ?_)
  refine zX.sn 1 (pc2 := 5) (l2 := [(0, .inr (ro, i)), (1, zi x)]) (st2 := [zi x]) rfl ?_
  refine zX.sn 1 (pc2 := 6) (l2 := [(0, .inr (ro, i)), (1, zi x)]) (st2 := [.inr (ro, i), zi x]) rfl ?_
  refine zX.getf ⟨rfl, rfl⟩ H_ro_i rfl rfl ?_
  refine zX.alen ⟨rfl, rfl⟩ H_ro_1_i ?_
  refine zX.icmp (tgt := 35) ⟨rfl, rfl⟩ rfl (by omega) (by omega) (fun (zz : (L : Int) ≤ x) => absurd zz (by omega)) (fun (e2 : x < (L : Int)) => ?_)
  refine zX.sn 1 (pc2 := 14) (l2 := [(0, .inr (ro, i)), (1, zi x)]) (st2 := [zi x]) rfl ?_
  refine zX.sn 1 (pc2 := 15) (l2 := [(0, .inr (ro, i)), (1, zi x)]) (st2 := [.inr (ro, i), zi x]) rfl ?_
  refine zX.getf ⟨rfl, rfl⟩ H_ro_i rfl rfl ?_
  refine zX.alen ⟨rfl, rfl⟩ H_ro_2_i ?_
  refine zX.icmp (tgt := 35) ⟨rfl, rfl⟩ rfl (by omega) (by omega) (fun (zz : (L : Int) ≤ x) => absurd zz (by omega)) (fun (e3 : x < (L : Int)) => ?_)
  refine zX.sn 1 (pc2 := 23) (l2 := [(0, .inr (ro, i)), (1, zi x)]) (st2 := [zi x]) rfl ?_
  refine zX.sn 1 (pc2 := 24) (l2 := [(0, .inr (ro, i)), (1, zi x)]) (st2 := [.inr (ro, i), zi x]) rfl ?_
  refine zX.getf ⟨rfl, rfl⟩ H_ro_i rfl rfl ?_
  refine zX.alen ⟨rfl, rfl⟩ H_ro_3_i ?_
  refine zX.icmp (tgt := 35) ⟨rfl, rfl⟩ rfl (by omega) (by omega) (fun (zz : (L : Int) ≤ x) => absurd zz (by omega)) (fun (e4 : x < (L : Int)) => ?_)
  refine zX.sn 1 (pc2 := 32) (l2 := [(0, .inr (ro, i)), (1, zi x)]) (st2 := [zi 1]) rfl ?_
  refine zX.sn 1 (pc2 := 36) (l2 := [(0, .inr (ro, i)), (1, zi x)]) (st2 := [zi 1]) rfl ?_
  refine zX.ret rfl (zret_z rfl (by decide)) ?_
  show zX _ 58 5 [(0, .inr (ro, i)), (1, zi x), (2, zi 115)] [zi 1] c s _ _
  refine zX.icmp0 (tgt := 17) ⟨rfl, rfl⟩ rfl (by omega) (fun (zz : 1 = 0) => absurd zz (by omega)) (fun (e5 : ¬ 1 = 0) => ?_)
  refine zX.sn 1 (pc2 := 9) (l2 := [(0, .inr (ro, i)), (1, zi x), (2, zi 115)]) (st2 := [.inr (ro, i)]) rfl ?_
  refine zX.getf ⟨rfl, rfl⟩ H_ro_i rfl rfl ?_
  refine zX.sn 1 (pc2 := 13) (l2 := [(0, .inr (ro, i)), (1, zi x), (2, zi 115)]) (st2 := [zi x, .inr (ro + 1, i)]) rfl ?_
  refine zX.iald (j := k) ⟨rfl, rfl⟩ H_ro_1_i hx (by omega) (by omega) ?_
  show zX _ 58 14 [(0, .inr (ro, i)), (1, zi x), (2, zi 115)] [.inl (.int (fn k))] c s _ _
  refine zX.rcmp0 (tgt := 19) ⟨rfl, rfl⟩ rfl (fun (e6 : 0 < (fn k)) => ?_) (fun (zz : ¬ 0 < (fn k)) => absurd zz ((fun z => z hn)))
  refine zX.sn 1 (pc2 := 20) (l2 := [(0, .inr (ro, i)), (1, zi x), (2, zi 115)]) (st2 := [zi 115]) rfl ?_
  refine zX.sn 1 (pc2 := 22) (l2 := [(0, .inr (ro, i)), (1, zi x), (2, zi 115)]) (st2 := [zi 99, zi 115]) rfl ?_
  refine zX.icmp (tgt := 32) ⟨rfl, rfl⟩ rfl (by omega) (by omega) (fun (e7 : ¬ 115 = 99) => ?_) (fun (zz : 115 = 99) => absurd zz (by omega))
  refine zX.sn 1 (pc2 := 33) (l2 := [(0, .inr (ro, i)), (1, zi x), (2, zi 115)]) (st2 := [zi 115]) rfl ?_
  refine zX.sn 1 (pc2 := 35) (l2 := [(0, .inr (ro, i)), (1, zi x), (2, zi 115)]) (st2 := [zi 115, zi 115]) rfl ?_
  refine zX.icmp (tgt := 45) ⟨rfl, rfl⟩ rfl (by omega) (by omega) (fun (zz : ¬ 115 = 115) => absurd zz (by omega)) (fun (e8 : 115 = 115) => ?_)
  refine zX.sn 1 (pc2 := 39) (l2 := [(0, .inr (ro, i)), (1, zi x), (2, zi 115)]) (st2 := [.inr (ro, i)]) rfl ?_
  refine zX.getf ⟨rfl, rfl⟩ H_ro_i rfl rfl ?_
  refine zX.sn 1 (pc2 := 43) (l2 := [(0, .inr (ro, i)), (1, zi x), (2, zi 115)]) (st2 := [zi x, .inr (ro + 2, i)]) rfl ?_
  refine zX.iald (j := k) ⟨rfl, rfl⟩ H_ro_2_i hx (by omega) (by omega) ?_
  show zX _ 58 44 [(0, .inr (ro, i)), (1, zi x), (2, zi 115)] [.inl (.int (fs k))] c s _ _
  refine zX.ret rfl rfl ?_
  exact k1

set_option maxHeartbeats 4000000 in
theorem r_meas_m {d c s : Nat} {h : xH} {Q : xR → Nat → Nat → xH → Prop} {ro i L k : Nat} {fn fs fg : Nat → Int32} {x : Int} {y : Int32} (hx : x = (k : Int)) (h0 : 0 < ro) (hL : L ≤ 67108864) (hk : k < L) (hn : 0 < (fn k)) (hg : (FP.fdiv (FP.i2f (fs k)) (FP.i2f (fn k))) &&& 0x7fffffff ≤ 0x7f800000) (hy : ∀ {d c s : Nat} {h : xH} {Q : xR → Nat → Nat → xH → Prop}, Q (.inl (some (.inl (.int y)))) c s h → zX d 59 0 [(0, .inl (.float (FP.fdiv (FP.i2f (fs k)) (FP.i2f (fn k)))))] [] c s h Q) (H_ro_i : h (ro, i) = some (.inl (7, [.inr (ro + 1, i), .inr (ro + 2, i), .inr (ro + 3, i)]))) (H_ro_1_i : h (ro + 1, i) = some (.inr (0, L, zI fn))) (H_ro_2_i : h (ro + 2, i) = some (.inr (0, L, zI fs))) (H_ro_3_i : h (ro + 3, i) = some (.inr (0, L, zI fg)))
    (k1 : Q (.inl (some (.inl (.int y)))) c s h) :
    zX (d + 1) 58 0 [(0, .inr (ro, i)), (1, zi x), (2, zi 109)] [] c s h Q := by
  refine zX.sn 1 (pc2 := 1) (l2 := [(0, .inr (ro, i)), (1, zi x), (2, zi 109)]) (st2 := [.inr (ro, i)]) rfl ?_
  refine zX.sn 1 (pc2 := 2) (l2 := [(0, .inr (ro, i)), (1, zi x), (2, zi 109)]) (st2 := [zi x, .inr (ro, i)]) rfl ?_
  refine zX.call (mid2 := 52) (as := [.inr (ro, i), zi x]) (rest := []) ⟨rfl, rfl⟩ (fun _ => rfl) (zX.inv rfl H_ro_i rfl rfl) ⟨Nat.le_of_ble_eq_true rfl, Nat.le_of_ble_eq_true rfl⟩ ?_
  show zX _ 52 0 [(0, .inr (ro, i)), (1, zi x)] [] c s _ _
  refine zX.sn 1 (pc2 := 1) (l2 := [(0, .inr (ro, i)), (1, zi x)]) (st2 := [zi x]) rfl ?_
  refine zX.icmp0 (tgt := 35) ⟨rfl, rfl⟩ rfl (by omega) (fun (zz : x < 0) => absurd zz (by omega)) (fun (e1 : 0 ≤ x) => ?_)
  refine zX.sn 1 (pc2 := 5) (l2 := [(0, .inr (ro, i)), (1, zi x)]) (st2 := [zi x]) rfl ?_
  refine zX.sn 1 (pc2 := 6) (l2 := [(0, .inr (ro, i)), (1, zi x)]) (st2 := [.inr (ro, i), zi x]) rfl ?_
  refine zX.getf ⟨rfl, rfl⟩ H_ro_i rfl rfl ?_
  refine zX.alen ⟨rfl, rfl⟩ H_ro_1_i ?_
  refine zX.icmp (tgt := 35) ⟨rfl, rfl⟩ rfl (by omega) (by omega) (fun (zz : (L : Int) ≤ x) => absurd zz (by omega)) (fun (e2 : x < (L : Int)) => ?_)
  refine zX.sn 1 (pc2 := 14) (l2 := [(0, .inr (ro, i)), (1, zi x)]) (st2 := [zi x]) rfl ?_
  refine zX.sn 1 (pc2 := 15) (l2 := [(0, .inr (ro, i)), (1, zi x)]) (st2 := [.inr (ro, i), zi x]) rfl ?_
  refine zX.getf ⟨rfl, rfl⟩ H_ro_i rfl rfl ?_
  refine zX.alen ⟨rfl, rfl⟩ H_ro_2_i ?_
  refine zX.icmp (tgt := 35) ⟨rfl, rfl⟩ rfl (by omega) (by omega) (fun (zz : (L : Int) ≤ x) => absurd zz (by omega)) (fun (e3 : x < (L : Int)) => ?_)
  refine zX.sn 1 (pc2 := 23) (l2 := [(0, .inr (ro, i)), (1, zi x)]) (st2 := [zi x]) rfl ?_
  refine zX.sn 1 (pc2 := 24) (l2 := [(0, .inr (ro, i)), (1, zi x)]) (st2 := [.inr (ro, i), zi x]) rfl ?_
  refine zX.getf ⟨rfl, rfl⟩ H_ro_i rfl rfl ?_
  refine zX.alen ⟨rfl, rfl⟩ H_ro_3_i ?_
  refine zX.icmp (tgt := 35) ⟨rfl, rfl⟩ rfl (by omega) (by omega) (fun (zz : (L : Int) ≤ x) => absurd zz (by omega)) (fun (e4 : x < (L : Int)) => ?_)
  refine zX.sn 1 (pc2 := 32) (l2 := [(0, .inr (ro, i)), (1, zi x)]) (st2 := [zi 1]) rfl ?_
  refine zX.sn 1 (pc2 := 36) (l2 := [(0, .inr (ro, i)), (1, zi x)]) (st2 := [zi 1]) rfl ?_
  refine zX.ret rfl (zret_z rfl (by decide)) ?_
  show zX _ 58 5 [(0, .inr (ro, i)), (1, zi x), (2, zi 109)] [zi 1] c s _ _
  refine zX.icmp0 (tgt := 17) ⟨rfl, rfl⟩ rfl (by omega) (fun (zz : 1 = 0) => absurd zz (by omega)) (fun (e5 : ¬ 1 = 0) => ?_)
  refine zX.sn 1 (pc2 := 9) (l2 := [(0, .inr (ro, i)), (1, zi x), (2, zi 109)]) (st2 := [.inr (ro, i)]) rfl ?_
  refine zX.getf ⟨rfl, rfl⟩ H_ro_i rfl rfl ?_
  refine zX.sn 1 (pc2 := 13) (l2 := [(0, .inr (ro, i)), (1, zi x), (2, zi 109)]) (st2 := [zi x, .inr (ro + 1, i)]) rfl ?_
  refine zX.iald (j := k) ⟨rfl, rfl⟩ H_ro_1_i hx (by omega) (by omega) ?_
  show zX _ 58 14 [(0, .inr (ro, i)), (1, zi x), (2, zi 109)] [.inl (.int (fn k))] c s _ _
  refine zX.rcmp0 (tgt := 19) ⟨rfl, rfl⟩ rfl (fun (e6 : 0 < (fn k)) => ?_) (fun (zz : ¬ 0 < (fn k)) => absurd zz ((fun z => z hn)))
  refine zX.sn 1 (pc2 := 20) (l2 := [(0, .inr (ro, i)), (1, zi x), (2, zi 109)]) (st2 := [zi 109]) rfl ?_
  refine zX.sn 1 (pc2 := 22) (l2 := [(0, .inr (ro, i)), (1, zi x), (2, zi 109)]) (st2 := [zi 99, zi 109]) rfl ?_
  refine zX.icmp (tgt := 32) ⟨rfl, rfl⟩ rfl (by omega) (by omega) (fun (e7 : ¬ 109 = 99) => ?_) (fun (zz : 109 = 99) => absurd zz (by omega))
  refine zX.sn 1 (pc2 := 33) (l2 := [(0, .inr (ro, i)), (1, zi x), (2, zi 109)]) (st2 := [zi 109]) rfl ?_
  refine zX.sn 1 (pc2 := 35) (l2 := [(0, .inr (ro, i)), (1, zi x), (2, zi 109)]) (st2 := [zi 115, zi 109]) rfl ?_
  refine zX.icmp (tgt := 45) ⟨rfl, rfl⟩ rfl (by omega) (by omega) (fun (e8 : ¬ 109 = 115) => ?_) (fun (zz : 109 = 115) => absurd zz (by omega))
  refine zX.sn 1 (pc2 := 46) (l2 := [(0, .inr (ro, i)), (1, zi x), (2, zi 109)]) (st2 := [zi 109]) rfl ?_
  refine zX.sn 1 (pc2 := 48) (l2 := [(0, .inr (ro, i)), (1, zi x), (2, zi 109)]) (st2 := [zi 120, zi 109]) rfl ?_
  refine zX.icmp (tgt := 58) ⟨rfl, rfl⟩ rfl (by omega) (by omega) (fun (e9 : ¬ 109 = 120) => ?_) (fun (zz : 109 = 120) => absurd zz (by omega))
  refine zX.sn 1 (pc2 := 59) (l2 := [(0, .inr (ro, i)), (1, zi x), (2, zi 109)]) (st2 := [zi 109]) rfl ?_
  refine zX.sn 1 (pc2 := 61) (l2 := [(0, .inr (ro, i)), (1, zi x), (2, zi 109)]) (st2 := [zi 98, zi 109]) rfl ?_
  refine zX.icmp (tgt := 72) ⟨rfl, rfl⟩ rfl (by omega) (by omega) (fun (e10 : ¬ 109 = 98) => ?_) (fun (zz : 109 = 98) => absurd zz (by omega))
  refine zX.sn 1 (pc2 := 73) (l2 := [(0, .inr (ro, i)), (1, zi x), (2, zi 109)]) (st2 := [.inr (ro, i)]) rfl ?_
  refine zX.getf ⟨rfl, rfl⟩ H_ro_i rfl rfl ?_
  refine zX.sn 1 (pc2 := 77) (l2 := [(0, .inr (ro, i)), (1, zi x), (2, zi 109)]) (st2 := [zi x, .inr (ro + 2, i)]) rfl ?_
  refine zX.iald (j := k) ⟨rfl, rfl⟩ H_ro_2_i hx (by omega) (by omega) ?_
  show zX _ 58 78 [(0, .inr (ro, i)), (1, zi x), (2, zi 109)] [.inl (.int (fs k))] c s _ _
  refine zX.sn 1 (pc2 := 79) (l2 := [(0, .inr (ro, i)), (1, zi x), (2, zi 109)]) (st2 := [.inl (.float (FP.i2f (fs k)))]) rfl ?_
  refine zX.sn 1 (pc2 := 80) (l2 := [(0, .inr (ro, i)), (1, zi x), (2, zi 109)]) (st2 := [.inr (ro, i), .inl (.float (FP.i2f (fs k)))]) rfl ?_
  refine zX.getf ⟨rfl, rfl⟩ H_ro_i rfl rfl ?_
  refine zX.sn 1 (pc2 := 84) (l2 := [(0, .inr (ro, i)), (1, zi x), (2, zi 109)]) (st2 := [zi x, .inr (ro + 1, i), .inl (.float (FP.i2f (fs k)))]) rfl ?_
  refine zX.iald (j := k) ⟨rfl, rfl⟩ H_ro_1_i hx (by omega) (by omega) ?_
  show zX _ 58 85 [(0, .inr (ro, i)), (1, zi x), (2, zi 109)] [.inl (.int (fn k)), .inl (.float (FP.i2f (fs k)))] c s _ _
  refine zX.sn 1 (pc2 := 86) (l2 := [(0, .inr (ro, i)), (1, zi x), (2, zi 109)]) (st2 := [.inl (.float (FP.i2f (fn k))), .inl (.float (FP.i2f (fs k)))]) rfl ?_
  refine zX.s1 (pc2 := 87) (l2 := [(0, .inr (ro, i)), (1, zi x), (2, zi 109)]) (st2 := [.inl (.float (FP.fdiv (FP.i2f (fs k)) (FP.i2f (fn k))))]) ⟨rfl, rfl⟩ (if_pos hg) ?_
  refine zX.call (mid2 := 59) (as := [.inl (.float (FP.fdiv (FP.i2f (fs k)) (FP.i2f (fn k))))]) (rest := []) ⟨rfl, rfl⟩ (fun _ => rfl) rfl ⟨Nat.le_of_ble_eq_true rfl, Nat.le_of_ble_eq_true rfl⟩ ?_
  refine hy  ?_
  show zX _ 58 90 [(0, .inr (ro, i)), (1, zi x), (2, zi 109)] [.inl (.int y)] c s _ _
  refine zX.ret rfl rfl ?_
  exact k1

set_option maxHeartbeats 4000000 in
theorem r_of {d c s : Nat} {h : xH} {Q : xR → Nat → Nat → xH → Prop} {a b f t : Int} {y : Int32} 
    (k1 : Q (.inl (some (.inl (.long ((((((Int64.ofNat 576460752303423488) ||| ((Int32.toInt64 ((Int32.ofInt a) &&& (Int32.ofInt 7))) <<< (Int32.toInt64 (Int32.ofInt 56) &&& 63))) ||| ((Int32.toInt64 ((Int32.ofInt b) &&& (Int32.ofInt 7))) <<< (Int32.toInt64 (Int32.ofInt 53) &&& 63))) ||| ((Int32.toInt64 ((Int32.ofInt f) &&& (Int32.ofInt 1023))) <<< (Int32.toInt64 (Int32.ofInt 43) &&& 63))) ||| ((Int32.toInt64 ((Int32.ofInt (t + 1)) &&& (Int32.ofInt 2047))) <<< (Int32.toInt64 (Int32.ofInt 32) &&& 63))) ||| ((Int32.toInt64 y) &&& (Int64.ofNat 4294967295))))))) c s h) :
    zX d 14 0 [(0, zi a), (1, zi b), (2, zi f), (3, zi t), (4, .inl (.int y))] [] c s h Q := by
  refine zX.s2 [] (pc2 := 3) (l2 := [(0, zi a), (1, zi b), (2, zi f), (3, zi t), (4, .inl (.int y))]) (st2 := [.inl (.long (Int64.ofNat 576460752303423488))]) ⟨rfl, rfl⟩ (fun _ => rfl) rfl (fun _ => rfl) ?_
  refine zX.sn 1 (pc2 := 4) (l2 := [(0, zi a), (1, zi b), (2, zi f), (3, zi t), (4, .inl (.int y))]) (st2 := [zi a, .inl (.long (Int64.ofNat 576460752303423488))]) rfl ?_
  refine zX.sn 1 (pc2 := 6) (l2 := [(0, zi a), (1, zi b), (2, zi f), (3, zi t), (4, .inl (.int y))]) (st2 := [zi 7, zi a, .inl (.long (Int64.ofNat 576460752303423488))]) rfl ?_
  refine zX.sn 1 (pc2 := 7) (l2 := [(0, zi a), (1, zi b), (2, zi f), (3, zi t), (4, .inl (.int y))]) (st2 := [.inl (.int ((Int32.ofInt a) &&& (Int32.ofInt 7))), .inl (.long (Int64.ofNat 576460752303423488))]) rfl ?_
  refine zX.sn 1 (pc2 := 8) (l2 := [(0, zi a), (1, zi b), (2, zi f), (3, zi t), (4, .inl (.int y))]) (st2 := [.inl (.long (Int32.toInt64 ((Int32.ofInt a) &&& (Int32.ofInt 7)))), .inl (.long (Int64.ofNat 576460752303423488))]) rfl ?_
  refine zX.sn 1 (pc2 := 10) (l2 := [(0, zi a), (1, zi b), (2, zi f), (3, zi t), (4, .inl (.int y))]) (st2 := [zi 56, .inl (.long (Int32.toInt64 ((Int32.ofInt a) &&& (Int32.ofInt 7)))), .inl (.long (Int64.ofNat 576460752303423488))]) rfl ?_
  refine zX.sn 1 (pc2 := 11) (l2 := [(0, zi a), (1, zi b), (2, zi f), (3, zi t), (4, .inl (.int y))]) (st2 := [.inl (.long ((Int32.toInt64 ((Int32.ofInt a) &&& (Int32.ofInt 7))) <<< (Int32.toInt64 (Int32.ofInt 56) &&& 63))), .inl (.long (Int64.ofNat 576460752303423488))]) rfl ?_
  refine zX.sn 1 (pc2 := 12) (l2 := [(0, zi a), (1, zi b), (2, zi f), (3, zi t), (4, .inl (.int y))]) (st2 := [.inl (.long ((Int64.ofNat 576460752303423488) ||| ((Int32.toInt64 ((Int32.ofInt a) &&& (Int32.ofInt 7))) <<< (Int32.toInt64 (Int32.ofInt 56) &&& 63))))]) rfl ?_
  refine zX.sn 1 (pc2 := 13) (l2 := [(0, zi a), (1, zi b), (2, zi f), (3, zi t), (4, .inl (.int y))]) (st2 := [zi b, .inl (.long ((Int64.ofNat 576460752303423488) ||| ((Int32.toInt64 ((Int32.ofInt a) &&& (Int32.ofInt 7))) <<< (Int32.toInt64 (Int32.ofInt 56) &&& 63))))]) rfl ?_
  refine zX.sn 1 (pc2 := 15) (l2 := [(0, zi a), (1, zi b), (2, zi f), (3, zi t), (4, .inl (.int y))]) (st2 := [zi 7, zi b, .inl (.long ((Int64.ofNat 576460752303423488) ||| ((Int32.toInt64 ((Int32.ofInt a) &&& (Int32.ofInt 7))) <<< (Int32.toInt64 (Int32.ofInt 56) &&& 63))))]) rfl ?_
  refine zX.sn 1 (pc2 := 16) (l2 := [(0, zi a), (1, zi b), (2, zi f), (3, zi t), (4, .inl (.int y))]) (st2 := [.inl (.int ((Int32.ofInt b) &&& (Int32.ofInt 7))), .inl (.long ((Int64.ofNat 576460752303423488) ||| ((Int32.toInt64 ((Int32.ofInt a) &&& (Int32.ofInt 7))) <<< (Int32.toInt64 (Int32.ofInt 56) &&& 63))))]) rfl ?_
  refine zX.sn 1 (pc2 := 17) (l2 := [(0, zi a), (1, zi b), (2, zi f), (3, zi t), (4, .inl (.int y))]) (st2 := [.inl (.long (Int32.toInt64 ((Int32.ofInt b) &&& (Int32.ofInt 7)))), .inl (.long ((Int64.ofNat 576460752303423488) ||| ((Int32.toInt64 ((Int32.ofInt a) &&& (Int32.ofInt 7))) <<< (Int32.toInt64 (Int32.ofInt 56) &&& 63))))]) rfl ?_
  refine zX.sn 1 (pc2 := 19) (l2 := [(0, zi a), (1, zi b), (2, zi f), (3, zi t), (4, .inl (.int y))]) (st2 := [zi 53, .inl (.long (Int32.toInt64 ((Int32.ofInt b) &&& (Int32.ofInt 7)))), .inl (.long ((Int64.ofNat 576460752303423488) ||| ((Int32.toInt64 ((Int32.ofInt a) &&& (Int32.ofInt 7))) <<< (Int32.toInt64 (Int32.ofInt 56) &&& 63))))]) rfl ?_
  refine zX.sn 1 (pc2 := 20) (l2 := [(0, zi a), (1, zi b), (2, zi f), (3, zi t), (4, .inl (.int y))]) (st2 := [.inl (.long ((Int32.toInt64 ((Int32.ofInt b) &&& (Int32.ofInt 7))) <<< (Int32.toInt64 (Int32.ofInt 53) &&& 63))), .inl (.long ((Int64.ofNat 576460752303423488) ||| ((Int32.toInt64 ((Int32.ofInt a) &&& (Int32.ofInt 7))) <<< (Int32.toInt64 (Int32.ofInt 56) &&& 63))))]) rfl ?_
  refine zX.sn 1 (pc2 := 21) (l2 := [(0, zi a), (1, zi b), (2, zi f), (3, zi t), (4, .inl (.int y))]) (st2 := [.inl (.long (((Int64.ofNat 576460752303423488) ||| ((Int32.toInt64 ((Int32.ofInt a) &&& (Int32.ofInt 7))) <<< (Int32.toInt64 (Int32.ofInt 56) &&& 63))) ||| ((Int32.toInt64 ((Int32.ofInt b) &&& (Int32.ofInt 7))) <<< (Int32.toInt64 (Int32.ofInt 53) &&& 63))))]) rfl ?_
  refine zX.sn 1 (pc2 := 22) (l2 := [(0, zi a), (1, zi b), (2, zi f), (3, zi t), (4, .inl (.int y))]) (st2 := [zi f, .inl (.long (((Int64.ofNat 576460752303423488) ||| ((Int32.toInt64 ((Int32.ofInt a) &&& (Int32.ofInt 7))) <<< (Int32.toInt64 (Int32.ofInt 56) &&& 63))) ||| ((Int32.toInt64 ((Int32.ofInt b) &&& (Int32.ofInt 7))) <<< (Int32.toInt64 (Int32.ofInt 53) &&& 63))))]) rfl ?_
  refine zX.sn 1 (pc2 := 25) (l2 := [(0, zi a), (1, zi b), (2, zi f), (3, zi t), (4, .inl (.int y))]) (st2 := [zi 1023, zi f, .inl (.long (((Int64.ofNat 576460752303423488) ||| ((Int32.toInt64 ((Int32.ofInt a) &&& (Int32.ofInt 7))) <<< (Int32.toInt64 (Int32.ofInt 56) &&& 63))) ||| ((Int32.toInt64 ((Int32.ofInt b) &&& (Int32.ofInt 7))) <<< (Int32.toInt64 (Int32.ofInt 53) &&& 63))))]) rfl ?_
  refine zX.sn 1 (pc2 := 26) (l2 := [(0, zi a), (1, zi b), (2, zi f), (3, zi t), (4, .inl (.int y))]) (st2 := [.inl (.int ((Int32.ofInt f) &&& (Int32.ofInt 1023))), .inl (.long (((Int64.ofNat 576460752303423488) ||| ((Int32.toInt64 ((Int32.ofInt a) &&& (Int32.ofInt 7))) <<< (Int32.toInt64 (Int32.ofInt 56) &&& 63))) ||| ((Int32.toInt64 ((Int32.ofInt b) &&& (Int32.ofInt 7))) <<< (Int32.toInt64 (Int32.ofInt 53) &&& 63))))]) rfl ?_
  refine zX.sn 1 (pc2 := 27) (l2 := [(0, zi a), (1, zi b), (2, zi f), (3, zi t), (4, .inl (.int y))]) (st2 := [.inl (.long (Int32.toInt64 ((Int32.ofInt f) &&& (Int32.ofInt 1023)))), .inl (.long (((Int64.ofNat 576460752303423488) ||| ((Int32.toInt64 ((Int32.ofInt a) &&& (Int32.ofInt 7))) <<< (Int32.toInt64 (Int32.ofInt 56) &&& 63))) ||| ((Int32.toInt64 ((Int32.ofInt b) &&& (Int32.ofInt 7))) <<< (Int32.toInt64 (Int32.ofInt 53) &&& 63))))]) rfl ?_
  refine zX.sn 1 (pc2 := 29) (l2 := [(0, zi a), (1, zi b), (2, zi f), (3, zi t), (4, .inl (.int y))]) (st2 := [zi 43, .inl (.long (Int32.toInt64 ((Int32.ofInt f) &&& (Int32.ofInt 1023)))), .inl (.long (((Int64.ofNat 576460752303423488) ||| ((Int32.toInt64 ((Int32.ofInt a) &&& (Int32.ofInt 7))) <<< (Int32.toInt64 (Int32.ofInt 56) &&& 63))) ||| ((Int32.toInt64 ((Int32.ofInt b) &&& (Int32.ofInt 7))) <<< (Int32.toInt64 (Int32.ofInt 53) &&& 63))))]) rfl ?_
  refine zX.sn 1 (pc2 := 30) (l2 := [(0, zi a), (1, zi b), (2, zi f), (3, zi t), (4, .inl (.int y))]) (st2 := [.inl (.long ((Int32.toInt64 ((Int32.ofInt f) &&& (Int32.ofInt 1023))) <<< (Int32.toInt64 (Int32.ofInt 43) &&& 63))), .inl (.long (((Int64.ofNat 576460752303423488) ||| ((Int32.toInt64 ((Int32.ofInt a) &&& (Int32.ofInt 7))) <<< (Int32.toInt64 (Int32.ofInt 56) &&& 63))) ||| ((Int32.toInt64 ((Int32.ofInt b) &&& (Int32.ofInt 7))) <<< (Int32.toInt64 (Int32.ofInt 53) &&& 63))))]) rfl ?_
  refine zX.sn 1 (pc2 := 31) (l2 := [(0, zi a), (1, zi b), (2, zi f), (3, zi t), (4, .inl (.int y))]) (st2 := [.inl (.long ((((Int64.ofNat 576460752303423488) ||| ((Int32.toInt64 ((Int32.ofInt a) &&& (Int32.ofInt 7))) <<< (Int32.toInt64 (Int32.ofInt 56) &&& 63))) ||| ((Int32.toInt64 ((Int32.ofInt b) &&& (Int32.ofInt 7))) <<< (Int32.toInt64 (Int32.ofInt 53) &&& 63))) ||| ((Int32.toInt64 ((Int32.ofInt f) &&& (Int32.ofInt 1023))) <<< (Int32.toInt64 (Int32.ofInt 43) &&& 63))))]) rfl ?_
  refine zX.sn 1 (pc2 := 32) (l2 := [(0, zi a), (1, zi b), (2, zi f), (3, zi t), (4, .inl (.int y))]) (st2 := [zi t, .inl (.long ((((Int64.ofNat 576460752303423488) ||| ((Int32.toInt64 ((Int32.ofInt a) &&& (Int32.ofInt 7))) <<< (Int32.toInt64 (Int32.ofInt 56) &&& 63))) ||| ((Int32.toInt64 ((Int32.ofInt b) &&& (Int32.ofInt 7))) <<< (Int32.toInt64 (Int32.ofInt 53) &&& 63))) ||| ((Int32.toInt64 ((Int32.ofInt f) &&& (Int32.ofInt 1023))) <<< (Int32.toInt64 (Int32.ofInt 43) &&& 63))))]) rfl ?_
  refine zX.sn 1 (pc2 := 33) (l2 := [(0, zi a), (1, zi b), (2, zi f), (3, zi t), (4, .inl (.int y))]) (st2 := [zi 1, zi t, .inl (.long ((((Int64.ofNat 576460752303423488) ||| ((Int32.toInt64 ((Int32.ofInt a) &&& (Int32.ofInt 7))) <<< (Int32.toInt64 (Int32.ofInt 56) &&& 63))) ||| ((Int32.toInt64 ((Int32.ofInt b) &&& (Int32.ofInt 7))) <<< (Int32.toInt64 (Int32.ofInt 53) &&& 63))) ||| ((Int32.toInt64 ((Int32.ofInt f) &&& (Int32.ofInt 1023))) <<< (Int32.toInt64 (Int32.ofInt 43) &&& 63))))]) rfl ?_
  refine zX.iadd ⟨rfl, rfl⟩ ?_
  refine zX.sn 1 (pc2 := 37) (l2 := [(0, zi a), (1, zi b), (2, zi f), (3, zi t), (4, .inl (.int y))]) (st2 := [zi 2047, zi (t + 1), .inl (.long ((((Int64.ofNat 576460752303423488) ||| ((Int32.toInt64 ((Int32.ofInt a) &&& (Int32.ofInt 7))) <<< (Int32.toInt64 (Int32.ofInt 56) &&& 63))) ||| ((Int32.toInt64 ((Int32.ofInt b) &&& (Int32.ofInt 7))) <<< (Int32.toInt64 (Int32.ofInt 53) &&& 63))) ||| ((Int32.toInt64 ((Int32.ofInt f) &&& (Int32.ofInt 1023))) <<< (Int32.toInt64 (Int32.ofInt 43) &&& 63))))]) rfl ?_
  refine zX.sn 1 (pc2 := 38) (l2 := [(0, zi a), (1, zi b), (2, zi f), (3, zi t), (4, .inl (.int y))]) (st2 := [.inl (.int ((Int32.ofInt (t + 1)) &&& (Int32.ofInt 2047))), .inl (.long ((((Int64.ofNat 576460752303423488) ||| ((Int32.toInt64 ((Int32.ofInt a) &&& (Int32.ofInt 7))) <<< (Int32.toInt64 (Int32.ofInt 56) &&& 63))) ||| ((Int32.toInt64 ((Int32.ofInt b) &&& (Int32.ofInt 7))) <<< (Int32.toInt64 (Int32.ofInt 53) &&& 63))) ||| ((Int32.toInt64 ((Int32.ofInt f) &&& (Int32.ofInt 1023))) <<< (Int32.toInt64 (Int32.ofInt 43) &&& 63))))]) rfl ?_
  refine zX.sn 1 (pc2 := 39) (l2 := [(0, zi a), (1, zi b), (2, zi f), (3, zi t), (4, .inl (.int y))]) (st2 := [.inl (.long (Int32.toInt64 ((Int32.ofInt (t + 1)) &&& (Int32.ofInt 2047)))), .inl (.long ((((Int64.ofNat 576460752303423488) ||| ((Int32.toInt64 ((Int32.ofInt a) &&& (Int32.ofInt 7))) <<< (Int32.toInt64 (Int32.ofInt 56) &&& 63))) ||| ((Int32.toInt64 ((Int32.ofInt b) &&& (Int32.ofInt 7))) <<< (Int32.toInt64 (Int32.ofInt 53) &&& 63))) ||| ((Int32.toInt64 ((Int32.ofInt f) &&& (Int32.ofInt 1023))) <<< (Int32.toInt64 (Int32.ofInt 43) &&& 63))))]) rfl ?_
  refine zX.sn 1 (pc2 := 41) (l2 := [(0, zi a), (1, zi b), (2, zi f), (3, zi t), (4, .inl (.int y))]) (st2 := [zi 32, .inl (.long (Int32.toInt64 ((Int32.ofInt (t + 1)) &&& (Int32.ofInt 2047)))), .inl (.long ((((Int64.ofNat 576460752303423488) ||| ((Int32.toInt64 ((Int32.ofInt a) &&& (Int32.ofInt 7))) <<< (Int32.toInt64 (Int32.ofInt 56) &&& 63))) ||| ((Int32.toInt64 ((Int32.ofInt b) &&& (Int32.ofInt 7))) <<< (Int32.toInt64 (Int32.ofInt 53) &&& 63))) ||| ((Int32.toInt64 ((Int32.ofInt f) &&& (Int32.ofInt 1023))) <<< (Int32.toInt64 (Int32.ofInt 43) &&& 63))))]) rfl ?_
  refine zX.sn 1 (pc2 := 42) (l2 := [(0, zi a), (1, zi b), (2, zi f), (3, zi t), (4, .inl (.int y))]) (st2 := [.inl (.long ((Int32.toInt64 ((Int32.ofInt (t + 1)) &&& (Int32.ofInt 2047))) <<< (Int32.toInt64 (Int32.ofInt 32) &&& 63))), .inl (.long ((((Int64.ofNat 576460752303423488) ||| ((Int32.toInt64 ((Int32.ofInt a) &&& (Int32.ofInt 7))) <<< (Int32.toInt64 (Int32.ofInt 56) &&& 63))) ||| ((Int32.toInt64 ((Int32.ofInt b) &&& (Int32.ofInt 7))) <<< (Int32.toInt64 (Int32.ofInt 53) &&& 63))) ||| ((Int32.toInt64 ((Int32.ofInt f) &&& (Int32.ofInt 1023))) <<< (Int32.toInt64 (Int32.ofInt 43) &&& 63))))]) rfl ?_
  refine zX.sn 1 (pc2 := 43) (l2 := [(0, zi a), (1, zi b), (2, zi f), (3, zi t), (4, .inl (.int y))]) (st2 := [.inl (.long (((((Int64.ofNat 576460752303423488) ||| ((Int32.toInt64 ((Int32.ofInt a) &&& (Int32.ofInt 7))) <<< (Int32.toInt64 (Int32.ofInt 56) &&& 63))) ||| ((Int32.toInt64 ((Int32.ofInt b) &&& (Int32.ofInt 7))) <<< (Int32.toInt64 (Int32.ofInt 53) &&& 63))) ||| ((Int32.toInt64 ((Int32.ofInt f) &&& (Int32.ofInt 1023))) <<< (Int32.toInt64 (Int32.ofInt 43) &&& 63))) ||| ((Int32.toInt64 ((Int32.ofInt (t + 1)) &&& (Int32.ofInt 2047))) <<< (Int32.toInt64 (Int32.ofInt 32) &&& 63))))]) rfl ?_
  refine zX.sn 1 (pc2 := 45) (l2 := [(0, zi a), (1, zi b), (2, zi f), (3, zi t), (4, .inl (.int y))]) (st2 := [.inl (.int y), .inl (.long (((((Int64.ofNat 576460752303423488) ||| ((Int32.toInt64 ((Int32.ofInt a) &&& (Int32.ofInt 7))) <<< (Int32.toInt64 (Int32.ofInt 56) &&& 63))) ||| ((Int32.toInt64 ((Int32.ofInt b) &&& (Int32.ofInt 7))) <<< (Int32.toInt64 (Int32.ofInt 53) &&& 63))) ||| ((Int32.toInt64 ((Int32.ofInt f) &&& (Int32.ofInt 1023))) <<< (Int32.toInt64 (Int32.ofInt 43) &&& 63))) ||| ((Int32.toInt64 ((Int32.ofInt (t + 1)) &&& (Int32.ofInt 2047))) <<< (Int32.toInt64 (Int32.ofInt 32) &&& 63))))]) rfl ?_
  refine zX.sn 1 (pc2 := 46) (l2 := [(0, zi a), (1, zi b), (2, zi f), (3, zi t), (4, .inl (.int y))]) (st2 := [.inl (.long (Int32.toInt64 y)), .inl (.long (((((Int64.ofNat 576460752303423488) ||| ((Int32.toInt64 ((Int32.ofInt a) &&& (Int32.ofInt 7))) <<< (Int32.toInt64 (Int32.ofInt 56) &&& 63))) ||| ((Int32.toInt64 ((Int32.ofInt b) &&& (Int32.ofInt 7))) <<< (Int32.toInt64 (Int32.ofInt 53) &&& 63))) ||| ((Int32.toInt64 ((Int32.ofInt f) &&& (Int32.ofInt 1023))) <<< (Int32.toInt64 (Int32.ofInt 43) &&& 63))) ||| ((Int32.toInt64 ((Int32.ofInt (t + 1)) &&& (Int32.ofInt 2047))) <<< (Int32.toInt64 (Int32.ofInt 32) &&& 63))))]) rfl ?_
  refine zX.s2 [] (pc2 := 49) (l2 := [(0, zi a), (1, zi b), (2, zi f), (3, zi t), (4, .inl (.int y))]) (st2 := [.inl (.long (Int64.ofNat 4294967295)), .inl (.long (Int32.toInt64 y)), .inl (.long (((((Int64.ofNat 576460752303423488) ||| ((Int32.toInt64 ((Int32.ofInt a) &&& (Int32.ofInt 7))) <<< (Int32.toInt64 (Int32.ofInt 56) &&& 63))) ||| ((Int32.toInt64 ((Int32.ofInt b) &&& (Int32.ofInt 7))) <<< (Int32.toInt64 (Int32.ofInt 53) &&& 63))) ||| ((Int32.toInt64 ((Int32.ofInt f) &&& (Int32.ofInt 1023))) <<< (Int32.toInt64 (Int32.ofInt 43) &&& 63))) ||| ((Int32.toInt64 ((Int32.ofInt (t + 1)) &&& (Int32.ofInt 2047))) <<< (Int32.toInt64 (Int32.ofInt 32) &&& 63))))]) ⟨rfl, rfl⟩ (fun _ => rfl) rfl (fun _ => rfl) ?_
  refine zX.sn 1 (pc2 := 50) (l2 := [(0, zi a), (1, zi b), (2, zi f), (3, zi t), (4, .inl (.int y))]) (st2 := [.inl (.long ((Int32.toInt64 y) &&& (Int64.ofNat 4294967295))), .inl (.long (((((Int64.ofNat 576460752303423488) ||| ((Int32.toInt64 ((Int32.ofInt a) &&& (Int32.ofInt 7))) <<< (Int32.toInt64 (Int32.ofInt 56) &&& 63))) ||| ((Int32.toInt64 ((Int32.ofInt b) &&& (Int32.ofInt 7))) <<< (Int32.toInt64 (Int32.ofInt 53) &&& 63))) ||| ((Int32.toInt64 ((Int32.ofInt f) &&& (Int32.ofInt 1023))) <<< (Int32.toInt64 (Int32.ofInt 43) &&& 63))) ||| ((Int32.toInt64 ((Int32.ofInt (t + 1)) &&& (Int32.ofInt 2047))) <<< (Int32.toInt64 (Int32.ofInt 32) &&& 63))))]) rfl ?_
  refine zX.sn 1 (pc2 := 51) (l2 := [(0, zi a), (1, zi b), (2, zi f), (3, zi t), (4, .inl (.int y))]) (st2 := [.inl (.long ((((((Int64.ofNat 576460752303423488) ||| ((Int32.toInt64 ((Int32.ofInt a) &&& (Int32.ofInt 7))) <<< (Int32.toInt64 (Int32.ofInt 56) &&& 63))) ||| ((Int32.toInt64 ((Int32.ofInt b) &&& (Int32.ofInt 7))) <<< (Int32.toInt64 (Int32.ofInt 53) &&& 63))) ||| ((Int32.toInt64 ((Int32.ofInt f) &&& (Int32.ofInt 1023))) <<< (Int32.toInt64 (Int32.ofInt 43) &&& 63))) ||| ((Int32.toInt64 ((Int32.ofInt (t + 1)) &&& (Int32.ofInt 2047))) <<< (Int32.toInt64 (Int32.ofInt 32) &&& 63))) ||| ((Int32.toInt64 y) &&& (Int64.ofNat 4294967295))))]) rfl ?_
  refine zX.ret rfl rfl ?_
  exact k1

end ZR52
