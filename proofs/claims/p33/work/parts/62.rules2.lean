set_option maxRecDepth 100000
section ZP2
set_option maxHeartbeats 4000000 in
theorem w_endOf {d : Nat} {k0 c0 s0 : Nat} {h : xH} {Q : xR → xA → Prop} {v o tr fr hd : Nat × Nat} {nu bs fi sz gr dr : Int32} {rw ag : Nat × Nat} {me sp wi : Int32} {x : Int32}  (hw : zWd h [(v, .inl (9, [.inl (.int nu), .inl (.int bs), .inl (.int fi), .inl (.int sz), .inl (.int gr), .inr o, .inr tr, .inr fr, .inr hd, .inl (.int dr), .inl (.int me), .inl (.int sp), .inl (.int wi), .inr rw, .inr ag]))])
    (k1 : Q (.inl (some (.inl (.int ((x * sp) + sz))))) (zNm k0, c0, s0, h)) :
    zW xPP d 87 0 [(0, .inr v), (1, .inl (.int x))] [] (zNm k0, c0, s0, h) Q := by
  refine zW.sn 1 (pc2 := 1) (l2 := [(0, .inr v), (1, .inl (.int x))]) (st2 := [.inl (.int x)]) rfl ?_
  refine zW.sn 1 (pc2 := 2) (l2 := [(0, .inr v), (1, .inl (.int x))]) (st2 := [.inr v, .inl (.int x)]) rfl ?_
  refine zW.getf ⟨rfl, rfl⟩ (hw.get 0 rfl) rfl rfl ?_
  refine zW.sn 1 (pc2 := 6) (l2 := [(0, .inr v), (1, .inl (.int x))]) (st2 := [.inl (.int (x * sp))]) rfl ?_
  refine zW.sn 1 (pc2 := 7) (l2 := [(0, .inr v), (1, .inl (.int x))]) (st2 := [.inr v, .inl (.int (x * sp))]) rfl ?_
  refine zW.getf ⟨rfl, rfl⟩ (hw.get 0 rfl) rfl rfl ?_
  refine zW.sn 1 (pc2 := 11) (l2 := [(0, .inr v), (1, .inl (.int x))]) (st2 := [.inl (.int ((x * sp) + sz))]) rfl ?_
  refine zW.ret rfl rfl ?_
  exact k1

set_option maxHeartbeats 4000000 in
theorem w_fea {d : Nat} {k0 c0 s0 : Nat} {h : xH} {Q : xR → xA → Prop} {v o tr fr hd : Nat × Nat} {nu bs fi sz gr dr : Int32} {rw ag : Nat × Nat} {me sp wi : Int32} {x : Int32} (hsp : ¬ sp = 0) (hw : zWd h [(v, .inl (9, [.inl (.int nu), .inl (.int bs), .inl (.int fi), .inl (.int sz), .inl (.int gr), .inr o, .inr tr, .inr fr, .inr hd, .inl (.int dr), .inl (.int me), .inl (.int sp), .inl (.int wi), .inr rw, .inr ag]))])
    (k1 : xcd .lt x sz = true → Q (.inl (some (.inl (.int 0)))) (zNm k0, c0, s0, h))
    (k2 : xcd .lt x sz = false → xcd .gt sp 0 = true → Q (.inl (some (.inl (.int (((x - sz) / sp) + 1))))) (zNm k0, c0, s0, h))
    (k3 : xcd .lt x sz = false → xcd .gt sp 0 = false → Q (.inl (some (.inl (.int 0)))) (zNm k0, c0, s0, h)) :
    zW xPP d 88 0 [(0, .inr v), (1, .inl (.int x))] [] (zNm k0, c0, s0, h) Q := by
  refine zW.sn 1 (pc2 := 1) (l2 := [(0, .inr v), (1, .inl (.int x))]) (st2 := [.inl (.int x)]) rfl ?_
  refine zW.sn 1 (pc2 := 2) (l2 := [(0, .inr v), (1, .inl (.int x))]) (st2 := [.inr v, .inl (.int x)]) rfl ?_
  refine zW.getf ⟨rfl, rfl⟩ (hw.get 0 rfl) rfl rfl ?_
  refine zW.ific (tgt := 15) ⟨rfl, rfl⟩ rfl (fun e1 => ?_) (fun e1 => ?_)
  · refine zW.sn 1 (pc2 := 16) (l2 := [(0, .inr v), (1, .inl (.int x))]) (st2 := [.inl (.int 0)]) rfl ?_
    refine zW.sn 1 (pc2 := 32) (l2 := [(0, .inr v), (1, .inl (.int x))]) (st2 := [.inl (.int 0)]) rfl ?_
    refine zW.ret rfl rfl ?_
    exact k1 e1
  · refine zW.sn 1 (pc2 := 9) (l2 := [(0, .inr v), (1, .inl (.int x))]) (st2 := [.inr v]) rfl ?_
    refine zW.getf ⟨rfl, rfl⟩ (hw.get 0 rfl) rfl rfl ?_
    refine zW.ifc (tgt := 19) ⟨rfl, rfl⟩ rfl (fun e2 => ?_) (fun e2 => ?_)
    · refine zW.sn 1 (pc2 := 20) (l2 := [(0, .inr v), (1, .inl (.int x))]) (st2 := [.inl (.int x)]) rfl ?_
      refine zW.sn 1 (pc2 := 21) (l2 := [(0, .inr v), (1, .inl (.int x))]) (st2 := [.inr v, .inl (.int x)]) rfl ?_
      refine zW.getf ⟨rfl, rfl⟩ (hw.get 0 rfl) rfl rfl ?_
      refine zW.sn 1 (pc2 := 25) (l2 := [(0, .inr v), (1, .inl (.int x))]) (st2 := [.inl (.int (x - sz))]) rfl ?_
      refine zW.sn 1 (pc2 := 26) (l2 := [(0, .inr v), (1, .inl (.int x))]) (st2 := [.inr v, .inl (.int (x - sz))]) rfl ?_
      refine zW.getf ⟨rfl, rfl⟩ (hw.get 0 rfl) rfl rfl ?_
      refine zW.div ⟨rfl, rfl⟩ hsp ?_
      refine zW.sn 1 (pc2 := 31) (l2 := [(0, .inr v), (1, .inl (.int x))]) (st2 := [.inl (.int 1), .inl (.int ((x - sz) / sp))]) rfl ?_
      refine zW.sn 1 (pc2 := 32) (l2 := [(0, .inr v), (1, .inl (.int x))]) (st2 := [.inl (.int (((x - sz) / sp) + 1))]) rfl ?_
      refine zW.ret rfl rfl ?_
      exact k2 e1 e2
    · refine zW.sn 1 (pc2 := 16) (l2 := [(0, .inr v), (1, .inl (.int x))]) (st2 := [.inl (.int 0)]) rfl ?_
      refine zW.sn 1 (pc2 := 32) (l2 := [(0, .inr v), (1, .inl (.int x))]) (st2 := [.inl (.int 0)]) rfl ?_
      refine zW.ret rfl rfl ?_
      exact k3 e1 e2

set_option maxHeartbeats 4000000 in
theorem w_lbb {d : Nat} {k0 c0 s0 : Nat} {h : xH} {Q : xR → xA → Prop} {v o tr fr hd : Nat × Nat} {nu bs fi sz gr dr : Int32} {rw ag : Nat × Nat} {me sp wi : Int32} {x : Int32} (hsp : ¬ sp = 0) (hw : zWd h [(v, .inl (9, [.inl (.int nu), .inl (.int bs), .inl (.int fi), .inl (.int sz), .inl (.int gr), .inr o, .inr tr, .inr fr, .inr hd, .inl (.int dr), .inl (.int me), .inl (.int sp), .inl (.int wi), .inr rw, .inr ag]))])
    (k1 : xcd .le sp 0 = true → Q (.inl (some (.inl (.int 0)))) (zNm k0, c0, s0, h))
    (k2 : xcd .le sp 0 = false → Q (.inl (some (.inl (.int (x / sp))))) (zNm k0, c0, s0, h)) :
    zW xPP d 89 0 [(0, .inr v), (1, .inl (.int x))] [] (zNm k0, c0, s0, h) Q := by
  refine zW.sn 1 (pc2 := 1) (l2 := [(0, .inr v), (1, .inl (.int x))]) (st2 := [.inr v]) rfl ?_
  refine zW.getf ⟨rfl, rfl⟩ (hw.get 0 rfl) rfl rfl ?_
  refine zW.ifc (tgt := 16) ⟨rfl, rfl⟩ rfl (fun e1 => ?_) (fun e1 => ?_)
  · refine zW.sn 1 (pc2 := 17) (l2 := [(0, .inr v), (1, .inl (.int x))]) (st2 := [.inl (.int 0)]) rfl ?_
    refine zW.ret rfl rfl ?_
    exact k1 e1
  · refine zW.sn 1 (pc2 := 8) (l2 := [(0, .inr v), (1, .inl (.int x))]) (st2 := [.inl (.int x)]) rfl ?_
    refine zW.sn 1 (pc2 := 9) (l2 := [(0, .inr v), (1, .inl (.int x))]) (st2 := [.inr v, .inl (.int x)]) rfl ?_
    refine zW.getf ⟨rfl, rfl⟩ (hw.get 0 rfl) rfl rfl ?_
    refine zW.div ⟨rfl, rfl⟩ hsp ?_
    refine zW.sn 1 (pc2 := 17) (l2 := [(0, .inr v), (1, .inl (.int x))]) (st2 := [.inl (.int (x / sp))]) rfl ?_
    refine zW.ret rfl rfl ?_
    exact k2 e1

set_option maxHeartbeats 4000000 in
theorem w_tlf {d : Nat} {k0 c0 s0 : Nat} {h : xH} {Q : xR → xA → Prop} {v o tr fr hd : Nat × Nat} {nu bs fi sz gr dr : Int32} {rw ag : Nat × Nat} {me sp wi : Int32} {e : Nat × Nat} {ep er el ek et ev eo ea eb : Int32} {x : Int32}  (hw : zWd h [(v, .inl (9, [.inl (.int nu), .inl (.int bs), .inl (.int fi), .inl (.int sz), .inl (.int gr), .inr o, .inr tr, .inr fr, .inr hd, .inl (.int dr), .inl (.int me), .inl (.int sp), .inl (.int wi), .inr rw, .inr ag])), (e, .inl (1, [.inl (.int ep), .inl (.int er), .inl (.int el), .inl (.int ek), .inl (.int et), .inl (.int ev), .inl (.int eo), .inl (.int ea), .inl (.int eb)]))])
    (k1 : xcd .lt ea (((x * sp) + sz) + gr) = true → Q (.inl (some (.inl (.int 0)))) (zNm k0, c0, s0, h))
    (k2 : xcd .lt ea (((x * sp) + sz) + gr) = false → Q (.inl (some (.inl (.int 1)))) (zNm k0, c0, s0, h)) :
    zW xPP (d + 1) 90 0 [(0, .inr v), (1, .inl (.int x)), (2, .inr e)] [] (zNm k0, c0, s0, h) Q := by
  refine zW.sn 1 (pc2 := 1) (l2 := [(0, .inr v), (1, .inl (.int x)), (2, .inr e)]) (st2 := [.inr e]) rfl ?_
  refine zW.getf ⟨rfl, rfl⟩ (hw.get 1 rfl) rfl rfl ?_
  refine zW.sn 1 (pc2 := 5) (l2 := [(0, .inr v), (1, .inl (.int x)), (2, .inr e)]) (st2 := [.inr v, .inl (.int ea)]) rfl ?_
  refine zW.sn 1 (pc2 := 6) (l2 := [(0, .inr v), (1, .inl (.int x)), (2, .inr e)]) (st2 := [.inl (.int x), .inr v, .inl (.int ea)]) rfl ?_
  refine zW.call (mid2 := 87) (as := [.inr v, .inl (.int x)]) (rest := [.inl (.int ea)]) ⟨rfl, rfl⟩ rfl (zinvV rfl (hw.get 0 rfl) rfl rfl) ⟨Nat.le_of_ble_eq_true rfl, Nat.le_of_ble_eq_true rfl⟩ ?_
  show zW xPP _ 87 0 [(0, .inr v), (1, .inl (.int x))] [] (zNm k0, c0, s0, h) _
  refine zW.sn 1 (pc2 := 1) (l2 := [(0, .inr v), (1, .inl (.int x))]) (st2 := [.inl (.int x)]) rfl ?_
  refine zW.sn 1 (pc2 := 2) (l2 := [(0, .inr v), (1, .inl (.int x))]) (st2 := [.inr v, .inl (.int x)]) rfl ?_
  refine zW.getf ⟨rfl, rfl⟩ (hw.get 0 rfl) rfl rfl ?_
  refine zW.sn 1 (pc2 := 6) (l2 := [(0, .inr v), (1, .inl (.int x))]) (st2 := [.inl (.int (x * sp))]) rfl ?_
  refine zW.sn 1 (pc2 := 7) (l2 := [(0, .inr v), (1, .inl (.int x))]) (st2 := [.inr v, .inl (.int (x * sp))]) rfl ?_
  refine zW.getf ⟨rfl, rfl⟩ (hw.get 0 rfl) rfl rfl ?_
  refine zW.sn 1 (pc2 := 11) (l2 := [(0, .inr v), (1, .inl (.int x))]) (st2 := [.inl (.int ((x * sp) + sz))]) rfl ?_
  refine zW.ret rfl rfl ?_
  show zW xPP _ 90 9 [(0, .inr v), (1, .inl (.int x)), (2, .inr e)] [.inl (.int ((x * sp) + sz)), .inl (.int ea)] (zNm k0, c0, s0, h) _
  refine zW.sn 1 (pc2 := 10) (l2 := [(0, .inr v), (1, .inl (.int x)), (2, .inr e)]) (st2 := [.inr v, .inl (.int ((x * sp) + sz)), .inl (.int ea)]) rfl ?_
  refine zW.getf ⟨rfl, rfl⟩ (hw.get 0 rfl) rfl rfl ?_
  refine zW.sn 1 (pc2 := 14) (l2 := [(0, .inr v), (1, .inl (.int x)), (2, .inr e)]) (st2 := [.inl (.int (((x * sp) + sz) + gr)), .inl (.int ea)]) rfl ?_
  refine zW.ific (tgt := 21) ⟨rfl, rfl⟩ rfl (fun e1 => ?_) (fun e1 => ?_)
  · refine zW.sn 1 (pc2 := 22) (l2 := [(0, .inr v), (1, .inl (.int x)), (2, .inr e)]) (st2 := [.inl (.int 0)]) rfl ?_
    refine zW.ret rfl (zret_z rfl (by decide)) ?_
    exact k1 e1
  · refine zW.sn 1 (pc2 := 18) (l2 := [(0, .inr v), (1, .inl (.int x)), (2, .inr e)]) (st2 := [.inl (.int 1)]) rfl ?_
    refine zW.sn 1 (pc2 := 22) (l2 := [(0, .inr v), (1, .inl (.int x)), (2, .inr e)]) (st2 := [.inl (.int 1)]) rfl ?_
    refine zW.ret rfl (zret_z rfl (by decide)) ?_
    exact k2 e1

set_option maxHeartbeats 4000000 in
theorem w_letsInW {d : Nat} {k0 c0 s0 : Nat} {h : xH} {Q : xR → xA → Prop} {v o tr fr hd : Nat × Nat} {nu bs fi sz gr dr : Int32} {rw ag : Nat × Nat} {me sp wi : Int32} {e : Nat × Nat} {ep er el ek et ev eo ea eb : Int32}  (hw : zWd h [(v, .inl (9, [.inl (.int nu), .inl (.int bs), .inl (.int fi), .inl (.int sz), .inl (.int gr), .inr o, .inr tr, .inr fr, .inr hd, .inl (.int dr), .inl (.int me), .inl (.int sp), .inl (.int wi), .inr rw, .inr ag])), (e, .inl (1, [.inl (.int ep), .inl (.int er), .inl (.int el), .inl (.int ek), .inl (.int et), .inl (.int ev), .inl (.int eo), .inl (.int ea), .inl (.int eb)]))])
    (k1 : xcd .eq er 0 = true → Q (.inl (some (.inl (.int 0)))) (zNm k0, c0, s0, h))
    (k2 : xcd .eq er 0 = false → xcd .ne el 0 = true → xcd .ne fi 101 = true → xcd .ne fi 112 = true → Q (.inl (some (.inl (.int 1)))) (zNm k0, c0, s0, h))
    (k3 : xcd .eq er 0 = false → xcd .ne el 0 = true → xcd .ne fi 101 = true → xcd .ne fi 112 = false → xcd .le ev 0 = true → Q (.inl (some (.inl (.int 0)))) (zNm k0, c0, s0, h))
    (k4 : xcd .eq er 0 = false → xcd .ne el 0 = true → xcd .ne fi 101 = true → xcd .ne fi 112 = false → xcd .le ev 0 = false → Q (.inl (some (.inl (.int 1)))) (zNm k0, c0, s0, h))
    (k5 : xcd .eq er 0 = false → xcd .ne el 0 = true → xcd .ne fi 101 = false → xcd .ne (ev &&& 1) 0 = true → Q (.inl (some (.inl (.int 0)))) (zNm k0, c0, s0, h))
    (k6 : xcd .eq er 0 = false → xcd .ne el 0 = true → xcd .ne fi 101 = false → xcd .ne (ev &&& 1) 0 = false → Q (.inl (some (.inl (.int 1)))) (zNm k0, c0, s0, h))
    (k7 : xcd .eq er 0 = false → xcd .ne el 0 = false → xcd .ne bs 0 = true → xcd .ne fi 101 = true → xcd .ne fi 112 = true → Q (.inl (some (.inl (.int 1)))) (zNm k0, c0, s0, h))
    (k8 : xcd .eq er 0 = false → xcd .ne el 0 = false → xcd .ne bs 0 = true → xcd .ne fi 101 = true → xcd .ne fi 112 = false → xcd .le ev 0 = true → Q (.inl (some (.inl (.int 0)))) (zNm k0, c0, s0, h))
    (k9 : xcd .eq er 0 = false → xcd .ne el 0 = false → xcd .ne bs 0 = true → xcd .ne fi 101 = true → xcd .ne fi 112 = false → xcd .le ev 0 = false → Q (.inl (some (.inl (.int 1)))) (zNm k0, c0, s0, h))
    (k10 : xcd .eq er 0 = false → xcd .ne el 0 = false → xcd .ne bs 0 = true → xcd .ne fi 101 = false → xcd .ne (ev &&& 1) 0 = true → Q (.inl (some (.inl (.int 0)))) (zNm k0, c0, s0, h))
    (k11 : xcd .eq er 0 = false → xcd .ne el 0 = false → xcd .ne bs 0 = true → xcd .ne fi 101 = false → xcd .ne (ev &&& 1) 0 = false → Q (.inl (some (.inl (.int 1)))) (zNm k0, c0, s0, h))
    (k12 : xcd .eq er 0 = false → xcd .ne el 0 = false → xcd .ne bs 0 = false → Q (.inl (some (.inl (.int 0)))) (zNm k0, c0, s0, h)) :
    zW xPP d 75 0 [(0, .inr v), (1, .inr e)] [] (zNm k0, c0, s0, h) Q := by
  refine zW.sn 1 (pc2 := 1) (l2 := [(0, .inr v), (1, .inr e)]) (st2 := [.inr e]) rfl ?_
  refine zW.getf ⟨rfl, rfl⟩ (hw.get 1 rfl) rfl rfl ?_
  refine zW.ifc (tgt := 21) ⟨rfl, rfl⟩ rfl (fun e1 => ?_) (fun e1 => ?_)
  · refine zW.sn 1 (pc2 := 22) (l2 := [(0, .inr v), (1, .inr e)]) (st2 := [.inl (.int 0)]) rfl ?_
    refine zW.ret rfl (zret_z rfl (by decide)) ?_
    exact k1 e1
  · refine zW.sn 1 (pc2 := 8) (l2 := [(0, .inr v), (1, .inr e)]) (st2 := [.inr e]) rfl ?_
    refine zW.getf ⟨rfl, rfl⟩ (hw.get 1 rfl) rfl rfl ?_
    refine zW.ifc (tgt := 23) ⟨rfl, rfl⟩ rfl (fun e2 => ?_) (fun e2 => ?_)
    · refine zW.sn 1 (pc2 := 24) (l2 := [(0, .inr v), (1, .inr e)]) (st2 := [.inr v]) rfl ?_
      refine zW.getf ⟨rfl, rfl⟩ (hw.get 0 rfl) rfl rfl ?_
      refine zW.sn 1 (pc2 := 29) (l2 := [(0, .inr v), (1, .inr e)]) (st2 := [.inl (.int 101), .inl (.int fi)]) rfl ?_
      refine zW.ific (tgt := 47) ⟨rfl, rfl⟩ rfl (fun e3 => ?_) (fun e3 => ?_)
      · refine zW.sn 1 (pc2 := 48) (l2 := [(0, .inr v), (1, .inr e)]) (st2 := [.inr v]) rfl ?_
        refine zW.getf ⟨rfl, rfl⟩ (hw.get 0 rfl) rfl rfl ?_
        refine zW.sn 1 (pc2 := 53) (l2 := [(0, .inr v), (1, .inr e)]) (st2 := [.inl (.int 112), .inl (.int fi)]) rfl ?_
        refine zW.ific (tgt := 63) ⟨rfl, rfl⟩ rfl (fun e4 => ?_) (fun e4 => ?_)
        · refine zW.sn 1 (pc2 := 64) (l2 := [(0, .inr v), (1, .inr e)]) (st2 := [.inl (.int 1)]) rfl ?_
          refine zW.sn 1 (pc2 := 68) (l2 := [(0, .inr v), (1, .inr e)]) (st2 := [.inl (.int 1)]) rfl ?_
          refine zW.ret rfl (zret_z rfl (by decide)) ?_
          exact k2 e1 e2 e3 e4
        · refine zW.sn 1 (pc2 := 57) (l2 := [(0, .inr v), (1, .inr e)]) (st2 := [.inr e]) rfl ?_
          refine zW.getf ⟨rfl, rfl⟩ (hw.get 1 rfl) rfl rfl ?_
          refine zW.ifc (tgt := 67) ⟨rfl, rfl⟩ rfl (fun e5 => ?_) (fun e5 => ?_)
          · refine zW.sn 1 (pc2 := 68) (l2 := [(0, .inr v), (1, .inr e)]) (st2 := [.inl (.int 0)]) rfl ?_
            refine zW.ret rfl (zret_z rfl (by decide)) ?_
            exact k3 e1 e2 e3 e4 e5
          · refine zW.sn 1 (pc2 := 64) (l2 := [(0, .inr v), (1, .inr e)]) (st2 := [.inl (.int 1)]) rfl ?_
            refine zW.sn 1 (pc2 := 68) (l2 := [(0, .inr v), (1, .inr e)]) (st2 := [.inl (.int 1)]) rfl ?_
            refine zW.ret rfl (zret_z rfl (by decide)) ?_
            exact k4 e1 e2 e3 e4 e5
      · refine zW.sn 1 (pc2 := 33) (l2 := [(0, .inr v), (1, .inr e)]) (st2 := [.inr e]) rfl ?_
        refine zW.getf ⟨rfl, rfl⟩ (hw.get 1 rfl) rfl rfl ?_
        refine zW.sn 1 (pc2 := 37) (l2 := [(0, .inr v), (1, .inr e)]) (st2 := [.inl (.int 1), .inl (.int ev)]) rfl ?_
        refine zW.sn 1 (pc2 := 38) (l2 := [(0, .inr v), (1, .inr e)]) (st2 := [.inl (.int (ev &&& 1))]) rfl ?_
        refine zW.ifc (tgt := 45) ⟨rfl, rfl⟩ rfl (fun e6 => ?_) (fun e6 => ?_)
        · refine zW.sn 1 (pc2 := 46) (l2 := [(0, .inr v), (1, .inr e)]) (st2 := [.inl (.int 0)]) rfl ?_
          refine zW.ret rfl (zret_z rfl (by decide)) ?_
          exact k5 e1 e2 e3 e6
        · refine zW.sn 1 (pc2 := 42) (l2 := [(0, .inr v), (1, .inr e)]) (st2 := [.inl (.int 1)]) rfl ?_
          refine zW.sn 1 (pc2 := 46) (l2 := [(0, .inr v), (1, .inr e)]) (st2 := [.inl (.int 1)]) rfl ?_
          refine zW.ret rfl (zret_z rfl (by decide)) ?_
          exact k6 e1 e2 e3 e6
    · refine zW.sn 1 (pc2 := 15) (l2 := [(0, .inr v), (1, .inr e)]) (st2 := [.inr v]) rfl ?_
      refine zW.getf ⟨rfl, rfl⟩ (hw.get 0 rfl) rfl rfl ?_
      refine zW.ifc (tgt := 23) ⟨rfl, rfl⟩ rfl (fun e7 => ?_) (fun e7 => ?_)
      · refine zW.sn 1 (pc2 := 24) (l2 := [(0, .inr v), (1, .inr e)]) (st2 := [.inr v]) rfl ?_
        refine zW.getf ⟨rfl, rfl⟩ (hw.get 0 rfl) rfl rfl ?_
        refine zW.sn 1 (pc2 := 29) (l2 := [(0, .inr v), (1, .inr e)]) (st2 := [.inl (.int 101), .inl (.int fi)]) rfl ?_
        refine zW.ific (tgt := 47) ⟨rfl, rfl⟩ rfl (fun e8 => ?_) (fun e8 => ?_)
        · refine zW.sn 1 (pc2 := 48) (l2 := [(0, .inr v), (1, .inr e)]) (st2 := [.inr v]) rfl ?_
          refine zW.getf ⟨rfl, rfl⟩ (hw.get 0 rfl) rfl rfl ?_
          refine zW.sn 1 (pc2 := 53) (l2 := [(0, .inr v), (1, .inr e)]) (st2 := [.inl (.int 112), .inl (.int fi)]) rfl ?_
          refine zW.ific (tgt := 63) ⟨rfl, rfl⟩ rfl (fun e9 => ?_) (fun e9 => ?_)
          · refine zW.sn 1 (pc2 := 64) (l2 := [(0, .inr v), (1, .inr e)]) (st2 := [.inl (.int 1)]) rfl ?_
            refine zW.sn 1 (pc2 := 68) (l2 := [(0, .inr v), (1, .inr e)]) (st2 := [.inl (.int 1)]) rfl ?_
            refine zW.ret rfl (zret_z rfl (by decide)) ?_
            exact k7 e1 e2 e7 e8 e9
          · refine zW.sn 1 (pc2 := 57) (l2 := [(0, .inr v), (1, .inr e)]) (st2 := [.inr e]) rfl ?_
            refine zW.getf ⟨rfl, rfl⟩ (hw.get 1 rfl) rfl rfl ?_
            refine zW.ifc (tgt := 67) ⟨rfl, rfl⟩ rfl (fun e10 => ?_) (fun e10 => ?_)
            · refine zW.sn 1 (pc2 := 68) (l2 := [(0, .inr v), (1, .inr e)]) (st2 := [.inl (.int 0)]) rfl ?_
              refine zW.ret rfl (zret_z rfl (by decide)) ?_
              exact k8 e1 e2 e7 e8 e9 e10
            · refine zW.sn 1 (pc2 := 64) (l2 := [(0, .inr v), (1, .inr e)]) (st2 := [.inl (.int 1)]) rfl ?_
              refine zW.sn 1 (pc2 := 68) (l2 := [(0, .inr v), (1, .inr e)]) (st2 := [.inl (.int 1)]) rfl ?_
              refine zW.ret rfl (zret_z rfl (by decide)) ?_
              exact k9 e1 e2 e7 e8 e9 e10
        · refine zW.sn 1 (pc2 := 33) (l2 := [(0, .inr v), (1, .inr e)]) (st2 := [.inr e]) rfl ?_
          refine zW.getf ⟨rfl, rfl⟩ (hw.get 1 rfl) rfl rfl ?_
          refine zW.sn 1 (pc2 := 37) (l2 := [(0, .inr v), (1, .inr e)]) (st2 := [.inl (.int 1), .inl (.int ev)]) rfl ?_
          refine zW.sn 1 (pc2 := 38) (l2 := [(0, .inr v), (1, .inr e)]) (st2 := [.inl (.int (ev &&& 1))]) rfl ?_
          refine zW.ifc (tgt := 45) ⟨rfl, rfl⟩ rfl (fun e11 => ?_) (fun e11 => ?_)
          · refine zW.sn 1 (pc2 := 46) (l2 := [(0, .inr v), (1, .inr e)]) (st2 := [.inl (.int 0)]) rfl ?_
            refine zW.ret rfl (zret_z rfl (by decide)) ?_
            exact k10 e1 e2 e7 e8 e11
          · refine zW.sn 1 (pc2 := 42) (l2 := [(0, .inr v), (1, .inr e)]) (st2 := [.inl (.int 1)]) rfl ?_
            refine zW.sn 1 (pc2 := 46) (l2 := [(0, .inr v), (1, .inr e)]) (st2 := [.inl (.int 1)]) rfl ?_
            refine zW.ret rfl (zret_z rfl (by decide)) ?_
            exact k11 e1 e2 e7 e8 e11
      · refine zW.sn 1 (pc2 := 22) (l2 := [(0, .inr v), (1, .inr e)]) (st2 := [.inl (.int 0)]) rfl ?_
        refine zW.ret rfl (zret_z rfl (by decide)) ?_
        exact k12 e1 e2 e7

set_option maxHeartbeats 4000000 in
theorem w_tlW {d : Nat} {k0 c0 s0 : Nat} {h : xH} {Q : xR → xA → Prop} {v o tr fr hd : Nat × Nat} {nu bs fi sz gr dr : Int32} {rw ag : Nat × Nat} {me sp wi : Int32} {e : Nat × Nat} {ep er el ek et ev eo ea eb : Int32}  (hw : zWd h [(v, .inl (9, [.inl (.int nu), .inl (.int bs), .inl (.int fi), .inl (.int sz), .inl (.int gr), .inr o, .inr tr, .inr fr, .inr hd, .inl (.int dr), .inl (.int me), .inl (.int sp), .inl (.int wi), .inr rw, .inr ag])), (e, .inl (1, [.inl (.int ep), .inl (.int er), .inl (.int el), .inl (.int ek), .inl (.int et), .inl (.int ev), .inl (.int eo), .inl (.int ea), .inl (.int eb)]))])
    (k1 : xcd .lt ea (((et + sz) + 1) + gr) = true → Q (.inl (some (.inl (.int 0)))) (zNm k0, c0, s0, h))
    (k2 : xcd .lt ea (((et + sz) + 1) + gr) = false → Q (.inl (some (.inl (.int 1)))) (zNm k0, c0, s0, h)) :
    zW xPP d 84 0 [(0, .inr v), (1, .inr e)] [] (zNm k0, c0, s0, h) Q := by
  refine zW.sn 1 (pc2 := 1) (l2 := [(0, .inr v), (1, .inr e)]) (st2 := [.inr e]) rfl ?_
  refine zW.getf ⟨rfl, rfl⟩ (hw.get 1 rfl) rfl rfl ?_
  refine zW.sn 1 (pc2 := 5) (l2 := [(0, .inr v), (1, .inr e)]) (st2 := [.inr e, .inl (.int ea)]) rfl ?_
  refine zW.getf ⟨rfl, rfl⟩ (hw.get 1 rfl) rfl rfl ?_
  refine zW.sn 1 (pc2 := 9) (l2 := [(0, .inr v), (1, .inr e)]) (st2 := [.inr v, .inl (.int et), .inl (.int ea)]) rfl ?_
  refine zW.getf ⟨rfl, rfl⟩ (hw.get 0 rfl) rfl rfl ?_
  refine zW.sn 1 (pc2 := 13) (l2 := [(0, .inr v), (1, .inr e)]) (st2 := [.inl (.int (et + sz)), .inl (.int ea)]) rfl ?_
  refine zW.sn 1 (pc2 := 14) (l2 := [(0, .inr v), (1, .inr e)]) (st2 := [.inl (.int 1), .inl (.int (et + sz)), .inl (.int ea)]) rfl ?_
  refine zW.sn 1 (pc2 := 15) (l2 := [(0, .inr v), (1, .inr e)]) (st2 := [.inl (.int ((et + sz) + 1)), .inl (.int ea)]) rfl ?_
  refine zW.sn 1 (pc2 := 16) (l2 := [(0, .inr v), (1, .inr e)]) (st2 := [.inr v, .inl (.int ((et + sz) + 1)), .inl (.int ea)]) rfl ?_
  refine zW.getf ⟨rfl, rfl⟩ (hw.get 0 rfl) rfl rfl ?_
  refine zW.sn 1 (pc2 := 20) (l2 := [(0, .inr v), (1, .inr e)]) (st2 := [.inl (.int (((et + sz) + 1) + gr)), .inl (.int ea)]) rfl ?_
  refine zW.ific (tgt := 27) ⟨rfl, rfl⟩ rfl (fun e1 => ?_) (fun e1 => ?_)
  · refine zW.sn 1 (pc2 := 28) (l2 := [(0, .inr v), (1, .inr e)]) (st2 := [.inl (.int 0)]) rfl ?_
    refine zW.ret rfl (zret_z rfl (by decide)) ?_
    exact k1 e1
  · refine zW.sn 1 (pc2 := 24) (l2 := [(0, .inr v), (1, .inr e)]) (st2 := [.inl (.int 1)]) rfl ?_
    refine zW.sn 1 (pc2 := 28) (l2 := [(0, .inr v), (1, .inr e)]) (st2 := [.inl (.int 1)]) rfl ?_
    refine zW.ret rfl (zret_z rfl (by decide)) ?_
    exact k2 e1

set_option maxHeartbeats 4000000 in
theorem w_holdW {d : Nat} {k0 c0 s0 : Nat} {h : xH} {Q : xR → xA → Prop} {v o tr fr hd : Nat × Nat} {nu bs fi sz gr dr : Int32} {rw ag : Nat × Nat} {me sp wi : Int32} {HN : Nat} {hf : Nat → Int32} {x y : Int32} (hn_HN : HN < 2147483648) (hw : zWd h [(v, .inl (9, [.inl (.int nu), .inl (.int bs), .inl (.int fi), .inl (.int sz), .inl (.int gr), .inr o, .inr tr, .inr fr, .inr hd, .inl (.int dr), .inl (.int me), .inl (.int sp), .inl (.int wi), .inr rw, .inr ag])), (hd, .inr (0, HN, zI hf))])
    (k1 : xcd .lt x 0 = true → Q (.inl none) (zNm k0, c0, s0, h))
    (k2 : xcd .lt x 0 = false → xcd .ge x (Int32.ofNat HN) = true → Q (.inl none) (zNm k0, c0, s0, h))
    (k3 : ∀ h1, zWd h1 [(v, .inl (9, [.inl (.int nu), .inl (.int bs), .inl (.int fi), .inl (.int sz), .inl (.int gr), .inr o, .inr tr, .inr fr, .inr hd, .inl (.int dr), .inl (.int me), .inl (.int sp), .inl (.int wi), .inr rw, .inr ag])), (hd, .inr (0, HN, zI (zfi hf (Int32.toNatClampNeg x) ((hf (Int32.toNatClampNeg x)) + y))))] → zFr [v, hd] h h1 → xcd .lt x 0 = false → xcd .ge x (Int32.ofNat HN) = false → Q (.inl none) (zNm k0, c0, s0, h1)) :
    zW xPP d 81 0 [(0, .inr v), (1, .inl (.int x)), (2, .inl (.int y))] [] (zNm k0, c0, s0, h) Q := by
  refine zW.sn 1 (pc2 := 1) (l2 := [(0, .inr v), (1, .inl (.int x)), (2, .inl (.int y))]) (st2 := [.inl (.int x)]) rfl ?_
  refine zW.ifc (tgt := 23) ⟨rfl, rfl⟩ rfl (fun e1 => ?_) (fun e1 => ?_)
  · refine zW.ret rfl rfl ?_
    exact k1 e1
  · refine zW.sn 1 (pc2 := 5) (l2 := [(0, .inr v), (1, .inl (.int x)), (2, .inl (.int y))]) (st2 := [.inl (.int x)]) rfl ?_
    refine zW.sn 1 (pc2 := 6) (l2 := [(0, .inr v), (1, .inl (.int x)), (2, .inl (.int y))]) (st2 := [.inr v, .inl (.int x)]) rfl ?_
    refine zW.getf ⟨rfl, rfl⟩ (hw.get 0 rfl) rfl rfl ?_
    refine zW.alen ⟨rfl, rfl⟩ (hw.get 1 rfl) ?_
    refine zW.ific (tgt := 23) ⟨rfl, rfl⟩ rfl (fun e2 => ?_) (fun e2 => ?_)
    · refine zW.ret rfl rfl ?_
      exact k2 e1 e2
    · refine zW.sn 1 (pc2 := 14) (l2 := [(0, .inr v), (1, .inl (.int x)), (2, .inl (.int y))]) (st2 := [.inr v]) rfl ?_
      refine zW.getf ⟨rfl, rfl⟩ (hw.get 0 rfl) rfl rfl ?_
      refine zW.sn 1 (pc2 := 18) (l2 := [(0, .inr v), (1, .inl (.int x)), (2, .inl (.int y))]) (st2 := [.inl (.int x), .inr hd]) rfl ?_
      refine zW.sn 1 (pc2 := 19) (l2 := [(0, .inr v), (1, .inl (.int x)), (2, .inl (.int y))]) (st2 := [.inl (.int x), .inr hd, .inl (.int x), .inr hd]) rfl ?_
      refine zW.iald ⟨rfl, rfl⟩ (hw.get 1 rfl) (zin (zcd_nlt e1) (zcd_nge e2) hn_HN) ?_
      refine zW.sn 1 (pc2 := 21) (l2 := [(0, .inr v), (1, .inl (.int x)), (2, .inl (.int y))]) (st2 := [.inl (.int y), .inl (.int (hf (Int32.toNatClampNeg x))), .inl (.int x), .inr hd]) rfl ?_
      refine zW.sn 1 (pc2 := 22) (l2 := [(0, .inr v), (1, .inl (.int x)), (2, .inl (.int y))]) (st2 := [.inl (.int ((hf (Int32.toNatClampNeg x)) + y)), .inl (.int x), .inr hd]) rfl ?_
      refine zW.iast ⟨rfl, rfl⟩ (hw.get 1 rfl) (hw.nz 1 rfl) (zin (zcd_nlt e1) (zcd_nge e2) hn_HN) ?_
      have hw1 := hw.set 1 rfl (.inr (0, HN, zI (zfi hf (Int32.toNatClampNeg x) ((hf (Int32.toNatClampNeg x)) + y))))
      have hf1 : zFr [v, hd] h _ := zFr.put (zFr.rf) (q := hd) (o := .inr (0, HN, zI (zfi hf (Int32.toNatClampNeg x) ((hf (Int32.toNatClampNeg x)) + y)))) (List.mem_of_getElem? (i := 1) rfl)
      show zW xPP _ 81 23 [(0, .inr v), (1, .inl (.int x)), (2, .inl (.int y))] [] (zNm k0, c0, s0, (xup h hd (.inr (0, HN, zI (zfi hf (Int32.toNatClampNeg x) ((hf (Int32.toNatClampNeg x)) + y)))))) _
      refine zW.ret rfl rfl ?_
      exact k3 _ hw1 hf1 e1 e2

set_option maxHeartbeats 4000000 in
theorem w_resOf {d : Nat} {k0 c0 s0 : Nat} {h : xH} {Q : xR → xA → Prop} {a b c f g : Int32}  (hw : zWd h [])
    (k1 : Q (.inl (some (.inl (.long ((((((Int64.ofNat 576460752303423488) ||| ((Int32.toInt64 (a &&& 7)) <<< (Int32.toInt64 56 &&& 63))) ||| ((Int32.toInt64 (b &&& 7)) <<< (Int32.toInt64 53 &&& 63))) ||| ((Int32.toInt64 (c &&& 1023)) <<< (Int32.toInt64 43 &&& 63))) ||| ((Int32.toInt64 ((f + 1) &&& 2047)) <<< (Int32.toInt64 32 &&& 63))) ||| ((Int32.toInt64 g) &&& (Int64.ofNat 4294967295))))))) (zNm k0, c0, s0, h)) :
    zW xPP d 14 0 [(0, .inl (.int a)), (1, .inl (.int b)), (2, .inl (.int c)), (3, .inl (.int f)), (4, .inl (.int g))] [] (zNm k0, c0, s0, h) Q := by
  refine zW.s2 ⟨rfl, rfl⟩ (fun _ => rfl) rfl rfl ?_
  refine zW.sn 1 (pc2 := 4) (l2 := [(0, .inl (.int a)), (1, .inl (.int b)), (2, .inl (.int c)), (3, .inl (.int f)), (4, .inl (.int g))]) (st2 := [.inl (.int a), .inl (.long (Int64.ofNat 576460752303423488))]) rfl ?_
  refine zW.sn 1 (pc2 := 6) (l2 := [(0, .inl (.int a)), (1, .inl (.int b)), (2, .inl (.int c)), (3, .inl (.int f)), (4, .inl (.int g))]) (st2 := [.inl (.int 7), .inl (.int a), .inl (.long (Int64.ofNat 576460752303423488))]) rfl ?_
  refine zW.sn 1 (pc2 := 7) (l2 := [(0, .inl (.int a)), (1, .inl (.int b)), (2, .inl (.int c)), (3, .inl (.int f)), (4, .inl (.int g))]) (st2 := [.inl (.int (a &&& 7)), .inl (.long (Int64.ofNat 576460752303423488))]) rfl ?_
  refine zW.sn 1 (pc2 := 8) (l2 := [(0, .inl (.int a)), (1, .inl (.int b)), (2, .inl (.int c)), (3, .inl (.int f)), (4, .inl (.int g))]) (st2 := [.inl (.long (Int32.toInt64 (a &&& 7))), .inl (.long (Int64.ofNat 576460752303423488))]) rfl ?_
  refine zW.sn 1 (pc2 := 10) (l2 := [(0, .inl (.int a)), (1, .inl (.int b)), (2, .inl (.int c)), (3, .inl (.int f)), (4, .inl (.int g))]) (st2 := [.inl (.int 56), .inl (.long (Int32.toInt64 (a &&& 7))), .inl (.long (Int64.ofNat 576460752303423488))]) rfl ?_
  refine zW.sn 1 (pc2 := 11) (l2 := [(0, .inl (.int a)), (1, .inl (.int b)), (2, .inl (.int c)), (3, .inl (.int f)), (4, .inl (.int g))]) (st2 := [.inl (.long ((Int32.toInt64 (a &&& 7)) <<< (Int32.toInt64 56 &&& 63))), .inl (.long (Int64.ofNat 576460752303423488))]) rfl ?_
  refine zW.sn 1 (pc2 := 12) (l2 := [(0, .inl (.int a)), (1, .inl (.int b)), (2, .inl (.int c)), (3, .inl (.int f)), (4, .inl (.int g))]) (st2 := [.inl (.long ((Int64.ofNat 576460752303423488) ||| ((Int32.toInt64 (a &&& 7)) <<< (Int32.toInt64 56 &&& 63))))]) rfl ?_
  refine zW.sn 1 (pc2 := 13) (l2 := [(0, .inl (.int a)), (1, .inl (.int b)), (2, .inl (.int c)), (3, .inl (.int f)), (4, .inl (.int g))]) (st2 := [.inl (.int b), .inl (.long ((Int64.ofNat 576460752303423488) ||| ((Int32.toInt64 (a &&& 7)) <<< (Int32.toInt64 56 &&& 63))))]) rfl ?_
  refine zW.sn 1 (pc2 := 15) (l2 := [(0, .inl (.int a)), (1, .inl (.int b)), (2, .inl (.int c)), (3, .inl (.int f)), (4, .inl (.int g))]) (st2 := [.inl (.int 7), .inl (.int b), .inl (.long ((Int64.ofNat 576460752303423488) ||| ((Int32.toInt64 (a &&& 7)) <<< (Int32.toInt64 56 &&& 63))))]) rfl ?_
  refine zW.sn 1 (pc2 := 16) (l2 := [(0, .inl (.int a)), (1, .inl (.int b)), (2, .inl (.int c)), (3, .inl (.int f)), (4, .inl (.int g))]) (st2 := [.inl (.int (b &&& 7)), .inl (.long ((Int64.ofNat 576460752303423488) ||| ((Int32.toInt64 (a &&& 7)) <<< (Int32.toInt64 56 &&& 63))))]) rfl ?_
  refine zW.sn 1 (pc2 := 17) (l2 := [(0, .inl (.int a)), (1, .inl (.int b)), (2, .inl (.int c)), (3, .inl (.int f)), (4, .inl (.int g))]) (st2 := [.inl (.long (Int32.toInt64 (b &&& 7))), .inl (.long ((Int64.ofNat 576460752303423488) ||| ((Int32.toInt64 (a &&& 7)) <<< (Int32.toInt64 56 &&& 63))))]) rfl ?_
  refine zW.sn 1 (pc2 := 19) (l2 := [(0, .inl (.int a)), (1, .inl (.int b)), (2, .inl (.int c)), (3, .inl (.int f)), (4, .inl (.int g))]) (st2 := [.inl (.int 53), .inl (.long (Int32.toInt64 (b &&& 7))), .inl (.long ((Int64.ofNat 576460752303423488) ||| ((Int32.toInt64 (a &&& 7)) <<< (Int32.toInt64 56 &&& 63))))]) rfl ?_
  refine zW.sn 1 (pc2 := 20) (l2 := [(0, .inl (.int a)), (1, .inl (.int b)), (2, .inl (.int c)), (3, .inl (.int f)), (4, .inl (.int g))]) (st2 := [.inl (.long ((Int32.toInt64 (b &&& 7)) <<< (Int32.toInt64 53 &&& 63))), .inl (.long ((Int64.ofNat 576460752303423488) ||| ((Int32.toInt64 (a &&& 7)) <<< (Int32.toInt64 56 &&& 63))))]) rfl ?_
  refine zW.sn 1 (pc2 := 21) (l2 := [(0, .inl (.int a)), (1, .inl (.int b)), (2, .inl (.int c)), (3, .inl (.int f)), (4, .inl (.int g))]) (st2 := [.inl (.long (((Int64.ofNat 576460752303423488) ||| ((Int32.toInt64 (a &&& 7)) <<< (Int32.toInt64 56 &&& 63))) ||| ((Int32.toInt64 (b &&& 7)) <<< (Int32.toInt64 53 &&& 63))))]) rfl ?_
  refine zW.sn 1 (pc2 := 22) (l2 := [(0, .inl (.int a)), (1, .inl (.int b)), (2, .inl (.int c)), (3, .inl (.int f)), (4, .inl (.int g))]) (st2 := [.inl (.int c), .inl (.long (((Int64.ofNat 576460752303423488) ||| ((Int32.toInt64 (a &&& 7)) <<< (Int32.toInt64 56 &&& 63))) ||| ((Int32.toInt64 (b &&& 7)) <<< (Int32.toInt64 53 &&& 63))))]) rfl ?_
  refine zW.sn 1 (pc2 := 25) (l2 := [(0, .inl (.int a)), (1, .inl (.int b)), (2, .inl (.int c)), (3, .inl (.int f)), (4, .inl (.int g))]) (st2 := [.inl (.int 1023), .inl (.int c), .inl (.long (((Int64.ofNat 576460752303423488) ||| ((Int32.toInt64 (a &&& 7)) <<< (Int32.toInt64 56 &&& 63))) ||| ((Int32.toInt64 (b &&& 7)) <<< (Int32.toInt64 53 &&& 63))))]) rfl ?_
  refine zW.sn 1 (pc2 := 26) (l2 := [(0, .inl (.int a)), (1, .inl (.int b)), (2, .inl (.int c)), (3, .inl (.int f)), (4, .inl (.int g))]) (st2 := [.inl (.int (c &&& 1023)), .inl (.long (((Int64.ofNat 576460752303423488) ||| ((Int32.toInt64 (a &&& 7)) <<< (Int32.toInt64 56 &&& 63))) ||| ((Int32.toInt64 (b &&& 7)) <<< (Int32.toInt64 53 &&& 63))))]) rfl ?_
  refine zW.sn 1 (pc2 := 27) (l2 := [(0, .inl (.int a)), (1, .inl (.int b)), (2, .inl (.int c)), (3, .inl (.int f)), (4, .inl (.int g))]) (st2 := [.inl (.long (Int32.toInt64 (c &&& 1023))), .inl (.long (((Int64.ofNat 576460752303423488) ||| ((Int32.toInt64 (a &&& 7)) <<< (Int32.toInt64 56 &&& 63))) ||| ((Int32.toInt64 (b &&& 7)) <<< (Int32.toInt64 53 &&& 63))))]) rfl ?_
  refine zW.sn 1 (pc2 := 29) (l2 := [(0, .inl (.int a)), (1, .inl (.int b)), (2, .inl (.int c)), (3, .inl (.int f)), (4, .inl (.int g))]) (st2 := [.inl (.int 43), .inl (.long (Int32.toInt64 (c &&& 1023))), .inl (.long (((Int64.ofNat 576460752303423488) ||| ((Int32.toInt64 (a &&& 7)) <<< (Int32.toInt64 56 &&& 63))) ||| ((Int32.toInt64 (b &&& 7)) <<< (Int32.toInt64 53 &&& 63))))]) rfl ?_
  refine zW.sn 1 (pc2 := 30) (l2 := [(0, .inl (.int a)), (1, .inl (.int b)), (2, .inl (.int c)), (3, .inl (.int f)), (4, .inl (.int g))]) (st2 := [.inl (.long ((Int32.toInt64 (c &&& 1023)) <<< (Int32.toInt64 43 &&& 63))), .inl (.long (((Int64.ofNat 576460752303423488) ||| ((Int32.toInt64 (a &&& 7)) <<< (Int32.toInt64 56 &&& 63))) ||| ((Int32.toInt64 (b &&& 7)) <<< (Int32.toInt64 53 &&& 63))))]) rfl ?_
  refine zW.sn 1 (pc2 := 31) (l2 := [(0, .inl (.int a)), (1, .inl (.int b)), (2, .inl (.int c)), (3, .inl (.int f)), (4, .inl (.int g))]) (st2 := [.inl (.long ((((Int64.ofNat 576460752303423488) ||| ((Int32.toInt64 (a &&& 7)) <<< (Int32.toInt64 56 &&& 63))) ||| ((Int32.toInt64 (b &&& 7)) <<< (Int32.toInt64 53 &&& 63))) ||| ((Int32.toInt64 (c &&& 1023)) <<< (Int32.toInt64 43 &&& 63))))]) rfl ?_
  refine zW.sn 1 (pc2 := 32) (l2 := [(0, .inl (.int a)), (1, .inl (.int b)), (2, .inl (.int c)), (3, .inl (.int f)), (4, .inl (.int g))]) (st2 := [.inl (.int f), .inl (.long ((((Int64.ofNat 576460752303423488) ||| ((Int32.toInt64 (a &&& 7)) <<< (Int32.toInt64 56 &&& 63))) ||| ((Int32.toInt64 (b &&& 7)) <<< (Int32.toInt64 53 &&& 63))) ||| ((Int32.toInt64 (c &&& 1023)) <<< (Int32.toInt64 43 &&& 63))))]) rfl ?_
  refine zW.sn 1 (pc2 := 33) (l2 := [(0, .inl (.int a)), (1, .inl (.int b)), (2, .inl (.int c)), (3, .inl (.int f)), (4, .inl (.int g))]) (st2 := [.inl (.int 1), .inl (.int f), .inl (.long ((((Int64.ofNat 576460752303423488) ||| ((Int32.toInt64 (a &&& 7)) <<< (Int32.toInt64 56 &&& 63))) ||| ((Int32.toInt64 (b &&& 7)) <<< (Int32.toInt64 53 &&& 63))) ||| ((Int32.toInt64 (c &&& 1023)) <<< (Int32.toInt64 43 &&& 63))))]) rfl ?_
  refine zW.sn 1 (pc2 := 34) (l2 := [(0, .inl (.int a)), (1, .inl (.int b)), (2, .inl (.int c)), (3, .inl (.int f)), (4, .inl (.int g))]) (st2 := [.inl (.int (f + 1)), .inl (.long ((((Int64.ofNat 576460752303423488) ||| ((Int32.toInt64 (a &&& 7)) <<< (Int32.toInt64 56 &&& 63))) ||| ((Int32.toInt64 (b &&& 7)) <<< (Int32.toInt64 53 &&& 63))) ||| ((Int32.toInt64 (c &&& 1023)) <<< (Int32.toInt64 43 &&& 63))))]) rfl ?_
  refine zW.sn 1 (pc2 := 37) (l2 := [(0, .inl (.int a)), (1, .inl (.int b)), (2, .inl (.int c)), (3, .inl (.int f)), (4, .inl (.int g))]) (st2 := [.inl (.int 2047), .inl (.int (f + 1)), .inl (.long ((((Int64.ofNat 576460752303423488) ||| ((Int32.toInt64 (a &&& 7)) <<< (Int32.toInt64 56 &&& 63))) ||| ((Int32.toInt64 (b &&& 7)) <<< (Int32.toInt64 53 &&& 63))) ||| ((Int32.toInt64 (c &&& 1023)) <<< (Int32.toInt64 43 &&& 63))))]) rfl ?_
  refine zW.sn 1 (pc2 := 38) (l2 := [(0, .inl (.int a)), (1, .inl (.int b)), (2, .inl (.int c)), (3, .inl (.int f)), (4, .inl (.int g))]) (st2 := [.inl (.int ((f + 1) &&& 2047)), .inl (.long ((((Int64.ofNat 576460752303423488) ||| ((Int32.toInt64 (a &&& 7)) <<< (Int32.toInt64 56 &&& 63))) ||| ((Int32.toInt64 (b &&& 7)) <<< (Int32.toInt64 53 &&& 63))) ||| ((Int32.toInt64 (c &&& 1023)) <<< (Int32.toInt64 43 &&& 63))))]) rfl ?_
  refine zW.sn 1 (pc2 := 39) (l2 := [(0, .inl (.int a)), (1, .inl (.int b)), (2, .inl (.int c)), (3, .inl (.int f)), (4, .inl (.int g))]) (st2 := [.inl (.long (Int32.toInt64 ((f + 1) &&& 2047))), .inl (.long ((((Int64.ofNat 576460752303423488) ||| ((Int32.toInt64 (a &&& 7)) <<< (Int32.toInt64 56 &&& 63))) ||| ((Int32.toInt64 (b &&& 7)) <<< (Int32.toInt64 53 &&& 63))) ||| ((Int32.toInt64 (c &&& 1023)) <<< (Int32.toInt64 43 &&& 63))))]) rfl ?_
  refine zW.sn 1 (pc2 := 41) (l2 := [(0, .inl (.int a)), (1, .inl (.int b)), (2, .inl (.int c)), (3, .inl (.int f)), (4, .inl (.int g))]) (st2 := [.inl (.int 32), .inl (.long (Int32.toInt64 ((f + 1) &&& 2047))), .inl (.long ((((Int64.ofNat 576460752303423488) ||| ((Int32.toInt64 (a &&& 7)) <<< (Int32.toInt64 56 &&& 63))) ||| ((Int32.toInt64 (b &&& 7)) <<< (Int32.toInt64 53 &&& 63))) ||| ((Int32.toInt64 (c &&& 1023)) <<< (Int32.toInt64 43 &&& 63))))]) rfl ?_
  refine zW.sn 1 (pc2 := 42) (l2 := [(0, .inl (.int a)), (1, .inl (.int b)), (2, .inl (.int c)), (3, .inl (.int f)), (4, .inl (.int g))]) (st2 := [.inl (.long ((Int32.toInt64 ((f + 1) &&& 2047)) <<< (Int32.toInt64 32 &&& 63))), .inl (.long ((((Int64.ofNat 576460752303423488) ||| ((Int32.toInt64 (a &&& 7)) <<< (Int32.toInt64 56 &&& 63))) ||| ((Int32.toInt64 (b &&& 7)) <<< (Int32.toInt64 53 &&& 63))) ||| ((Int32.toInt64 (c &&& 1023)) <<< (Int32.toInt64 43 &&& 63))))]) rfl ?_
  refine zW.sn 1 (pc2 := 43) (l2 := [(0, .inl (.int a)), (1, .inl (.int b)), (2, .inl (.int c)), (3, .inl (.int f)), (4, .inl (.int g))]) (st2 := [.inl (.long (((((Int64.ofNat 576460752303423488) ||| ((Int32.toInt64 (a &&& 7)) <<< (Int32.toInt64 56 &&& 63))) ||| ((Int32.toInt64 (b &&& 7)) <<< (Int32.toInt64 53 &&& 63))) ||| ((Int32.toInt64 (c &&& 1023)) <<< (Int32.toInt64 43 &&& 63))) ||| ((Int32.toInt64 ((f + 1) &&& 2047)) <<< (Int32.toInt64 32 &&& 63))))]) rfl ?_
  refine zW.sn 1 (pc2 := 45) (l2 := [(0, .inl (.int a)), (1, .inl (.int b)), (2, .inl (.int c)), (3, .inl (.int f)), (4, .inl (.int g))]) (st2 := [.inl (.int g), .inl (.long (((((Int64.ofNat 576460752303423488) ||| ((Int32.toInt64 (a &&& 7)) <<< (Int32.toInt64 56 &&& 63))) ||| ((Int32.toInt64 (b &&& 7)) <<< (Int32.toInt64 53 &&& 63))) ||| ((Int32.toInt64 (c &&& 1023)) <<< (Int32.toInt64 43 &&& 63))) ||| ((Int32.toInt64 ((f + 1) &&& 2047)) <<< (Int32.toInt64 32 &&& 63))))]) rfl ?_
  refine zW.sn 1 (pc2 := 46) (l2 := [(0, .inl (.int a)), (1, .inl (.int b)), (2, .inl (.int c)), (3, .inl (.int f)), (4, .inl (.int g))]) (st2 := [.inl (.long (Int32.toInt64 g)), .inl (.long (((((Int64.ofNat 576460752303423488) ||| ((Int32.toInt64 (a &&& 7)) <<< (Int32.toInt64 56 &&& 63))) ||| ((Int32.toInt64 (b &&& 7)) <<< (Int32.toInt64 53 &&& 63))) ||| ((Int32.toInt64 (c &&& 1023)) <<< (Int32.toInt64 43 &&& 63))) ||| ((Int32.toInt64 ((f + 1) &&& 2047)) <<< (Int32.toInt64 32 &&& 63))))]) rfl ?_
  refine zW.s2 ⟨rfl, rfl⟩ (fun _ => rfl) rfl rfl ?_
  refine zW.sn 1 (pc2 := 50) (l2 := [(0, .inl (.int a)), (1, .inl (.int b)), (2, .inl (.int c)), (3, .inl (.int f)), (4, .inl (.int g))]) (st2 := [.inl (.long ((Int32.toInt64 g) &&& (Int64.ofNat 4294967295))), .inl (.long (((((Int64.ofNat 576460752303423488) ||| ((Int32.toInt64 (a &&& 7)) <<< (Int32.toInt64 56 &&& 63))) ||| ((Int32.toInt64 (b &&& 7)) <<< (Int32.toInt64 53 &&& 63))) ||| ((Int32.toInt64 (c &&& 1023)) <<< (Int32.toInt64 43 &&& 63))) ||| ((Int32.toInt64 ((f + 1) &&& 2047)) <<< (Int32.toInt64 32 &&& 63))))]) rfl ?_
  refine zW.sn 1 (pc2 := 51) (l2 := [(0, .inl (.int a)), (1, .inl (.int b)), (2, .inl (.int c)), (3, .inl (.int f)), (4, .inl (.int g))]) (st2 := [.inl (.long ((((((Int64.ofNat 576460752303423488) ||| ((Int32.toInt64 (a &&& 7)) <<< (Int32.toInt64 56 &&& 63))) ||| ((Int32.toInt64 (b &&& 7)) <<< (Int32.toInt64 53 &&& 63))) ||| ((Int32.toInt64 (c &&& 1023)) <<< (Int32.toInt64 43 &&& 63))) ||| ((Int32.toInt64 ((f + 1) &&& 2047)) <<< (Int32.toInt64 32 &&& 63))) ||| ((Int32.toInt64 g) &&& (Int64.ofNat 4294967295))))]) rfl ?_
  refine zW.ret rfl rfl ?_
  exact k1

set_option maxHeartbeats 4000000 in
theorem w_viewIn {d : Nat} {k0 c0 s0 : Nat} {h : xH} {Q : xR → xA → Prop} {x : Int64}  (hw : zWd h [])
    (k1 : Q (.inl (some (.inl (.int ((Int64.toInt32 (Int64.toUInt64 x >>> (Int64.toUInt64 (Int32.toInt64 56) &&& Int64.toUInt64 63)).toInt64) &&& 7))))) (zNm k0, c0, s0, h)) :
    zW xPP d 15 0 [(0, .inl (.long x))] [] (zNm k0, c0, s0, h) Q := by
  refine zW.sn 1 (pc2 := 1) (l2 := [(0, .inl (.long x))]) (st2 := [.inl (.long x)]) rfl ?_
  refine zW.sn 1 (pc2 := 3) (l2 := [(0, .inl (.long x))]) (st2 := [.inl (.int 56), .inl (.long x)]) rfl ?_
  refine zW.sn 1 (pc2 := 4) (l2 := [(0, .inl (.long x))]) (st2 := [.inl (.long (Int64.toUInt64 x >>> (Int64.toUInt64 (Int32.toInt64 56) &&& Int64.toUInt64 63)).toInt64)]) rfl ?_
  refine zW.sn 1 (pc2 := 5) (l2 := [(0, .inl (.long x))]) (st2 := [.inl (.int (Int64.toInt32 (Int64.toUInt64 x >>> (Int64.toUInt64 (Int32.toInt64 56) &&& Int64.toUInt64 63)).toInt64))]) rfl ?_
  refine zW.sn 1 (pc2 := 7) (l2 := [(0, .inl (.long x))]) (st2 := [.inl (.int 7), .inl (.int (Int64.toInt32 (Int64.toUInt64 x >>> (Int64.toUInt64 (Int32.toInt64 56) &&& Int64.toUInt64 63)).toInt64))]) rfl ?_
  refine zW.sn 1 (pc2 := 8) (l2 := [(0, .inl (.long x))]) (st2 := [.inl (.int ((Int64.toInt32 (Int64.toUInt64 x >>> (Int64.toUInt64 (Int32.toInt64 56) &&& Int64.toUInt64 63)).toInt64) &&& 7))]) rfl ?_
  refine zW.ret rfl rfl ?_
  exact k1

set_option maxHeartbeats 4000000 in
theorem w_signIn {d : Nat} {k0 c0 s0 : Nat} {h : xH} {Q : xR → xA → Prop} {x : Int64}  (hw : zWd h [])
    (k1 : xcd .ne (lg_cmp (x &&& (Int64.ofNat 1152921504606846976)) 0) 0 = true → Q (.inl (some (.inl (.int (-1))))) (zNm k0, c0, s0, h))
    (k2 : xcd .ne (lg_cmp (x &&& (Int64.ofNat 1152921504606846976)) 0) 0 = false → Q (.inl (some (.inl (.int 1)))) (zNm k0, c0, s0, h)) :
    zW xPP d 20 0 [(0, .inl (.long x))] [] (zNm k0, c0, s0, h) Q := by
  refine zW.sn 1 (pc2 := 1) (l2 := [(0, .inl (.long x))]) (st2 := [.inl (.long x)]) rfl ?_
  refine zW.s2 ⟨rfl, rfl⟩ (fun _ => rfl) rfl rfl ?_
  refine zW.sn 1 (pc2 := 5) (l2 := [(0, .inl (.long x))]) (st2 := [.inl (.long (x &&& (Int64.ofNat 1152921504606846976)))]) rfl ?_
  refine zW.sn 1 (pc2 := 6) (l2 := [(0, .inl (.long x))]) (st2 := [.inl (.long 0), .inl (.long (x &&& (Int64.ofNat 1152921504606846976)))]) rfl ?_
  refine zW.sn 1 (pc2 := 7) (l2 := [(0, .inl (.long x))]) (st2 := [.inl (.int (lg_cmp (x &&& (Int64.ofNat 1152921504606846976)) 0))]) rfl ?_
  refine zW.ifc (tgt := 14) ⟨rfl, rfl⟩ rfl (fun e1 => ?_) (fun e1 => ?_)
  · refine zW.sn 1 (pc2 := 15) (l2 := [(0, .inl (.long x))]) (st2 := [.inl (.int (-1))]) rfl ?_
    refine zW.ret rfl rfl ?_
    exact k1 e1
  · refine zW.sn 1 (pc2 := 11) (l2 := [(0, .inl (.long x))]) (st2 := [.inl (.int 1)]) rfl ?_
    refine zW.sn 1 (pc2 := 15) (l2 := [(0, .inl (.long x))]) (st2 := [.inl (.int 1)]) rfl ?_
    refine zW.ret rfl rfl ?_
    exact k2 e1

set_option maxHeartbeats 4000000 in
theorem w_firstOf {d : Nat} {k0 c0 s0 : Nat} {h : xH} {Q : xR → xA → Prop} {v o tr fr hd : Nat × Nat} {nu bs fi sz gr dr : Int32} {rw ag fs jo : Nat × Nat} {me : Int32} {L : Nat} {ff : Nat → Int32} {x : Int32} (hn_L : L < 2147483648) (hw : zWd h [(v, .inl (6, [.inl (.int nu), .inl (.int bs), .inl (.int fi), .inl (.int sz), .inl (.int gr), .inr o, .inr tr, .inr fr, .inr hd, .inl (.int dr), .inl (.int me), .inr rw, .inr ag, .inr fs, .inr jo])), (fs, .inr (0, L, zI ff))])
    (k1 : xcd .lt x 0 = true → Q (.inl (some (.inl (.int 0)))) (zNm k0, c0, s0, h))
    (k2 : xcd .lt x 0 = false → xcd .ge x (Int32.ofNat L) = true → Q (.inl (some (.inl (.int 0)))) (zNm k0, c0, s0, h))
    (k3 : xcd .lt x 0 = false → xcd .ge x (Int32.ofNat L) = false → Q (.inl (some (.inl (.int (ff (Int32.toNatClampNeg x)))))) (zNm k0, c0, s0, h)) :
    zW xPP d 38 0 [(0, .inr v), (1, .inl (.int x))] [] (zNm k0, c0, s0, h) Q := by
  refine zW.sn 1 (pc2 := 1) (l2 := [(0, .inr v), (1, .inl (.int x))]) (st2 := [.inl (.int x)]) rfl ?_
  refine zW.ifc (tgt := 22) ⟨rfl, rfl⟩ rfl (fun e1 => ?_) (fun e1 => ?_)
  · refine zW.sn 1 (pc2 := 23) (l2 := [(0, .inr v), (1, .inl (.int x))]) (st2 := [.inl (.int 0)]) rfl ?_
    refine zW.ret rfl rfl ?_
    exact k1 e1
  · refine zW.sn 1 (pc2 := 5) (l2 := [(0, .inr v), (1, .inl (.int x))]) (st2 := [.inl (.int x)]) rfl ?_
    refine zW.sn 1 (pc2 := 6) (l2 := [(0, .inr v), (1, .inl (.int x))]) (st2 := [.inr v, .inl (.int x)]) rfl ?_
    refine zW.getf ⟨rfl, rfl⟩ (hw.get 0 rfl) rfl rfl ?_
    refine zW.alen ⟨rfl, rfl⟩ (hw.get 1 rfl) ?_
    refine zW.ific (tgt := 22) ⟨rfl, rfl⟩ rfl (fun e2 => ?_) (fun e2 => ?_)
    · refine zW.sn 1 (pc2 := 23) (l2 := [(0, .inr v), (1, .inl (.int x))]) (st2 := [.inl (.int 0)]) rfl ?_
      refine zW.ret rfl rfl ?_
      exact k2 e1 e2
    · refine zW.sn 1 (pc2 := 14) (l2 := [(0, .inr v), (1, .inl (.int x))]) (st2 := [.inr v]) rfl ?_
      refine zW.getf ⟨rfl, rfl⟩ (hw.get 0 rfl) rfl rfl ?_
      refine zW.sn 1 (pc2 := 18) (l2 := [(0, .inr v), (1, .inl (.int x))]) (st2 := [.inl (.int x), .inr fs]) rfl ?_
      refine zW.iald ⟨rfl, rfl⟩ (hw.get 1 rfl) (zin (zcd_nlt e1) (zcd_nge e2) hn_L) ?_
      refine zW.sn 1 (pc2 := 23) (l2 := [(0, .inr v), (1, .inl (.int x))]) (st2 := [.inl (.int (ff (Int32.toNatClampNeg x)))]) rfl ?_
      refine zW.ret rfl rfl ?_
      exact k3 e1 e2

set_option maxHeartbeats 4000000 in
theorem w_slotOf {d : Nat} {k0 c0 s0 : Nat} {h : xH} {Q : xR → xA → Prop} {x y : Int32}  (hw : zWd h [])
    (k1 : Q (.inl (some (.inl (.int ((x * 8) + y))))) (zNm k0, c0, s0, h)) :
    zW xPP d 36 0 [(0, .inl (.int x)), (1, .inl (.int y))] [] (zNm k0, c0, s0, h) Q := by
  refine zW.sn 1 (pc2 := 1) (l2 := [(0, .inl (.int x)), (1, .inl (.int y))]) (st2 := [.inl (.int x)]) rfl ?_
  refine zW.sn 1 (pc2 := 3) (l2 := [(0, .inl (.int x)), (1, .inl (.int y))]) (st2 := [.inl (.int 8), .inl (.int x)]) rfl ?_
  refine zW.sn 1 (pc2 := 4) (l2 := [(0, .inl (.int x)), (1, .inl (.int y))]) (st2 := [.inl (.int (x * 8))]) rfl ?_
  refine zW.sn 1 (pc2 := 5) (l2 := [(0, .inl (.int x)), (1, .inl (.int y))]) (st2 := [.inl (.int y), .inl (.int (x * 8))]) rfl ?_
  refine zW.sn 1 (pc2 := 6) (l2 := [(0, .inl (.int x)), (1, .inl (.int y))]) (st2 := [.inl (.int ((x * 8) + y))]) rfl ?_
  refine zW.ret rfl rfl ?_
  exact k1

end ZP2
