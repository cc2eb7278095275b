set_option maxRecDepth 100000
section ZP1
def zct : zCt := fun _ _ _ _ => none
abbrev zW (P : xPr) (d mid pc : Nat) (l : xL) (st : List xV) (A : xA) (Q : xR → xA → Prop) : Prop := zWc P zct d mid pc l st A Q
set_option maxHeartbeats 4000000 in
theorem w_isCell {d : Nat} {k0 c0 s0 : Nat} {h : xH} {Q : xR → xA → Prop} {t n s g : Nat × Nat} {L : Nat} {fn fs fg : Nat → Int32} {x : Int32} (hn_L : L < 2147483648) (hw : zWd h [(t, .inl (7, [.inr n, .inr s, .inr g])), (n, .inr (0, L, zI fn)), (s, .inr (0, L, zI fs)), (g, .inr (0, L, zI fg))])
    (k1 : xcd .lt x 0 = true → Q (.inl (some (.inl (.int 0)))) (zNm k0, c0, s0, h))
    (k2 : xcd .lt x 0 = false → xcd .ge x (Int32.ofNat L) = true → Q (.inl (some (.inl (.int 0)))) (zNm k0, c0, s0, h))
    (k3 : xcd .lt x 0 = false → xcd .ge x (Int32.ofNat L) = false → Q (.inl (some (.inl (.int 1)))) (zNm k0, c0, s0, h)) :
    zW xPP d 52 0 [(0, .inr t), (1, .inl (.int x))] [] (zNm k0, c0, s0, h) Q := by
  refine zW.sn 1 (pc2 := 1) (l2 := [(0, .inr t), (1, .inl (.int x))]) (st2 := [.inl (.int x)]) rfl ?_
  refine zW.ifc (tgt := 35) ⟨rfl, rfl⟩ rfl (fun e1 => ?_) (fun e1 => ?_)
  · refine zW.sn 1 (pc2 := 36) (l2 := [(0, .inr t), (1, .inl (.int x))]) (st2 := [.inl (.int 0)]) rfl ?_
    refine zW.ret rfl (zret_z rfl (by decide)) ?_
    exact k1 e1
  · refine zW.sn 1 (pc2 := 5) (l2 := [(0, .inr t), (1, .inl (.int x))]) (st2 := [.inl (.int x)]) rfl ?_
    refine zW.sn 1 (pc2 := 6) (l2 := [(0, .inr t), (1, .inl (.int x))]) (st2 := [.inr t, .inl (.int x)]) rfl ?_
    refine zW.getf ⟨rfl, rfl⟩ (hw.get 0 rfl) rfl rfl ?_
    refine zW.alen ⟨rfl, rfl⟩ (hw.get 1 rfl) ?_
    refine zW.ific (tgt := 35) ⟨rfl, rfl⟩ rfl (fun e2 => ?_) (fun e2 => ?_)
    · refine zW.sn 1 (pc2 := 36) (l2 := [(0, .inr t), (1, .inl (.int x))]) (st2 := [.inl (.int 0)]) rfl ?_
      refine zW.ret rfl (zret_z rfl (by decide)) ?_
      exact k2 e1 e2
    · refine zW.sn 1 (pc2 := 14) (l2 := [(0, .inr t), (1, .inl (.int x))]) (st2 := [.inl (.int x)]) rfl ?_
      refine zW.sn 1 (pc2 := 15) (l2 := [(0, .inr t), (1, .inl (.int x))]) (st2 := [.inr t, .inl (.int x)]) rfl ?_
      refine zW.getf ⟨rfl, rfl⟩ (hw.get 0 rfl) rfl rfl ?_
      refine zW.alen ⟨rfl, rfl⟩ (hw.get 2 rfl) ?_
      refine zW.ific (tgt := 35) ⟨rfl, rfl⟩ rfl (fun zz => absurd zz ((by rw [e2]; decide))) (fun _ => ?_)
      refine zW.sn 1 (pc2 := 23) (l2 := [(0, .inr t), (1, .inl (.int x))]) (st2 := [.inl (.int x)]) rfl ?_
      refine zW.sn 1 (pc2 := 24) (l2 := [(0, .inr t), (1, .inl (.int x))]) (st2 := [.inr t, .inl (.int x)]) rfl ?_
      refine zW.getf ⟨rfl, rfl⟩ (hw.get 0 rfl) rfl rfl ?_
      refine zW.alen ⟨rfl, rfl⟩ (hw.get 3 rfl) ?_
      refine zW.ific (tgt := 35) ⟨rfl, rfl⟩ rfl (fun zz => absurd zz ((by rw [e2]; decide))) (fun _ => ?_)
      refine zW.sn 1 (pc2 := 32) (l2 := [(0, .inr t), (1, .inl (.int x))]) (st2 := [.inl (.int 1)]) rfl ?_
      refine zW.sn 1 (pc2 := 36) (l2 := [(0, .inr t), (1, .inl (.int x))]) (st2 := [.inl (.int 1)]) rfl ?_
      refine zW.ret rfl (zret_z rfl (by decide)) ?_
      exact k3 e1 e2

set_option maxHeartbeats 4000000 in
theorem w_hasRows {d : Nat} {k0 c0 s0 : Nat} {h : xH} {Q : xR → xA → Prop} {t n s g : Nat × Nat} {L : Nat} {fn fs fg : Nat → Int32} {x : Int32} (hn_L : L < 2147483648) (hw : zWd h [(t, .inl (7, [.inr n, .inr s, .inr g])), (n, .inr (0, L, zI fn)), (s, .inr (0, L, zI fs)), (g, .inr (0, L, zI fg))])
    (k1 : xcd .lt x 0 = true → Q (.inl (some (.inl (.int 0)))) (zNm k0, c0, s0, h))
    (k2 : xcd .lt x 0 = false → xcd .ge x (Int32.ofNat L) = true → Q (.inl (some (.inl (.int 0)))) (zNm k0, c0, s0, h))
    (k3 : xcd .lt x 0 = false → xcd .ge x (Int32.ofNat L) = false → xcd .le (fn (Int32.toNatClampNeg x)) 0 = true → Q (.inl (some (.inl (.int 0)))) (zNm k0, c0, s0, h))
    (k4 : xcd .lt x 0 = false → xcd .ge x (Int32.ofNat L) = false → xcd .le (fn (Int32.toNatClampNeg x)) 0 = false → Q (.inl (some (.inl (.int 1)))) (zNm k0, c0, s0, h)) :
    zW xPP (d + 1) 53 0 [(0, .inr t), (1, .inl (.int x))] [] (zNm k0, c0, s0, h) Q := by
  refine zW.sn 1 (pc2 := 1) (l2 := [(0, .inr t), (1, .inl (.int x))]) (st2 := [.inr t]) rfl ?_
  refine zW.sn 1 (pc2 := 2) (l2 := [(0, .inr t), (1, .inl (.int x))]) (st2 := [.inl (.int x), .inr t]) rfl ?_
  refine zW.call (mid2 := 52) (as := [.inr t, .inl (.int x)]) (rest := []) ⟨rfl, rfl⟩ rfl (zinvV rfl (hw.get 0 rfl) rfl rfl) ⟨Nat.le_of_ble_eq_true rfl, Nat.le_of_ble_eq_true rfl⟩ ?_
  show zW xPP _ 52 0 [(0, .inr t), (1, .inl (.int x))] [] (zNm k0, c0, s0, h) _
  refine zW.sn 1 (pc2 := 1) (l2 := [(0, .inr t), (1, .inl (.int x))]) (st2 := [.inl (.int x)]) rfl ?_
  refine zW.ifc (tgt := 35) ⟨rfl, rfl⟩ rfl (fun e1 => ?_) (fun e1 => ?_)
  · refine zW.sn 1 (pc2 := 36) (l2 := [(0, .inr t), (1, .inl (.int x))]) (st2 := [.inl (.int 0)]) rfl ?_
    refine zW.ret rfl (zret_z rfl (by decide)) ?_
    show zW xPP _ 53 5 [(0, .inr t), (1, .inl (.int x))] [.inl (.int 0)] (zNm k0, c0, s0, h) _
    refine zW.ifc (tgt := 21) ⟨rfl, rfl⟩ rfl (fun _ => ?_) (fun zz => absurd zz (by decide))
    refine zW.sn 1 (pc2 := 22) (l2 := [(0, .inr t), (1, .inl (.int x))]) (st2 := [.inl (.int 0)]) rfl ?_
    refine zW.ret rfl (zret_z rfl (by decide)) ?_
    exact k1 e1
  · refine zW.sn 1 (pc2 := 5) (l2 := [(0, .inr t), (1, .inl (.int x))]) (st2 := [.inl (.int x)]) rfl ?_
    refine zW.sn 1 (pc2 := 6) (l2 := [(0, .inr t), (1, .inl (.int x))]) (st2 := [.inr t, .inl (.int x)]) rfl ?_
    refine zW.getf ⟨rfl, rfl⟩ (hw.get 0 rfl) rfl rfl ?_
    refine zW.alen ⟨rfl, rfl⟩ (hw.get 1 rfl) ?_
    refine zW.ific (tgt := 35) ⟨rfl, rfl⟩ rfl (fun e2 => ?_) (fun e2 => ?_)
    · refine zW.sn 1 (pc2 := 36) (l2 := [(0, .inr t), (1, .inl (.int x))]) (st2 := [.inl (.int 0)]) rfl ?_
      refine zW.ret rfl (zret_z rfl (by decide)) ?_
      show zW xPP _ 53 5 [(0, .inr t), (1, .inl (.int x))] [.inl (.int 0)] (zNm k0, c0, s0, h) _
      refine zW.ifc (tgt := 21) ⟨rfl, rfl⟩ rfl (fun _ => ?_) (fun zz => absurd zz (by decide))
      refine zW.sn 1 (pc2 := 22) (l2 := [(0, .inr t), (1, .inl (.int x))]) (st2 := [.inl (.int 0)]) rfl ?_
      refine zW.ret rfl (zret_z rfl (by decide)) ?_
      exact k2 e1 e2
    · refine zW.sn 1 (pc2 := 14) (l2 := [(0, .inr t), (1, .inl (.int x))]) (st2 := [.inl (.int x)]) rfl ?_
      refine zW.sn 1 (pc2 := 15) (l2 := [(0, .inr t), (1, .inl (.int x))]) (st2 := [.inr t, .inl (.int x)]) rfl ?_
      refine zW.getf ⟨rfl, rfl⟩ (hw.get 0 rfl) rfl rfl ?_
      refine zW.alen ⟨rfl, rfl⟩ (hw.get 2 rfl) ?_
      refine zW.ific (tgt := 35) ⟨rfl, rfl⟩ rfl (fun zz => absurd zz ((by rw [e2]; decide))) (fun _ => ?_)
      refine zW.sn 1 (pc2 := 23) (l2 := [(0, .inr t), (1, .inl (.int x))]) (st2 := [.inl (.int x)]) rfl ?_
      refine zW.sn 1 (pc2 := 24) (l2 := [(0, .inr t), (1, .inl (.int x))]) (st2 := [.inr t, .inl (.int x)]) rfl ?_
      refine zW.getf ⟨rfl, rfl⟩ (hw.get 0 rfl) rfl rfl ?_
      refine zW.alen ⟨rfl, rfl⟩ (hw.get 3 rfl) ?_
      refine zW.ific (tgt := 35) ⟨rfl, rfl⟩ rfl (fun zz => absurd zz ((by rw [e2]; decide))) (fun _ => ?_)
      refine zW.sn 1 (pc2 := 32) (l2 := [(0, .inr t), (1, .inl (.int x))]) (st2 := [.inl (.int 1)]) rfl ?_
      refine zW.sn 1 (pc2 := 36) (l2 := [(0, .inr t), (1, .inl (.int x))]) (st2 := [.inl (.int 1)]) rfl ?_
      refine zW.ret rfl (zret_z rfl (by decide)) ?_
      show zW xPP _ 53 5 [(0, .inr t), (1, .inl (.int x))] [.inl (.int 1)] (zNm k0, c0, s0, h) _
      refine zW.ifc (tgt := 21) ⟨rfl, rfl⟩ rfl (fun zz => absurd zz (by decide)) (fun _ => ?_)
      refine zW.sn 1 (pc2 := 9) (l2 := [(0, .inr t), (1, .inl (.int x))]) (st2 := [.inr t]) rfl ?_
      refine zW.getf ⟨rfl, rfl⟩ (hw.get 0 rfl) rfl rfl ?_
      refine zW.sn 1 (pc2 := 13) (l2 := [(0, .inr t), (1, .inl (.int x))]) (st2 := [.inl (.int x), .inr n]) rfl ?_
      refine zW.iald ⟨rfl, rfl⟩ (hw.get 1 rfl) (zin (zcd_nlt e1) (zcd_nge e2) hn_L) ?_
      refine zW.ifc (tgt := 21) ⟨rfl, rfl⟩ rfl (fun e3 => ?_) (fun e3 => ?_)
      · refine zW.sn 1 (pc2 := 22) (l2 := [(0, .inr t), (1, .inl (.int x))]) (st2 := [.inl (.int 0)]) rfl ?_
        refine zW.ret rfl (zret_z rfl (by decide)) ?_
        exact k3 e1 e2 e3
      · refine zW.sn 1 (pc2 := 18) (l2 := [(0, .inr t), (1, .inl (.int x))]) (st2 := [.inl (.int 1)]) rfl ?_
        refine zW.sn 1 (pc2 := 22) (l2 := [(0, .inr t), (1, .inl (.int x))]) (st2 := [.inl (.int 1)]) rfl ?_
        refine zW.ret rfl (zret_z rfl (by decide)) ?_
        exact k4 e1 e2 e3

set_option maxHeartbeats 4000000 in
theorem w_add {d : Nat} {k0 c0 s0 : Nat} {h : xH} {Q : xR → xA → Prop} {t n s g : Nat × Nat} {L : Nat} {fn fs fg : Nat → Int32} {x y : Int32} (hn_L : L < 2147483648) (hw : zWd h [(t, .inl (7, [.inr n, .inr s, .inr g])), (n, .inr (0, L, zI fn)), (s, .inr (0, L, zI fs)), (g, .inr (0, L, zI fg))])
    (k1 : xcd .lt x 0 = true → Q (.inl none) (zNm k0, c0, s0, h))
    (k2 : xcd .lt x 0 = false → xcd .ge x (Int32.ofNat L) = true → Q (.inl none) (zNm k0, c0, s0, h))
    (k3 : ∀ h1, zWd h1 [(t, .inl (7, [.inr n, .inr s, .inr g])), (n, .inr (0, L, zI (zfi fn (Int32.toNatClampNeg x) ((fn (Int32.toNatClampNeg x)) + 1)))), (s, .inr (0, L, zI (zfi fs (Int32.toNatClampNeg x) ((fs (Int32.toNatClampNeg x)) + y)))), (g, .inr (0, L, zI (zfi fg (Int32.toNatClampNeg x) (if (fg (Int32.toNatClampNeg x)) < y then y else (fg (Int32.toNatClampNeg x))))))] → zFr [t, n, s, g] h h1 → xcd .lt x 0 = false → xcd .ge x (Int32.ofNat L) = false → xcd .ne (fn (Int32.toNatClampNeg x)) 0 = true → Q (.inl none) (zNm k0, c0, s0, h1))
    (k4 : ∀ h1, zWd h1 [(t, .inl (7, [.inr n, .inr s, .inr g])), (n, .inr (0, L, zI (zfi fn (Int32.toNatClampNeg x) ((fn (Int32.toNatClampNeg x)) + 1)))), (s, .inr (0, L, zI (zfi fs (Int32.toNatClampNeg x) ((fs (Int32.toNatClampNeg x)) + y)))), (g, .inr (0, L, zI (zfi fg (Int32.toNatClampNeg x) y)))] → zFr [t, n, s, g] h h1 → xcd .lt x 0 = false → xcd .ge x (Int32.ofNat L) = false → xcd .ne (fn (Int32.toNatClampNeg x)) 0 = false → Q (.inl none) (zNm k0, c0, s0, h1)) :
    zW xPP (d + 1) 54 0 [(0, .inr t), (1, .inl (.int x)), (2, .inl (.int y))] [] (zNm k0, c0, s0, h) Q := by
  refine zW.sn 1 (pc2 := 1) (l2 := [(0, .inr t), (1, .inl (.int x)), (2, .inl (.int y))]) (st2 := [.inr t]) rfl ?_
  refine zW.sn 1 (pc2 := 2) (l2 := [(0, .inr t), (1, .inl (.int x)), (2, .inl (.int y))]) (st2 := [.inl (.int x), .inr t]) rfl ?_
  refine zW.call (mid2 := 52) (as := [.inr t, .inl (.int x)]) (rest := []) ⟨rfl, rfl⟩ rfl (zinvV rfl (hw.get 0 rfl) rfl rfl) ⟨Nat.le_of_ble_eq_true rfl, Nat.le_of_ble_eq_true rfl⟩ ?_
  show zW xPP _ 52 0 [(0, .inr t), (1, .inl (.int x))] [] (zNm k0, c0, s0, h) _
  refine zW.sn 1 (pc2 := 1) (l2 := [(0, .inr t), (1, .inl (.int x))]) (st2 := [.inl (.int x)]) rfl ?_
  refine zW.ifc (tgt := 35) ⟨rfl, rfl⟩ rfl (fun e1 => ?_) (fun e1 => ?_)
  · refine zW.sn 1 (pc2 := 36) (l2 := [(0, .inr t), (1, .inl (.int x))]) (st2 := [.inl (.int 0)]) rfl ?_
    refine zW.ret rfl (zret_z rfl (by decide)) ?_
    show zW xPP _ 54 5 [(0, .inr t), (1, .inl (.int x)), (2, .inl (.int y))] [.inl (.int 0)] (zNm k0, c0, s0, h) _
    refine zW.ifc (tgt := 57) ⟨rfl, rfl⟩ rfl (fun _ => ?_) (fun zz => absurd zz (by decide))
    refine zW.ret rfl rfl ?_
    exact k1 e1
  · refine zW.sn 1 (pc2 := 5) (l2 := [(0, .inr t), (1, .inl (.int x))]) (st2 := [.inl (.int x)]) rfl ?_
    refine zW.sn 1 (pc2 := 6) (l2 := [(0, .inr t), (1, .inl (.int x))]) (st2 := [.inr t, .inl (.int x)]) rfl ?_
    refine zW.getf ⟨rfl, rfl⟩ (hw.get 0 rfl) rfl rfl ?_
    refine zW.alen ⟨rfl, rfl⟩ (hw.get 1 rfl) ?_
    refine zW.ific (tgt := 35) ⟨rfl, rfl⟩ rfl (fun e2 => ?_) (fun e2 => ?_)
    · refine zW.sn 1 (pc2 := 36) (l2 := [(0, .inr t), (1, .inl (.int x))]) (st2 := [.inl (.int 0)]) rfl ?_
      refine zW.ret rfl (zret_z rfl (by decide)) ?_
      show zW xPP _ 54 5 [(0, .inr t), (1, .inl (.int x)), (2, .inl (.int y))] [.inl (.int 0)] (zNm k0, c0, s0, h) _
      refine zW.ifc (tgt := 57) ⟨rfl, rfl⟩ rfl (fun _ => ?_) (fun zz => absurd zz (by decide))
      refine zW.ret rfl rfl ?_
      exact k2 e1 e2
    · refine zW.sn 1 (pc2 := 14) (l2 := [(0, .inr t), (1, .inl (.int x))]) (st2 := [.inl (.int x)]) rfl ?_
      refine zW.sn 1 (pc2 := 15) (l2 := [(0, .inr t), (1, .inl (.int x))]) (st2 := [.inr t, .inl (.int x)]) rfl ?_
      refine zW.getf ⟨rfl, rfl⟩ (hw.get 0 rfl) rfl rfl ?_
      refine zW.alen ⟨rfl, rfl⟩ (hw.get 2 rfl) ?_
      refine zW.ific (tgt := 35) ⟨rfl, rfl⟩ rfl (fun zz => absurd zz ((by rw [e2]; decide))) (fun _ => ?_)
      refine zW.sn 1 (pc2 := 23) (l2 := [(0, .inr t), (1, .inl (.int x))]) (st2 := [.inl (.int x)]) rfl ?_
      refine zW.sn 1 (pc2 := 24) (l2 := [(0, .inr t), (1, .inl (.int x))]) (st2 := [.inr t, .inl (.int x)]) rfl ?_
      refine zW.getf ⟨rfl, rfl⟩ (hw.get 0 rfl) rfl rfl ?_
      refine zW.alen ⟨rfl, rfl⟩ (hw.get 3 rfl) ?_
      refine zW.ific (tgt := 35) ⟨rfl, rfl⟩ rfl (fun zz => absurd zz ((by rw [e2]; decide))) (fun _ => ?_)
      refine zW.sn 1 (pc2 := 32) (l2 := [(0, .inr t), (1, .inl (.int x))]) (st2 := [.inl (.int 1)]) rfl ?_
      refine zW.sn 1 (pc2 := 36) (l2 := [(0, .inr t), (1, .inl (.int x))]) (st2 := [.inl (.int 1)]) rfl ?_
      refine zW.ret rfl (zret_z rfl (by decide)) ?_
      show zW xPP _ 54 5 [(0, .inr t), (1, .inl (.int x)), (2, .inl (.int y))] [.inl (.int 1)] (zNm k0, c0, s0, h) _
      refine zW.ifc (tgt := 57) ⟨rfl, rfl⟩ rfl (fun zz => absurd zz (by decide)) (fun _ => ?_)
      refine zW.sn 1 (pc2 := 9) (l2 := [(0, .inr t), (1, .inl (.int x)), (2, .inl (.int y))]) (st2 := [.inr t]) rfl ?_
      refine zW.getf ⟨rfl, rfl⟩ (hw.get 0 rfl) rfl rfl ?_
      refine zW.sn 1 (pc2 := 13) (l2 := [(0, .inr t), (1, .inl (.int x)), (2, .inl (.int y))]) (st2 := [.inl (.int x), .inr g]) rfl ?_
      refine zW.sn 1 (pc2 := 14) (l2 := [(0, .inr t), (1, .inl (.int x)), (2, .inl (.int y))]) (st2 := [.inr t, .inl (.int x), .inr g]) rfl ?_
      refine zW.getf ⟨rfl, rfl⟩ (hw.get 0 rfl) rfl rfl ?_
      refine zW.sn 1 (pc2 := 18) (l2 := [(0, .inr t), (1, .inl (.int x)), (2, .inl (.int y))]) (st2 := [.inl (.int x), .inr n, .inl (.int x), .inr g]) rfl ?_
      refine zW.iald ⟨rfl, rfl⟩ (hw.get 1 rfl) (zin (zcd_nlt e1) (zcd_nge e2) hn_L) ?_
      refine zW.ifc (tgt := 26) ⟨rfl, rfl⟩ rfl (fun e3 => ?_) (fun e3 => ?_)
      · refine zW.sn 1 (pc2 := 27) (l2 := [(0, .inr t), (1, .inl (.int x)), (2, .inl (.int y))]) (st2 := [.inr t, .inl (.int x), .inr g]) rfl ?_
        refine zW.getf ⟨rfl, rfl⟩ (hw.get 0 rfl) rfl rfl ?_
        refine zW.sn 1 (pc2 := 31) (l2 := [(0, .inr t), (1, .inl (.int x)), (2, .inl (.int y))]) (st2 := [.inl (.int x), .inr g, .inl (.int x), .inr g]) rfl ?_
        refine zW.iald ⟨rfl, rfl⟩ (hw.get 3 rfl) (zin (zcd_nlt e1) (zcd_nge e2) hn_L) ?_
        refine zW.sn 1 (pc2 := 33) (l2 := [(0, .inr t), (1, .inl (.int x)), (2, .inl (.int y))]) (st2 := [.inl (.int y), .inl (.int (fg (Int32.toNatClampNeg x))), .inl (.int x), .inr g]) rfl ?_
        refine zW.maxi ⟨rfl, rfl⟩ (Nat.le_of_ble_eq_true rfl) ?_
        refine zW.iast ⟨rfl, rfl⟩ (hw.get 3 rfl) (hw.nz 3 rfl) (zin (zcd_nlt e1) (zcd_nge e2) hn_L) ?_
        have hw1 := hw.set 3 rfl (.inr (0, L, zI (zfi fg (Int32.toNatClampNeg x) (if (fg (Int32.toNatClampNeg x)) < y then y else (fg (Int32.toNatClampNeg x))))))
        have hf1 : zFr [t, n, s, g] h _ := zFr.put (zFr.rf) (q := g) (o := .inr (0, L, zI (zfi fg (Int32.toNatClampNeg x) (if (fg (Int32.toNatClampNeg x)) < y then y else (fg (Int32.toNatClampNeg x)))))) (List.mem_of_getElem? (i := 3) rfl)
        show zW xPP _ 54 37 [(0, .inr t), (1, .inl (.int x)), (2, .inl (.int y))] [] (zNm k0, c0, s0, (xup h g (.inr (0, L, zI (zfi fg (Int32.toNatClampNeg x) (if (fg (Int32.toNatClampNeg x)) < y then y else (fg (Int32.toNatClampNeg x)))))))) _
        refine zW.sn 1 (pc2 := 38) (l2 := [(0, .inr t), (1, .inl (.int x)), (2, .inl (.int y))]) (st2 := [.inr t]) rfl ?_
        refine zW.getf ⟨rfl, rfl⟩ (hw1.get 0 rfl) rfl rfl ?_
        refine zW.sn 1 (pc2 := 42) (l2 := [(0, .inr t), (1, .inl (.int x)), (2, .inl (.int y))]) (st2 := [.inl (.int x), .inr n]) rfl ?_
        refine zW.sn 1 (pc2 := 43) (l2 := [(0, .inr t), (1, .inl (.int x)), (2, .inl (.int y))]) (st2 := [.inl (.int x), .inr n, .inl (.int x), .inr n]) rfl ?_
        refine zW.iald ⟨rfl, rfl⟩ (hw1.get 1 rfl) (zin (zcd_nlt e1) (zcd_nge e2) hn_L) ?_
        refine zW.sn 1 (pc2 := 45) (l2 := [(0, .inr t), (1, .inl (.int x)), (2, .inl (.int y))]) (st2 := [.inl (.int 1), .inl (.int (fn (Int32.toNatClampNeg x))), .inl (.int x), .inr n]) rfl ?_
        refine zW.sn 1 (pc2 := 46) (l2 := [(0, .inr t), (1, .inl (.int x)), (2, .inl (.int y))]) (st2 := [.inl (.int ((fn (Int32.toNatClampNeg x)) + 1)), .inl (.int x), .inr n]) rfl ?_
        refine zW.iast ⟨rfl, rfl⟩ (hw1.get 1 rfl) (hw1.nz 1 rfl) (zin (zcd_nlt e1) (zcd_nge e2) hn_L) ?_
        have hw2 := hw1.set 1 rfl (.inr (0, L, zI (zfi fn (Int32.toNatClampNeg x) ((fn (Int32.toNatClampNeg x)) + 1))))
        have hf2 : zFr [t, n, s, g] h _ := zFr.put (hf1) (q := n) (o := .inr (0, L, zI (zfi fn (Int32.toNatClampNeg x) ((fn (Int32.toNatClampNeg x)) + 1)))) (List.mem_of_getElem? (i := 1) rfl)
        show zW xPP _ 54 47 [(0, .inr t), (1, .inl (.int x)), (2, .inl (.int y))] [] (zNm k0, c0, s0, (xup (xup h g (.inr (0, L, zI (zfi fg (Int32.toNatClampNeg x) (if (fg (Int32.toNatClampNeg x)) < y then y else (fg (Int32.toNatClampNeg x))))))) n (.inr (0, L, zI (zfi fn (Int32.toNatClampNeg x) ((fn (Int32.toNatClampNeg x)) + 1)))))) _
        refine zW.sn 1 (pc2 := 48) (l2 := [(0, .inr t), (1, .inl (.int x)), (2, .inl (.int y))]) (st2 := [.inr t]) rfl ?_
        refine zW.getf ⟨rfl, rfl⟩ (hw2.get 0 rfl) rfl rfl ?_
        refine zW.sn 1 (pc2 := 52) (l2 := [(0, .inr t), (1, .inl (.int x)), (2, .inl (.int y))]) (st2 := [.inl (.int x), .inr s]) rfl ?_
        refine zW.sn 1 (pc2 := 53) (l2 := [(0, .inr t), (1, .inl (.int x)), (2, .inl (.int y))]) (st2 := [.inl (.int x), .inr s, .inl (.int x), .inr s]) rfl ?_
        refine zW.iald ⟨rfl, rfl⟩ (hw2.get 2 rfl) (zin (zcd_nlt e1) (zcd_nge e2) hn_L) ?_
        refine zW.sn 1 (pc2 := 55) (l2 := [(0, .inr t), (1, .inl (.int x)), (2, .inl (.int y))]) (st2 := [.inl (.int y), .inl (.int (fs (Int32.toNatClampNeg x))), .inl (.int x), .inr s]) rfl ?_
        refine zW.sn 1 (pc2 := 56) (l2 := [(0, .inr t), (1, .inl (.int x)), (2, .inl (.int y))]) (st2 := [.inl (.int ((fs (Int32.toNatClampNeg x)) + y)), .inl (.int x), .inr s]) rfl ?_
        refine zW.iast ⟨rfl, rfl⟩ (hw2.get 2 rfl) (hw2.nz 2 rfl) (zin (zcd_nlt e1) (zcd_nge e2) hn_L) ?_
        have hw3 := hw2.set 2 rfl (.inr (0, L, zI (zfi fs (Int32.toNatClampNeg x) ((fs (Int32.toNatClampNeg x)) + y))))
        have hf3 : zFr [t, n, s, g] h _ := zFr.put (hf2) (q := s) (o := .inr (0, L, zI (zfi fs (Int32.toNatClampNeg x) ((fs (Int32.toNatClampNeg x)) + y)))) (List.mem_of_getElem? (i := 2) rfl)
        show zW xPP _ 54 57 [(0, .inr t), (1, .inl (.int x)), (2, .inl (.int y))] [] (zNm k0, c0, s0, (xup (xup (xup h g (.inr (0, L, zI (zfi fg (Int32.toNatClampNeg x) (if (fg (Int32.toNatClampNeg x)) < y then y else (fg (Int32.toNatClampNeg x))))))) n (.inr (0, L, zI (zfi fn (Int32.toNatClampNeg x) ((fn (Int32.toNatClampNeg x)) + 1))))) s (.inr (0, L, zI (zfi fs (Int32.toNatClampNeg x) ((fs (Int32.toNatClampNeg x)) + y)))))) _
        refine zW.ret rfl rfl ?_
        exact k3 _ hw3 hf3 e1 e2 e3
      · refine zW.sn 1 (pc2 := 23) (l2 := [(0, .inr t), (1, .inl (.int x)), (2, .inl (.int y))]) (st2 := [.inl (.int y), .inl (.int x), .inr g]) rfl ?_
        refine zW.sn 1 (pc2 := 36) (l2 := [(0, .inr t), (1, .inl (.int x)), (2, .inl (.int y))]) (st2 := [.inl (.int y), .inl (.int x), .inr g]) rfl ?_
        refine zW.iast ⟨rfl, rfl⟩ (hw.get 3 rfl) (hw.nz 3 rfl) (zin (zcd_nlt e1) (zcd_nge e2) hn_L) ?_
        have hw4 := hw.set 3 rfl (.inr (0, L, zI (zfi fg (Int32.toNatClampNeg x) y)))
        have hf4 : zFr [t, n, s, g] h _ := zFr.put (zFr.rf) (q := g) (o := .inr (0, L, zI (zfi fg (Int32.toNatClampNeg x) y))) (List.mem_of_getElem? (i := 3) rfl)
        show zW xPP _ 54 37 [(0, .inr t), (1, .inl (.int x)), (2, .inl (.int y))] [] (zNm k0, c0, s0, (xup h g (.inr (0, L, zI (zfi fg (Int32.toNatClampNeg x) y))))) _
        refine zW.sn 1 (pc2 := 38) (l2 := [(0, .inr t), (1, .inl (.int x)), (2, .inl (.int y))]) (st2 := [.inr t]) rfl ?_
        refine zW.getf ⟨rfl, rfl⟩ (hw4.get 0 rfl) rfl rfl ?_
        refine zW.sn 1 (pc2 := 42) (l2 := [(0, .inr t), (1, .inl (.int x)), (2, .inl (.int y))]) (st2 := [.inl (.int x), .inr n]) rfl ?_
        refine zW.sn 1 (pc2 := 43) (l2 := [(0, .inr t), (1, .inl (.int x)), (2, .inl (.int y))]) (st2 := [.inl (.int x), .inr n, .inl (.int x), .inr n]) rfl ?_
        refine zW.iald ⟨rfl, rfl⟩ (hw4.get 1 rfl) (zin (zcd_nlt e1) (zcd_nge e2) hn_L) ?_
        refine zW.sn 1 (pc2 := 45) (l2 := [(0, .inr t), (1, .inl (.int x)), (2, .inl (.int y))]) (st2 := [.inl (.int 1), .inl (.int (fn (Int32.toNatClampNeg x))), .inl (.int x), .inr n]) rfl ?_
        refine zW.sn 1 (pc2 := 46) (l2 := [(0, .inr t), (1, .inl (.int x)), (2, .inl (.int y))]) (st2 := [.inl (.int ((fn (Int32.toNatClampNeg x)) + 1)), .inl (.int x), .inr n]) rfl ?_
        refine zW.iast ⟨rfl, rfl⟩ (hw4.get 1 rfl) (hw4.nz 1 rfl) (zin (zcd_nlt e1) (zcd_nge e2) hn_L) ?_
        have hw5 := hw4.set 1 rfl (.inr (0, L, zI (zfi fn (Int32.toNatClampNeg x) ((fn (Int32.toNatClampNeg x)) + 1))))
        have hf5 : zFr [t, n, s, g] h _ := zFr.put (hf4) (q := n) (o := .inr (0, L, zI (zfi fn (Int32.toNatClampNeg x) ((fn (Int32.toNatClampNeg x)) + 1)))) (List.mem_of_getElem? (i := 1) rfl)
        show zW xPP _ 54 47 [(0, .inr t), (1, .inl (.int x)), (2, .inl (.int y))] [] (zNm k0, c0, s0, (xup (xup h g (.inr (0, L, zI (zfi fg (Int32.toNatClampNeg x) y)))) n (.inr (0, L, zI (zfi fn (Int32.toNatClampNeg x) ((fn (Int32.toNatClampNeg x)) + 1)))))) _
        refine zW.sn 1 (pc2 := 48) (l2 := [(0, .inr t), (1, .inl (.int x)), (2, .inl (.int y))]) (st2 := [.inr t]) rfl ?_
        refine zW.getf ⟨rfl, rfl⟩ (hw5.get 0 rfl) rfl rfl ?_
        refine zW.sn 1 (pc2 := 52) (l2 := [(0, .inr t), (1, .inl (.int x)), (2, .inl (.int y))]) (st2 := [.inl (.int x), .inr s]) rfl ?_
        refine zW.sn 1 (pc2 := 53) (l2 := [(0, .inr t), (1, .inl (.int x)), (2, .inl (.int y))]) (st2 := [.inl (.int x), .inr s, .inl (.int x), .inr s]) rfl ?_
        refine zW.iald ⟨rfl, rfl⟩ (hw5.get 2 rfl) (zin (zcd_nlt e1) (zcd_nge e2) hn_L) ?_
        refine zW.sn 1 (pc2 := 55) (l2 := [(0, .inr t), (1, .inl (.int x)), (2, .inl (.int y))]) (st2 := [.inl (.int y), .inl (.int (fs (Int32.toNatClampNeg x))), .inl (.int x), .inr s]) rfl ?_
        refine zW.sn 1 (pc2 := 56) (l2 := [(0, .inr t), (1, .inl (.int x)), (2, .inl (.int y))]) (st2 := [.inl (.int ((fs (Int32.toNatClampNeg x)) + y)), .inl (.int x), .inr s]) rfl ?_
        refine zW.iast ⟨rfl, rfl⟩ (hw5.get 2 rfl) (hw5.nz 2 rfl) (zin (zcd_nlt e1) (zcd_nge e2) hn_L) ?_
        have hw6 := hw5.set 2 rfl (.inr (0, L, zI (zfi fs (Int32.toNatClampNeg x) ((fs (Int32.toNatClampNeg x)) + y))))
        have hf6 : zFr [t, n, s, g] h _ := zFr.put (hf5) (q := s) (o := .inr (0, L, zI (zfi fs (Int32.toNatClampNeg x) ((fs (Int32.toNatClampNeg x)) + y)))) (List.mem_of_getElem? (i := 2) rfl)
        show zW xPP _ 54 57 [(0, .inr t), (1, .inl (.int x)), (2, .inl (.int y))] [] (zNm k0, c0, s0, (xup (xup (xup h g (.inr (0, L, zI (zfi fg (Int32.toNatClampNeg x) y)))) n (.inr (0, L, zI (zfi fn (Int32.toNatClampNeg x) ((fn (Int32.toNatClampNeg x)) + 1))))) s (.inr (0, L, zI (zfi fs (Int32.toNatClampNeg x) ((fs (Int32.toNatClampNeg x)) + y)))))) _
        refine zW.ret rfl rfl ?_
        exact k4 _ hw6 hf6 e1 e2 e3

set_option maxHeartbeats 4000000 in
theorem w_clear {d : Nat} {k0 c0 s0 : Nat} {h : xH} {Q : xR → xA → Prop} {t n s g : Nat × Nat} {L : Nat} {fn fs fg : Nat → Int32} {x : Int32} (hn_L : L < 2147483648) (hw : zWd h [(t, .inl (7, [.inr n, .inr s, .inr g])), (n, .inr (0, L, zI fn)), (s, .inr (0, L, zI fs)), (g, .inr (0, L, zI fg))])
    (k1 : xcd .lt x 0 = true → Q (.inl none) (zNm k0, c0, s0, h))
    (k2 : xcd .lt x 0 = false → xcd .ge x (Int32.ofNat L) = true → Q (.inl none) (zNm k0, c0, s0, h))
    (k3 : ∀ h1, zWd h1 [(t, .inl (7, [.inr n, .inr s, .inr g])), (n, .inr (0, L, zI (zfi fn (Int32.toNatClampNeg x) 0))), (s, .inr (0, L, zI (zfi fs (Int32.toNatClampNeg x) 0))), (g, .inr (0, L, zI (zfi fg (Int32.toNatClampNeg x) 0)))] → zFr [t, n, s, g] h h1 → xcd .lt x 0 = false → xcd .ge x (Int32.ofNat L) = false → Q (.inl none) (zNm k0, c0, s0, h1)) :
    zW xPP (d + 1) 56 0 [(0, .inr t), (1, .inl (.int x))] [] (zNm k0, c0, s0, h) Q := by
  refine zW.sn 1 (pc2 := 1) (l2 := [(0, .inr t), (1, .inl (.int x))]) (st2 := [.inr t]) rfl ?_
  refine zW.sn 1 (pc2 := 2) (l2 := [(0, .inr t), (1, .inl (.int x))]) (st2 := [.inl (.int x), .inr t]) rfl ?_
  refine zW.call (mid2 := 52) (as := [.inr t, .inl (.int x)]) (rest := []) ⟨rfl, rfl⟩ rfl (zinvV rfl (hw.get 0 rfl) rfl rfl) ⟨Nat.le_of_ble_eq_true rfl, Nat.le_of_ble_eq_true rfl⟩ ?_
  show zW xPP _ 52 0 [(0, .inr t), (1, .inl (.int x))] [] (zNm k0, c0, s0, h) _
  refine zW.sn 1 (pc2 := 1) (l2 := [(0, .inr t), (1, .inl (.int x))]) (st2 := [.inl (.int x)]) rfl ?_
  refine zW.ifc (tgt := 35) ⟨rfl, rfl⟩ rfl (fun e1 => ?_) (fun e1 => ?_)
  · refine zW.sn 1 (pc2 := 36) (l2 := [(0, .inr t), (1, .inl (.int x))]) (st2 := [.inl (.int 0)]) rfl ?_
    refine zW.ret rfl (zret_z rfl (by decide)) ?_
    show zW xPP _ 56 5 [(0, .inr t), (1, .inl (.int x))] [.inl (.int 0)] (zNm k0, c0, s0, h) _
    refine zW.ifc (tgt := 29) ⟨rfl, rfl⟩ rfl (fun _ => ?_) (fun zz => absurd zz (by decide))
    refine zW.ret rfl rfl ?_
    exact k1 e1
  · refine zW.sn 1 (pc2 := 5) (l2 := [(0, .inr t), (1, .inl (.int x))]) (st2 := [.inl (.int x)]) rfl ?_
    refine zW.sn 1 (pc2 := 6) (l2 := [(0, .inr t), (1, .inl (.int x))]) (st2 := [.inr t, .inl (.int x)]) rfl ?_
    refine zW.getf ⟨rfl, rfl⟩ (hw.get 0 rfl) rfl rfl ?_
    refine zW.alen ⟨rfl, rfl⟩ (hw.get 1 rfl) ?_
    refine zW.ific (tgt := 35) ⟨rfl, rfl⟩ rfl (fun e2 => ?_) (fun e2 => ?_)
    · refine zW.sn 1 (pc2 := 36) (l2 := [(0, .inr t), (1, .inl (.int x))]) (st2 := [.inl (.int 0)]) rfl ?_
      refine zW.ret rfl (zret_z rfl (by decide)) ?_
      show zW xPP _ 56 5 [(0, .inr t), (1, .inl (.int x))] [.inl (.int 0)] (zNm k0, c0, s0, h) _
      refine zW.ifc (tgt := 29) ⟨rfl, rfl⟩ rfl (fun _ => ?_) (fun zz => absurd zz (by decide))
      refine zW.ret rfl rfl ?_
      exact k2 e1 e2
    · refine zW.sn 1 (pc2 := 14) (l2 := [(0, .inr t), (1, .inl (.int x))]) (st2 := [.inl (.int x)]) rfl ?_
      refine zW.sn 1 (pc2 := 15) (l2 := [(0, .inr t), (1, .inl (.int x))]) (st2 := [.inr t, .inl (.int x)]) rfl ?_
      refine zW.getf ⟨rfl, rfl⟩ (hw.get 0 rfl) rfl rfl ?_
      refine zW.alen ⟨rfl, rfl⟩ (hw.get 2 rfl) ?_
      refine zW.ific (tgt := 35) ⟨rfl, rfl⟩ rfl (fun zz => absurd zz ((by rw [e2]; decide))) (fun _ => ?_)
      refine zW.sn 1 (pc2 := 23) (l2 := [(0, .inr t), (1, .inl (.int x))]) (st2 := [.inl (.int x)]) rfl ?_
      refine zW.sn 1 (pc2 := 24) (l2 := [(0, .inr t), (1, .inl (.int x))]) (st2 := [.inr t, .inl (.int x)]) rfl ?_
      refine zW.getf ⟨rfl, rfl⟩ (hw.get 0 rfl) rfl rfl ?_
      refine zW.alen ⟨rfl, rfl⟩ (hw.get 3 rfl) ?_
      refine zW.ific (tgt := 35) ⟨rfl, rfl⟩ rfl (fun zz => absurd zz ((by rw [e2]; decide))) (fun _ => ?_)
      refine zW.sn 1 (pc2 := 32) (l2 := [(0, .inr t), (1, .inl (.int x))]) (st2 := [.inl (.int 1)]) rfl ?_
      refine zW.sn 1 (pc2 := 36) (l2 := [(0, .inr t), (1, .inl (.int x))]) (st2 := [.inl (.int 1)]) rfl ?_
      refine zW.ret rfl (zret_z rfl (by decide)) ?_
      show zW xPP _ 56 5 [(0, .inr t), (1, .inl (.int x))] [.inl (.int 1)] (zNm k0, c0, s0, h) _
      refine zW.ifc (tgt := 29) ⟨rfl, rfl⟩ rfl (fun zz => absurd zz (by decide)) (fun _ => ?_)
      refine zW.sn 1 (pc2 := 9) (l2 := [(0, .inr t), (1, .inl (.int x))]) (st2 := [.inr t]) rfl ?_
      refine zW.getf ⟨rfl, rfl⟩ (hw.get 0 rfl) rfl rfl ?_
      refine zW.sn 1 (pc2 := 13) (l2 := [(0, .inr t), (1, .inl (.int x))]) (st2 := [.inl (.int x), .inr n]) rfl ?_
      refine zW.sn 1 (pc2 := 14) (l2 := [(0, .inr t), (1, .inl (.int x))]) (st2 := [.inl (.int 0), .inl (.int x), .inr n]) rfl ?_
      refine zW.iast ⟨rfl, rfl⟩ (hw.get 1 rfl) (hw.nz 1 rfl) (zin (zcd_nlt e1) (zcd_nge e2) hn_L) ?_
      have hw1 := hw.set 1 rfl (.inr (0, L, zI (zfi fn (Int32.toNatClampNeg x) 0)))
      have hf1 : zFr [t, n, s, g] h _ := zFr.put (zFr.rf) (q := n) (o := .inr (0, L, zI (zfi fn (Int32.toNatClampNeg x) 0))) (List.mem_of_getElem? (i := 1) rfl)
      show zW xPP _ 56 15 [(0, .inr t), (1, .inl (.int x))] [] (zNm k0, c0, s0, (xup h n (.inr (0, L, zI (zfi fn (Int32.toNatClampNeg x) 0))))) _
      refine zW.sn 1 (pc2 := 16) (l2 := [(0, .inr t), (1, .inl (.int x))]) (st2 := [.inr t]) rfl ?_
      refine zW.getf ⟨rfl, rfl⟩ (hw1.get 0 rfl) rfl rfl ?_
      refine zW.sn 1 (pc2 := 20) (l2 := [(0, .inr t), (1, .inl (.int x))]) (st2 := [.inl (.int x), .inr s]) rfl ?_
      refine zW.sn 1 (pc2 := 21) (l2 := [(0, .inr t), (1, .inl (.int x))]) (st2 := [.inl (.int 0), .inl (.int x), .inr s]) rfl ?_
      refine zW.iast ⟨rfl, rfl⟩ (hw1.get 2 rfl) (hw1.nz 2 rfl) (zin (zcd_nlt e1) (zcd_nge e2) hn_L) ?_
      have hw2 := hw1.set 2 rfl (.inr (0, L, zI (zfi fs (Int32.toNatClampNeg x) 0)))
      have hf2 : zFr [t, n, s, g] h _ := zFr.put (hf1) (q := s) (o := .inr (0, L, zI (zfi fs (Int32.toNatClampNeg x) 0))) (List.mem_of_getElem? (i := 2) rfl)
      show zW xPP _ 56 22 [(0, .inr t), (1, .inl (.int x))] [] (zNm k0, c0, s0, (xup (xup h n (.inr (0, L, zI (zfi fn (Int32.toNatClampNeg x) 0)))) s (.inr (0, L, zI (zfi fs (Int32.toNatClampNeg x) 0))))) _
      refine zW.sn 1 (pc2 := 23) (l2 := [(0, .inr t), (1, .inl (.int x))]) (st2 := [.inr t]) rfl ?_
      refine zW.getf ⟨rfl, rfl⟩ (hw2.get 0 rfl) rfl rfl ?_
      refine zW.sn 1 (pc2 := 27) (l2 := [(0, .inr t), (1, .inl (.int x))]) (st2 := [.inl (.int x), .inr g]) rfl ?_
      refine zW.sn 1 (pc2 := 28) (l2 := [(0, .inr t), (1, .inl (.int x))]) (st2 := [.inl (.int 0), .inl (.int x), .inr g]) rfl ?_
      refine zW.iast ⟨rfl, rfl⟩ (hw2.get 3 rfl) (hw2.nz 3 rfl) (zin (zcd_nlt e1) (zcd_nge e2) hn_L) ?_
      have hw3 := hw2.set 3 rfl (.inr (0, L, zI (zfi fg (Int32.toNatClampNeg x) 0)))
      have hf3 : zFr [t, n, s, g] h _ := zFr.put (hf2) (q := g) (o := .inr (0, L, zI (zfi fg (Int32.toNatClampNeg x) 0))) (List.mem_of_getElem? (i := 3) rfl)
      show zW xPP _ 56 29 [(0, .inr t), (1, .inl (.int x))] [] (zNm k0, c0, s0, (xup (xup (xup h n (.inr (0, L, zI (zfi fn (Int32.toNatClampNeg x) 0)))) s (.inr (0, L, zI (zfi fs (Int32.toNatClampNeg x) 0)))) g (.inr (0, L, zI (zfi fg (Int32.toNatClampNeg x) 0))))) _
      refine zW.ret rfl rfl ?_
      exact k3 _ hw3 hf3 e1 e2

set_option maxHeartbeats 4000000 in
theorem w_at {d : Nat} {k0 c0 s0 : Nat} {h : xH} {Q : xR → xA → Prop} {r a : Nat × Nat} {L : Nat} {fl : Int32} {fa : Nat → Int64} {x : Int32} (hn_L : L < 2147483648) (hw : zWd h [(r, .inl (5, [.inr a, .inl (.int fl)])), (a, .inr (1, L, zJ fa))])
    (k1 : xcd .lt x 0 = true → Q (.inl (some (.inl (.long 0)))) (zNm k0, c0, s0, h))
    (k2 : xcd .lt x 0 = false → xcd .ge x (Int32.ofNat L) = true → Q (.inl (some (.inl (.long 0)))) (zNm k0, c0, s0, h))
    (k3 : xcd .lt x 0 = false → xcd .ge x (Int32.ofNat L) = false → Q (.inl (some (.inl (.long (fa (Int32.toNatClampNeg x)))))) (zNm k0, c0, s0, h)) :
    zW xPP d 23 0 [(0, .inr r), (1, .inl (.int x))] [] (zNm k0, c0, s0, h) Q := by
  refine zW.sn 1 (pc2 := 1) (l2 := [(0, .inr r), (1, .inl (.int x))]) (st2 := [.inl (.int x)]) rfl ?_
  refine zW.ifc (tgt := 22) ⟨rfl, rfl⟩ rfl (fun e1 => ?_) (fun e1 => ?_)
  · refine zW.sn 1 (pc2 := 23) (l2 := [(0, .inr r), (1, .inl (.int x))]) (st2 := [.inl (.long 0)]) rfl ?_
    refine zW.ret rfl rfl ?_
    exact k1 e1
  · refine zW.sn 1 (pc2 := 5) (l2 := [(0, .inr r), (1, .inl (.int x))]) (st2 := [.inl (.int x)]) rfl ?_
    refine zW.sn 1 (pc2 := 6) (l2 := [(0, .inr r), (1, .inl (.int x))]) (st2 := [.inr r, .inl (.int x)]) rfl ?_
    refine zW.getf ⟨rfl, rfl⟩ (hw.get 0 rfl) rfl rfl ?_
    refine zW.alen ⟨rfl, rfl⟩ (hw.get 1 rfl) ?_
    refine zW.ific (tgt := 22) ⟨rfl, rfl⟩ rfl (fun e2 => ?_) (fun e2 => ?_)
    · refine zW.sn 1 (pc2 := 23) (l2 := [(0, .inr r), (1, .inl (.int x))]) (st2 := [.inl (.long 0)]) rfl ?_
      refine zW.ret rfl rfl ?_
      exact k2 e1 e2
    · refine zW.sn 1 (pc2 := 14) (l2 := [(0, .inr r), (1, .inl (.int x))]) (st2 := [.inr r]) rfl ?_
      refine zW.getf ⟨rfl, rfl⟩ (hw.get 0 rfl) rfl rfl ?_
      refine zW.sn 1 (pc2 := 18) (l2 := [(0, .inr r), (1, .inl (.int x))]) (st2 := [.inl (.int x), .inr a]) rfl ?_
      refine zW.lald ⟨rfl, rfl⟩ (hw.get 1 rfl) (zin (zcd_nlt e1) (zcd_nge e2) hn_L) ?_
      refine zW.sn 1 (pc2 := 23) (l2 := [(0, .inr r), (1, .inl (.int x))]) (st2 := [.inl (.long (fa (Int32.toNatClampNeg x)))]) rfl ?_
      refine zW.ret rfl rfl ?_
      exact k3 e1 e2

set_option maxHeartbeats 4000000 in
theorem w_put {d : Nat} {k0 c0 s0 : Nat} {h : xH} {Q : xR → xA → Prop} {r a : Nat × Nat} {L : Nat} {fl : Int32} {fa : Nat → Int64} {x : Int32} {y : Int64} (hn_L : L < 2147483648) (hw : zWd h [(r, .inl (5, [.inr a, .inl (.int fl)])), (a, .inr (1, L, zJ fa))])
    (k1 : xcd .lt x 0 = true → Q (.inl none) (zNm k0, c0, s0, h))
    (k2 : xcd .lt x 0 = false → xcd .ge x (Int32.ofNat L) = true → Q (.inl none) (zNm k0, c0, s0, h))
    (k3 : ∀ h1, zWd h1 [(r, .inl (5, [.inr a, .inl (.int (fl + 0))])), (a, .inr (1, L, zJ (zfi fa (Int32.toNatClampNeg x) y)))] → zFr [r, a] h h1 → xcd .lt x 0 = false → xcd .ge x (Int32.ofNat L) = false → xcd .ne (lg_cmp (fa (Int32.toNatClampNeg x)) 0) 0 = true → Q (.inl none) (zNm k0, c0, s0, h1))
    (k4 : ∀ h1, zWd h1 [(r, .inl (5, [.inr a, .inl (.int (fl + 1))])), (a, .inr (1, L, zJ (zfi fa (Int32.toNatClampNeg x) y)))] → zFr [r, a] h h1 → xcd .lt x 0 = false → xcd .ge x (Int32.ofNat L) = false → xcd .ne (lg_cmp (fa (Int32.toNatClampNeg x)) 0) 0 = false → Q (.inl none) (zNm k0, c0, s0, h1)) :
    zW xPP d 24 0 [(0, .inr r), (1, .inl (.int x)), (2, .inl (.long y))] [] (zNm k0, c0, s0, h) Q := by
  refine zW.sn 1 (pc2 := 1) (l2 := [(0, .inr r), (1, .inl (.int x)), (2, .inl (.long y))]) (st2 := [.inl (.int x)]) rfl ?_
  refine zW.ifc (tgt := 45) ⟨rfl, rfl⟩ rfl (fun e1 => ?_) (fun e1 => ?_)
  · refine zW.ret rfl rfl ?_
    exact k1 e1
  · refine zW.sn 1 (pc2 := 5) (l2 := [(0, .inr r), (1, .inl (.int x)), (2, .inl (.long y))]) (st2 := [.inl (.int x)]) rfl ?_
    refine zW.sn 1 (pc2 := 6) (l2 := [(0, .inr r), (1, .inl (.int x)), (2, .inl (.long y))]) (st2 := [.inr r, .inl (.int x)]) rfl ?_
    refine zW.getf ⟨rfl, rfl⟩ (hw.get 0 rfl) rfl rfl ?_
    refine zW.alen ⟨rfl, rfl⟩ (hw.get 1 rfl) ?_
    refine zW.ific (tgt := 45) ⟨rfl, rfl⟩ rfl (fun e2 => ?_) (fun e2 => ?_)
    · refine zW.ret rfl rfl ?_
      exact k2 e1 e2
    · refine zW.sn 1 (pc2 := 14) (l2 := [(0, .inr r), (1, .inl (.int x)), (2, .inl (.long y))]) (st2 := [.inr r]) rfl ?_
      refine zW.sn 1 (pc2 := 15) (l2 := [(0, .inr r), (1, .inl (.int x)), (2, .inl (.long y))]) (st2 := [.inr r, .inr r]) rfl ?_
      refine zW.getf ⟨rfl, rfl⟩ (hw.get 0 rfl) rfl rfl ?_
      refine zW.sn 1 (pc2 := 19) (l2 := [(0, .inr r), (1, .inl (.int x)), (2, .inl (.long y))]) (st2 := [.inr r, .inl (.int fl), .inr r]) rfl ?_
      refine zW.getf ⟨rfl, rfl⟩ (hw.get 0 rfl) rfl rfl ?_
      refine zW.sn 1 (pc2 := 23) (l2 := [(0, .inr r), (1, .inl (.int x)), (2, .inl (.long y))]) (st2 := [.inl (.int x), .inr a, .inl (.int fl), .inr r]) rfl ?_
      refine zW.lald ⟨rfl, rfl⟩ (hw.get 1 rfl) (zin (zcd_nlt e1) (zcd_nge e2) hn_L) ?_
      refine zW.sn 1 (pc2 := 25) (l2 := [(0, .inr r), (1, .inl (.int x)), (2, .inl (.long y))]) (st2 := [.inl (.long 0), .inl (.long (fa (Int32.toNatClampNeg x))), .inl (.int fl), .inr r]) rfl ?_
      refine zW.sn 1 (pc2 := 26) (l2 := [(0, .inr r), (1, .inl (.int x)), (2, .inl (.long y))]) (st2 := [.inl (.int (lg_cmp (fa (Int32.toNatClampNeg x)) 0)), .inl (.int fl), .inr r]) rfl ?_
      refine zW.ifc (tgt := 33) ⟨rfl, rfl⟩ rfl (fun e3 => ?_) (fun e3 => ?_)
      · refine zW.sn 1 (pc2 := 34) (l2 := [(0, .inr r), (1, .inl (.int x)), (2, .inl (.long y))]) (st2 := [.inl (.int 0), .inl (.int fl), .inr r]) rfl ?_
        refine zW.sn 1 (pc2 := 35) (l2 := [(0, .inr r), (1, .inl (.int x)), (2, .inl (.long y))]) (st2 := [.inl (.int (fl + 0)), .inr r]) rfl ?_
        refine zW.putf ⟨rfl, rfl⟩ (hw.get 0 rfl) rfl (hw.nz 0 rfl) rfl ?_
        have hw1 := hw.set 0 rfl (.inl (5, [.inr a, .inl (.int (fl + 0))]))
        have hf1 : zFr [r, a] h _ := zFr.put (zFr.rf) (q := r) (o := .inl (5, [.inr a, .inl (.int (fl + 0))])) (List.mem_of_getElem? (i := 0) rfl)
        show zW xPP _ 24 38 [(0, .inr r), (1, .inl (.int x)), (2, .inl (.long y))] [] (zNm k0, c0, s0, (xup h r (.inl (5, [.inr a, .inl (.int (fl + 0))])))) _
        refine zW.sn 1 (pc2 := 39) (l2 := [(0, .inr r), (1, .inl (.int x)), (2, .inl (.long y))]) (st2 := [.inr r]) rfl ?_
        refine zW.getf ⟨rfl, rfl⟩ (hw1.get 0 rfl) rfl rfl ?_
        refine zW.sn 1 (pc2 := 43) (l2 := [(0, .inr r), (1, .inl (.int x)), (2, .inl (.long y))]) (st2 := [.inl (.int x), .inr a]) rfl ?_
        refine zW.sn 1 (pc2 := 44) (l2 := [(0, .inr r), (1, .inl (.int x)), (2, .inl (.long y))]) (st2 := [.inl (.long y), .inl (.int x), .inr a]) rfl ?_
        refine zW.last ⟨rfl, rfl⟩ (hw1.get 1 rfl) (hw1.nz 1 rfl) (zin (zcd_nlt e1) (zcd_nge e2) hn_L) ?_
        have hw2 := hw1.set 1 rfl (.inr (1, L, zJ (zfi fa (Int32.toNatClampNeg x) y)))
        have hf2 : zFr [r, a] h _ := zFr.put (hf1) (q := a) (o := .inr (1, L, zJ (zfi fa (Int32.toNatClampNeg x) y))) (List.mem_of_getElem? (i := 1) rfl)
        show zW xPP _ 24 45 [(0, .inr r), (1, .inl (.int x)), (2, .inl (.long y))] [] (zNm k0, c0, s0, (xup (xup h r (.inl (5, [.inr a, .inl (.int (fl + 0))]))) a (.inr (1, L, zJ (zfi fa (Int32.toNatClampNeg x) y))))) _
        refine zW.ret rfl rfl ?_
        exact k3 _ hw2 hf2 e1 e2 e3
      · refine zW.sn 1 (pc2 := 30) (l2 := [(0, .inr r), (1, .inl (.int x)), (2, .inl (.long y))]) (st2 := [.inl (.int 1), .inl (.int fl), .inr r]) rfl ?_
        refine zW.sn 1 (pc2 := 34) (l2 := [(0, .inr r), (1, .inl (.int x)), (2, .inl (.long y))]) (st2 := [.inl (.int 1), .inl (.int fl), .inr r]) rfl ?_
        refine zW.sn 1 (pc2 := 35) (l2 := [(0, .inr r), (1, .inl (.int x)), (2, .inl (.long y))]) (st2 := [.inl (.int (fl + 1)), .inr r]) rfl ?_
        refine zW.putf ⟨rfl, rfl⟩ (hw.get 0 rfl) rfl (hw.nz 0 rfl) rfl ?_
        have hw3 := hw.set 0 rfl (.inl (5, [.inr a, .inl (.int (fl + 1))]))
        have hf3 : zFr [r, a] h _ := zFr.put (zFr.rf) (q := r) (o := .inl (5, [.inr a, .inl (.int (fl + 1))])) (List.mem_of_getElem? (i := 0) rfl)
        show zW xPP _ 24 38 [(0, .inr r), (1, .inl (.int x)), (2, .inl (.long y))] [] (zNm k0, c0, s0, (xup h r (.inl (5, [.inr a, .inl (.int (fl + 1))])))) _
        refine zW.sn 1 (pc2 := 39) (l2 := [(0, .inr r), (1, .inl (.int x)), (2, .inl (.long y))]) (st2 := [.inr r]) rfl ?_
        refine zW.getf ⟨rfl, rfl⟩ (hw3.get 0 rfl) rfl rfl ?_
        refine zW.sn 1 (pc2 := 43) (l2 := [(0, .inr r), (1, .inl (.int x)), (2, .inl (.long y))]) (st2 := [.inl (.int x), .inr a]) rfl ?_
        refine zW.sn 1 (pc2 := 44) (l2 := [(0, .inr r), (1, .inl (.int x)), (2, .inl (.long y))]) (st2 := [.inl (.long y), .inl (.int x), .inr a]) rfl ?_
        refine zW.last ⟨rfl, rfl⟩ (hw3.get 1 rfl) (hw3.nz 1 rfl) (zin (zcd_nlt e1) (zcd_nge e2) hn_L) ?_
        have hw4 := hw3.set 1 rfl (.inr (1, L, zJ (zfi fa (Int32.toNatClampNeg x) y)))
        have hf4 : zFr [r, a] h _ := zFr.put (hf3) (q := a) (o := .inr (1, L, zJ (zfi fa (Int32.toNatClampNeg x) y))) (List.mem_of_getElem? (i := 1) rfl)
        show zW xPP _ 24 45 [(0, .inr r), (1, .inl (.int x)), (2, .inl (.long y))] [] (zNm k0, c0, s0, (xup (xup h r (.inl (5, [.inr a, .inl (.int (fl + 1))]))) a (.inr (1, L, zJ (zfi fa (Int32.toNatClampNeg x) y))))) _
        refine zW.ret rfl rfl ?_
        exact k4 _ hw4 hf4 e1 e2 e3

set_option maxHeartbeats 4000000 in
theorem w_clr {d : Nat} {k0 c0 s0 : Nat} {h : xH} {Q : xR → xA → Prop} {r a : Nat × Nat} {L : Nat} {fl : Int32} {fa : Nat → Int64} {x : Int32} (hn_L : L < 2147483648) (hw : zWd h [(r, .inl (5, [.inr a, .inl (.int fl)])), (a, .inr (1, L, zJ fa))])
    (k1 : xcd .lt x 0 = true → Q (.inl none) (zNm k0, c0, s0, h))
    (k2 : xcd .lt x 0 = false → xcd .ge x (Int32.ofNat L) = true → Q (.inl none) (zNm k0, c0, s0, h))
    (k3 : ∀ h1, zWd h1 [(r, .inl (5, [.inr a, .inl (.int (fl - 1))])), (a, .inr (1, L, zJ (zfi fa (Int32.toNatClampNeg x) 0)))] → zFr [r, a] h h1 → xcd .lt x 0 = false → xcd .ge x (Int32.ofNat L) = false → xcd .ne (lg_cmp (fa (Int32.toNatClampNeg x)) 0) 0 = true → Q (.inl none) (zNm k0, c0, s0, h1))
    (k4 : ∀ h1, zWd h1 [(r, .inl (5, [.inr a, .inl (.int (fl - 0))])), (a, .inr (1, L, zJ (zfi fa (Int32.toNatClampNeg x) 0)))] → zFr [r, a] h h1 → xcd .lt x 0 = false → xcd .ge x (Int32.ofNat L) = false → xcd .ne (lg_cmp (fa (Int32.toNatClampNeg x)) 0) 0 = false → Q (.inl none) (zNm k0, c0, s0, h1)) :
    zW xPP d 25 0 [(0, .inr r), (1, .inl (.int x))] [] (zNm k0, c0, s0, h) Q := by
  refine zW.sn 1 (pc2 := 1) (l2 := [(0, .inr r), (1, .inl (.int x))]) (st2 := [.inl (.int x)]) rfl ?_
  refine zW.ifc (tgt := 45) ⟨rfl, rfl⟩ rfl (fun e1 => ?_) (fun e1 => ?_)
  · refine zW.ret rfl rfl ?_
    exact k1 e1
  · refine zW.sn 1 (pc2 := 5) (l2 := [(0, .inr r), (1, .inl (.int x))]) (st2 := [.inl (.int x)]) rfl ?_
    refine zW.sn 1 (pc2 := 6) (l2 := [(0, .inr r), (1, .inl (.int x))]) (st2 := [.inr r, .inl (.int x)]) rfl ?_
    refine zW.getf ⟨rfl, rfl⟩ (hw.get 0 rfl) rfl rfl ?_
    refine zW.alen ⟨rfl, rfl⟩ (hw.get 1 rfl) ?_
    refine zW.ific (tgt := 45) ⟨rfl, rfl⟩ rfl (fun e2 => ?_) (fun e2 => ?_)
    · refine zW.ret rfl rfl ?_
      exact k2 e1 e2
    · refine zW.sn 1 (pc2 := 14) (l2 := [(0, .inr r), (1, .inl (.int x))]) (st2 := [.inr r]) rfl ?_
      refine zW.sn 1 (pc2 := 15) (l2 := [(0, .inr r), (1, .inl (.int x))]) (st2 := [.inr r, .inr r]) rfl ?_
      refine zW.getf ⟨rfl, rfl⟩ (hw.get 0 rfl) rfl rfl ?_
      refine zW.sn 1 (pc2 := 19) (l2 := [(0, .inr r), (1, .inl (.int x))]) (st2 := [.inr r, .inl (.int fl), .inr r]) rfl ?_
      refine zW.getf ⟨rfl, rfl⟩ (hw.get 0 rfl) rfl rfl ?_
      refine zW.sn 1 (pc2 := 23) (l2 := [(0, .inr r), (1, .inl (.int x))]) (st2 := [.inl (.int x), .inr a, .inl (.int fl), .inr r]) rfl ?_
      refine zW.lald ⟨rfl, rfl⟩ (hw.get 1 rfl) (zin (zcd_nlt e1) (zcd_nge e2) hn_L) ?_
      refine zW.sn 1 (pc2 := 25) (l2 := [(0, .inr r), (1, .inl (.int x))]) (st2 := [.inl (.long 0), .inl (.long (fa (Int32.toNatClampNeg x))), .inl (.int fl), .inr r]) rfl ?_
      refine zW.sn 1 (pc2 := 26) (l2 := [(0, .inr r), (1, .inl (.int x))]) (st2 := [.inl (.int (lg_cmp (fa (Int32.toNatClampNeg x)) 0)), .inl (.int fl), .inr r]) rfl ?_
      refine zW.ifc (tgt := 33) ⟨rfl, rfl⟩ rfl (fun e3 => ?_) (fun e3 => ?_)
      · refine zW.sn 1 (pc2 := 34) (l2 := [(0, .inr r), (1, .inl (.int x))]) (st2 := [.inl (.int 1), .inl (.int fl), .inr r]) rfl ?_
        refine zW.sn 1 (pc2 := 35) (l2 := [(0, .inr r), (1, .inl (.int x))]) (st2 := [.inl (.int (fl - 1)), .inr r]) rfl ?_
        refine zW.putf ⟨rfl, rfl⟩ (hw.get 0 rfl) rfl (hw.nz 0 rfl) rfl ?_
        have hw1 := hw.set 0 rfl (.inl (5, [.inr a, .inl (.int (fl - 1))]))
        have hf1 : zFr [r, a] h _ := zFr.put (zFr.rf) (q := r) (o := .inl (5, [.inr a, .inl (.int (fl - 1))])) (List.mem_of_getElem? (i := 0) rfl)
        show zW xPP _ 25 38 [(0, .inr r), (1, .inl (.int x))] [] (zNm k0, c0, s0, (xup h r (.inl (5, [.inr a, .inl (.int (fl - 1))])))) _
        refine zW.sn 1 (pc2 := 39) (l2 := [(0, .inr r), (1, .inl (.int x))]) (st2 := [.inr r]) rfl ?_
        refine zW.getf ⟨rfl, rfl⟩ (hw1.get 0 rfl) rfl rfl ?_
        refine zW.sn 1 (pc2 := 43) (l2 := [(0, .inr r), (1, .inl (.int x))]) (st2 := [.inl (.int x), .inr a]) rfl ?_
        refine zW.sn 1 (pc2 := 44) (l2 := [(0, .inr r), (1, .inl (.int x))]) (st2 := [.inl (.long 0), .inl (.int x), .inr a]) rfl ?_
        refine zW.last ⟨rfl, rfl⟩ (hw1.get 1 rfl) (hw1.nz 1 rfl) (zin (zcd_nlt e1) (zcd_nge e2) hn_L) ?_
        have hw2 := hw1.set 1 rfl (.inr (1, L, zJ (zfi fa (Int32.toNatClampNeg x) 0)))
        have hf2 : zFr [r, a] h _ := zFr.put (hf1) (q := a) (o := .inr (1, L, zJ (zfi fa (Int32.toNatClampNeg x) 0))) (List.mem_of_getElem? (i := 1) rfl)
        show zW xPP _ 25 45 [(0, .inr r), (1, .inl (.int x))] [] (zNm k0, c0, s0, (xup (xup h r (.inl (5, [.inr a, .inl (.int (fl - 1))]))) a (.inr (1, L, zJ (zfi fa (Int32.toNatClampNeg x) 0))))) _
        refine zW.ret rfl rfl ?_
        exact k3 _ hw2 hf2 e1 e2 e3
      · refine zW.sn 1 (pc2 := 30) (l2 := [(0, .inr r), (1, .inl (.int x))]) (st2 := [.inl (.int 0), .inl (.int fl), .inr r]) rfl ?_
        refine zW.sn 1 (pc2 := 34) (l2 := [(0, .inr r), (1, .inl (.int x))]) (st2 := [.inl (.int 0), .inl (.int fl), .inr r]) rfl ?_
        refine zW.sn 1 (pc2 := 35) (l2 := [(0, .inr r), (1, .inl (.int x))]) (st2 := [.inl (.int (fl - 0)), .inr r]) rfl ?_
        refine zW.putf ⟨rfl, rfl⟩ (hw.get 0 rfl) rfl (hw.nz 0 rfl) rfl ?_
        have hw3 := hw.set 0 rfl (.inl (5, [.inr a, .inl (.int (fl - 0))]))
        have hf3 : zFr [r, a] h _ := zFr.put (zFr.rf) (q := r) (o := .inl (5, [.inr a, .inl (.int (fl - 0))])) (List.mem_of_getElem? (i := 0) rfl)
        show zW xPP _ 25 38 [(0, .inr r), (1, .inl (.int x))] [] (zNm k0, c0, s0, (xup h r (.inl (5, [.inr a, .inl (.int (fl - 0))])))) _
        refine zW.sn 1 (pc2 := 39) (l2 := [(0, .inr r), (1, .inl (.int x))]) (st2 := [.inr r]) rfl ?_
        refine zW.getf ⟨rfl, rfl⟩ (hw3.get 0 rfl) rfl rfl ?_
        refine zW.sn 1 (pc2 := 43) (l2 := [(0, .inr r), (1, .inl (.int x))]) (st2 := [.inl (.int x), .inr a]) rfl ?_
        refine zW.sn 1 (pc2 := 44) (l2 := [(0, .inr r), (1, .inl (.int x))]) (st2 := [.inl (.long 0), .inl (.int x), .inr a]) rfl ?_
        refine zW.last ⟨rfl, rfl⟩ (hw3.get 1 rfl) (hw3.nz 1 rfl) (zin (zcd_nlt e1) (zcd_nge e2) hn_L) ?_
        have hw4 := hw3.set 1 rfl (.inr (1, L, zJ (zfi fa (Int32.toNatClampNeg x) 0)))
        have hf4 : zFr [r, a] h _ := zFr.put (hf3) (q := a) (o := .inr (1, L, zJ (zfi fa (Int32.toNatClampNeg x) 0))) (List.mem_of_getElem? (i := 1) rfl)
        show zW xPP _ 25 45 [(0, .inr r), (1, .inl (.int x))] [] (zNm k0, c0, s0, (xup (xup h r (.inl (5, [.inr a, .inl (.int (fl - 0))]))) a (.inr (1, L, zJ (zfi fa (Int32.toNatClampNeg x) 0))))) _
        refine zW.ret rfl rfl ?_
        exact k4 _ hw4 hf4 e1 e2 e3

end ZP1
