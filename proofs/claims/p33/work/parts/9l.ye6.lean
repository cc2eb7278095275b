set_option maxRecDepth 100000
section YD9l
theorem zVn_add {L : zVL} {X : zCf × zSt} : zVn (L ++ [X]) = zVn L ++ [(20, L.length)] := by
  show (List.range (L ++ [X]).length).map _ = _
  rw [List.length_append]
  show (List.range (L.length + 1)).map _ = _
  rw [List.range_succ, List.map_append]
  rfl
variable {d : Nat} {Q : xR → Nat → Nat → xH → Prop}
theorem s_isKind {c s : Nat} {h : xH} {x : Int} (hx : x = 116 ∨ x = 108 ∨ x = 115 ∨ x = 106 ∨ x = 118) (q : Q (.inl (some (zi 1))) c s h) : zX d 134 0 [(0, zi x)] [] c s h Q := by
  rcases hx with rfl | rfl | rfl | rfl | rfl
  · refine zX.sn 1 (pc2 := 1) (l2 := [(0, zi 116)]) (st2 := [zi 116]) rfl ?_
    refine zX.sn 1 (pc2 := 3) (l2 := [(0, zi 116)]) (st2 := [zi 116, zi 116]) rfl ?_
    refine zX.icmp (tgt := 30) ⟨rfl, rfl⟩ rfl (by omega) (by omega) (fun _ => ?_) (fun (zz : ¬ (116 : Int) = 116) => absurd zz (by omega))
    refine zX.sn 1 (pc2 := 31) (l2 := [(0, zi 116)]) (st2 := [zi 1]) rfl ?_
    refine zX.sn 1 (pc2 := 35) (l2 := [(0, zi 116)]) (st2 := [zi 1]) rfl ?_
    refine zX.ret rfl (zret_z rfl (by decide)) ?_
    exact q
  · refine zX.sn 1 (pc2 := 1) (l2 := [(0, zi 108)]) (st2 := [zi 108]) rfl ?_
    refine zX.sn 1 (pc2 := 3) (l2 := [(0, zi 108)]) (st2 := [zi 116, zi 108]) rfl ?_
    refine zX.icmp (tgt := 30) ⟨rfl, rfl⟩ rfl (by omega) (by omega) (fun (zz : (108 : Int) = 116) => absurd zz (by omega)) (fun _ => ?_)
    refine zX.sn 1 (pc2 := 7) (l2 := [(0, zi 108)]) (st2 := [zi 108]) rfl ?_
    refine zX.sn 1 (pc2 := 9) (l2 := [(0, zi 108)]) (st2 := [zi 108, zi 108]) rfl ?_
    refine zX.icmp (tgt := 30) ⟨rfl, rfl⟩ rfl (by omega) (by omega) (fun _ => ?_) (fun (zz : ¬ (108 : Int) = 108) => absurd zz (by omega))
    refine zX.sn 1 (pc2 := 31) (l2 := [(0, zi 108)]) (st2 := [zi 1]) rfl ?_
    refine zX.sn 1 (pc2 := 35) (l2 := [(0, zi 108)]) (st2 := [zi 1]) rfl ?_
    refine zX.ret rfl (zret_z rfl (by decide)) ?_
    exact q
  · refine zX.sn 1 (pc2 := 1) (l2 := [(0, zi 115)]) (st2 := [zi 115]) rfl ?_
    refine zX.sn 1 (pc2 := 3) (l2 := [(0, zi 115)]) (st2 := [zi 116, zi 115]) rfl ?_
    refine zX.icmp (tgt := 30) ⟨rfl, rfl⟩ rfl (by omega) (by omega) (fun (zz : (115 : Int) = 116) => absurd zz (by omega)) (fun _ => ?_)
    refine zX.sn 1 (pc2 := 7) (l2 := [(0, zi 115)]) (st2 := [zi 115]) rfl ?_
    refine zX.sn 1 (pc2 := 9) (l2 := [(0, zi 115)]) (st2 := [zi 108, zi 115]) rfl ?_
    refine zX.icmp (tgt := 30) ⟨rfl, rfl⟩ rfl (by omega) (by omega) (fun (zz : (115 : Int) = 108) => absurd zz (by omega)) (fun _ => ?_)
    refine zX.sn 1 (pc2 := 13) (l2 := [(0, zi 115)]) (st2 := [zi 115]) rfl ?_
    refine zX.sn 1 (pc2 := 15) (l2 := [(0, zi 115)]) (st2 := [zi 115, zi 115]) rfl ?_
    refine zX.icmp (tgt := 30) ⟨rfl, rfl⟩ rfl (by omega) (by omega) (fun _ => ?_) (fun (zz : ¬ (115 : Int) = 115) => absurd zz (by omega))
    refine zX.sn 1 (pc2 := 31) (l2 := [(0, zi 115)]) (st2 := [zi 1]) rfl ?_
    refine zX.sn 1 (pc2 := 35) (l2 := [(0, zi 115)]) (st2 := [zi 1]) rfl ?_
    refine zX.ret rfl (zret_z rfl (by decide)) ?_
    exact q
  · refine zX.sn 1 (pc2 := 1) (l2 := [(0, zi 106)]) (st2 := [zi 106]) rfl ?_
    refine zX.sn 1 (pc2 := 3) (l2 := [(0, zi 106)]) (st2 := [zi 116, zi 106]) rfl ?_
    refine zX.icmp (tgt := 30) ⟨rfl, rfl⟩ rfl (by omega) (by omega) (fun (zz : (106 : Int) = 116) => absurd zz (by omega)) (fun _ => ?_)
    refine zX.sn 1 (pc2 := 7) (l2 := [(0, zi 106)]) (st2 := [zi 106]) rfl ?_
    refine zX.sn 1 (pc2 := 9) (l2 := [(0, zi 106)]) (st2 := [zi 108, zi 106]) rfl ?_
    refine zX.icmp (tgt := 30) ⟨rfl, rfl⟩ rfl (by omega) (by omega) (fun (zz : (106 : Int) = 108) => absurd zz (by omega)) (fun _ => ?_)
    refine zX.sn 1 (pc2 := 13) (l2 := [(0, zi 106)]) (st2 := [zi 106]) rfl ?_
    refine zX.sn 1 (pc2 := 15) (l2 := [(0, zi 106)]) (st2 := [zi 115, zi 106]) rfl ?_
    refine zX.icmp (tgt := 30) ⟨rfl, rfl⟩ rfl (by omega) (by omega) (fun (zz : (106 : Int) = 115) => absurd zz (by omega)) (fun _ => ?_)
    refine zX.sn 1 (pc2 := 19) (l2 := [(0, zi 106)]) (st2 := [zi 106]) rfl ?_
    refine zX.sn 1 (pc2 := 21) (l2 := [(0, zi 106)]) (st2 := [zi 106, zi 106]) rfl ?_
    refine zX.icmp (tgt := 30) ⟨rfl, rfl⟩ rfl (by omega) (by omega) (fun _ => ?_) (fun (zz : ¬ (106 : Int) = 106) => absurd zz (by omega))
    refine zX.sn 1 (pc2 := 31) (l2 := [(0, zi 106)]) (st2 := [zi 1]) rfl ?_
    refine zX.sn 1 (pc2 := 35) (l2 := [(0, zi 106)]) (st2 := [zi 1]) rfl ?_
    refine zX.ret rfl (zret_z rfl (by decide)) ?_
    exact q
  · refine zX.sn 1 (pc2 := 1) (l2 := [(0, zi 118)]) (st2 := [zi 118]) rfl ?_
    refine zX.sn 1 (pc2 := 3) (l2 := [(0, zi 118)]) (st2 := [zi 116, zi 118]) rfl ?_
    refine zX.icmp (tgt := 30) ⟨rfl, rfl⟩ rfl (by omega) (by omega) (fun (zz : (118 : Int) = 116) => absurd zz (by omega)) (fun _ => ?_)
    refine zX.sn 1 (pc2 := 7) (l2 := [(0, zi 118)]) (st2 := [zi 118]) rfl ?_
    refine zX.sn 1 (pc2 := 9) (l2 := [(0, zi 118)]) (st2 := [zi 108, zi 118]) rfl ?_
    refine zX.icmp (tgt := 30) ⟨rfl, rfl⟩ rfl (by omega) (by omega) (fun (zz : (118 : Int) = 108) => absurd zz (by omega)) (fun _ => ?_)
    refine zX.sn 1 (pc2 := 13) (l2 := [(0, zi 118)]) (st2 := [zi 118]) rfl ?_
    refine zX.sn 1 (pc2 := 15) (l2 := [(0, zi 118)]) (st2 := [zi 115, zi 118]) rfl ?_
    refine zX.icmp (tgt := 30) ⟨rfl, rfl⟩ rfl (by omega) (by omega) (fun (zz : (118 : Int) = 115) => absurd zz (by omega)) (fun _ => ?_)
    refine zX.sn 1 (pc2 := 19) (l2 := [(0, zi 118)]) (st2 := [zi 118]) rfl ?_
    refine zX.sn 1 (pc2 := 21) (l2 := [(0, zi 118)]) (st2 := [zi 106, zi 118]) rfl ?_
    refine zX.icmp (tgt := 30) ⟨rfl, rfl⟩ rfl (by omega) (by omega) (fun (zz : (118 : Int) = 106) => absurd zz (by omega)) (fun _ => ?_)
    refine zX.sn 1 (pc2 := 25) (l2 := [(0, zi 118)]) (st2 := [zi 118]) rfl ?_
    refine zX.sn 1 (pc2 := 27) (l2 := [(0, zi 118)]) (st2 := [zi 118, zi 118]) rfl ?_
    refine zX.icmp (tgt := 34) ⟨rfl, rfl⟩ rfl (by omega) (by omega) (fun (zz : ¬ (118 : Int) = 118) => absurd zz (by omega)) (fun _ => ?_)
    refine zX.sn 1 (pc2 := 31) (l2 := [(0, zi 118)]) (st2 := [zi 1]) rfl ?_
    refine zX.sn 1 (pc2 := 35) (l2 := [(0, zi 118)]) (st2 := [zi 1]) rfl ?_
    refine zX.ret rfl (zret_z rfl (by decide)) ?_
    exact q
theorem s_isMeas {c s : Nat} {h : xH} {x : Int} (hx : x = 99 ∨ x = 115 ∨ x = 109) (q : Q (.inl (some (zi 1))) c s h) : zX d 135 0 [(0, zi x)] [] c s h Q := by
  rcases hx with rfl | rfl | rfl
  · refine zX.sn 1 (pc2 := 1) (l2 := [(0, zi 99)]) (st2 := [zi 99]) rfl ?_
    refine zX.sn 1 (pc2 := 3) (l2 := [(0, zi 99)]) (st2 := [zi 99, zi 99]) rfl ?_
    refine zX.icmp (tgt := 30) ⟨rfl, rfl⟩ rfl (by omega) (by omega) (fun _ => ?_) (fun (zz : ¬ (99 : Int) = 99) => absurd zz (by omega))
    refine zX.sn 1 (pc2 := 31) (l2 := [(0, zi 99)]) (st2 := [zi 1]) rfl ?_
    refine zX.sn 1 (pc2 := 35) (l2 := [(0, zi 99)]) (st2 := [zi 1]) rfl ?_
    refine zX.ret rfl (zret_z rfl (by decide)) ?_
    exact q
  · refine zX.sn 1 (pc2 := 1) (l2 := [(0, zi 115)]) (st2 := [zi 115]) rfl ?_
    refine zX.sn 1 (pc2 := 3) (l2 := [(0, zi 115)]) (st2 := [zi 99, zi 115]) rfl ?_
    refine zX.icmp (tgt := 30) ⟨rfl, rfl⟩ rfl (by omega) (by omega) (fun (zz : (115 : Int) = 99) => absurd zz (by omega)) (fun _ => ?_)
    refine zX.sn 1 (pc2 := 7) (l2 := [(0, zi 115)]) (st2 := [zi 115]) rfl ?_
    refine zX.sn 1 (pc2 := 9) (l2 := [(0, zi 115)]) (st2 := [zi 115, zi 115]) rfl ?_
    refine zX.icmp (tgt := 30) ⟨rfl, rfl⟩ rfl (by omega) (by omega) (fun _ => ?_) (fun (zz : ¬ (115 : Int) = 115) => absurd zz (by omega))
    refine zX.sn 1 (pc2 := 31) (l2 := [(0, zi 115)]) (st2 := [zi 1]) rfl ?_
    refine zX.sn 1 (pc2 := 35) (l2 := [(0, zi 115)]) (st2 := [zi 1]) rfl ?_
    refine zX.ret rfl (zret_z rfl (by decide)) ?_
    exact q
  · refine zX.sn 1 (pc2 := 1) (l2 := [(0, zi 109)]) (st2 := [zi 109]) rfl ?_
    refine zX.sn 1 (pc2 := 3) (l2 := [(0, zi 109)]) (st2 := [zi 99, zi 109]) rfl ?_
    refine zX.icmp (tgt := 30) ⟨rfl, rfl⟩ rfl (by omega) (by omega) (fun (zz : (109 : Int) = 99) => absurd zz (by omega)) (fun _ => ?_)
    refine zX.sn 1 (pc2 := 7) (l2 := [(0, zi 109)]) (st2 := [zi 109]) rfl ?_
    refine zX.sn 1 (pc2 := 9) (l2 := [(0, zi 109)]) (st2 := [zi 115, zi 109]) rfl ?_
    refine zX.icmp (tgt := 30) ⟨rfl, rfl⟩ rfl (by omega) (by omega) (fun (zz : (109 : Int) = 115) => absurd zz (by omega)) (fun _ => ?_)
    refine zX.sn 1 (pc2 := 13) (l2 := [(0, zi 109)]) (st2 := [zi 109]) rfl ?_
    refine zX.sn 1 (pc2 := 15) (l2 := [(0, zi 109)]) (st2 := [zi 120, zi 109]) rfl ?_
    refine zX.icmp (tgt := 30) ⟨rfl, rfl⟩ rfl (by omega) (by omega) (fun (zz : (109 : Int) = 120) => absurd zz (by omega)) (fun _ => ?_)
    refine zX.sn 1 (pc2 := 19) (l2 := [(0, zi 109)]) (st2 := [zi 109]) rfl ?_
    refine zX.sn 1 (pc2 := 21) (l2 := [(0, zi 109)]) (st2 := [zi 98, zi 109]) rfl ?_
    refine zX.icmp (tgt := 30) ⟨rfl, rfl⟩ rfl (by omega) (by omega) (fun (zz : (109 : Int) = 98) => absurd zz (by omega)) (fun _ => ?_)
    refine zX.sn 1 (pc2 := 25) (l2 := [(0, zi 109)]) (st2 := [zi 109]) rfl ?_
    refine zX.sn 1 (pc2 := 27) (l2 := [(0, zi 109)]) (st2 := [zi 109, zi 109]) rfl ?_
    refine zX.icmp (tgt := 34) ⟨rfl, rfl⟩ rfl (by omega) (by omega) (fun (zz : ¬ (109 : Int) = 109) => absurd zz (by omega)) (fun _ => ?_)
    refine zX.sn 1 (pc2 := 31) (l2 := [(0, zi 109)]) (st2 := [zi 1]) rfl ?_
    refine zX.sn 1 (pc2 := 35) (l2 := [(0, zi 109)]) (st2 := [zi 1]) rfl ?_
    refine zX.ret rfl (zret_z rfl (by decide)) ?_
    exact q
theorem s_isFilt {c s : Nat} {h : xH} {x : Int} (hx : x = 97 ∨ x = 101 ∨ x = 112) (q : Q (.inl (some (zi 1))) c s h) : zX d 136 0 [(0, zi x)] [] c s h Q := by
  rcases hx with rfl | rfl | rfl
  · refine zX.sn 1 (pc2 := 1) (l2 := [(0, zi 97)]) (st2 := [zi 97]) rfl ?_
    refine zX.sn 1 (pc2 := 3) (l2 := [(0, zi 97)]) (st2 := [zi 97, zi 97]) rfl ?_
    refine zX.icmp (tgt := 18) ⟨rfl, rfl⟩ rfl (by omega) (by omega) (fun _ => ?_) (fun (zz : ¬ (97 : Int) = 97) => absurd zz (by omega))
    refine zX.sn 1 (pc2 := 19) (l2 := [(0, zi 97)]) (st2 := [zi 1]) rfl ?_
    refine zX.sn 1 (pc2 := 23) (l2 := [(0, zi 97)]) (st2 := [zi 1]) rfl ?_
    refine zX.ret rfl (zret_z rfl (by decide)) ?_
    exact q
  · refine zX.sn 1 (pc2 := 1) (l2 := [(0, zi 101)]) (st2 := [zi 101]) rfl ?_
    refine zX.sn 1 (pc2 := 3) (l2 := [(0, zi 101)]) (st2 := [zi 97, zi 101]) rfl ?_
    refine zX.icmp (tgt := 18) ⟨rfl, rfl⟩ rfl (by omega) (by omega) (fun (zz : (101 : Int) = 97) => absurd zz (by omega)) (fun _ => ?_)
    refine zX.sn 1 (pc2 := 7) (l2 := [(0, zi 101)]) (st2 := [zi 101]) rfl ?_
    refine zX.sn 1 (pc2 := 9) (l2 := [(0, zi 101)]) (st2 := [zi 101, zi 101]) rfl ?_
    refine zX.icmp (tgt := 18) ⟨rfl, rfl⟩ rfl (by omega) (by omega) (fun _ => ?_) (fun (zz : ¬ (101 : Int) = 101) => absurd zz (by omega))
    refine zX.sn 1 (pc2 := 19) (l2 := [(0, zi 101)]) (st2 := [zi 1]) rfl ?_
    refine zX.sn 1 (pc2 := 23) (l2 := [(0, zi 101)]) (st2 := [zi 1]) rfl ?_
    refine zX.ret rfl (zret_z rfl (by decide)) ?_
    exact q
  · refine zX.sn 1 (pc2 := 1) (l2 := [(0, zi 112)]) (st2 := [zi 112]) rfl ?_
    refine zX.sn 1 (pc2 := 3) (l2 := [(0, zi 112)]) (st2 := [zi 97, zi 112]) rfl ?_
    refine zX.icmp (tgt := 18) ⟨rfl, rfl⟩ rfl (by omega) (by omega) (fun (zz : (112 : Int) = 97) => absurd zz (by omega)) (fun _ => ?_)
    refine zX.sn 1 (pc2 := 7) (l2 := [(0, zi 112)]) (st2 := [zi 112]) rfl ?_
    refine zX.sn 1 (pc2 := 9) (l2 := [(0, zi 112)]) (st2 := [zi 101, zi 112]) rfl ?_
    refine zX.icmp (tgt := 18) ⟨rfl, rfl⟩ rfl (by omega) (by omega) (fun (zz : (112 : Int) = 101) => absurd zz (by omega)) (fun _ => ?_)
    refine zX.sn 1 (pc2 := 13) (l2 := [(0, zi 112)]) (st2 := [zi 112]) rfl ?_
    refine zX.sn 1 (pc2 := 15) (l2 := [(0, zi 112)]) (st2 := [zi 112, zi 112]) rfl ?_
    refine zX.icmp (tgt := 22) ⟨rfl, rfl⟩ rfl (by omega) (by omega) (fun (zz : ¬ (112 : Int) = 112) => absurd zz (by omega)) (fun _ => ?_)
    refine zX.sn 1 (pc2 := 19) (l2 := [(0, zi 112)]) (st2 := [zi 1]) rfl ?_
    refine zX.sn 1 (pc2 := 23) (l2 := [(0, zi 112)]) (st2 := [zi 1]) rfl ?_
    refine zX.ret rfl (zret_z rfl (by decide)) ?_
    exact q
theorem t_addZ {c s : Nat} {h : xH} {ch me fi sp gr : Int} (hch : ch = 116 ∨ ch = 108 ∨ ch = 115 ∨ ch = 106 ∨ ch = 118) (hme : me = 99 ∨ me = 115 ∨ me = 109) (hfi : fi = 97 ∨ fi = 101 ∨ fi = 112) (q : Q (.inr "java/lang/IllegalArgumentException") (c + 1) (s + 6) h) : zX (d + 8) 103 0 [(0, .inr (10, 0)), (1, zi ch), (2, zi me), (3, zi fi), (4, zi 0), (5, zi sp), (6, zi gr)] [] c s h Q := by
  refine zX.sn 1 (pc2 := 1) (l2 := [(0, .inr (10, 0)), (1, zi ch), (2, zi me), (3, zi fi), (4, zi 0), (5, zi sp), (6, zi gr)]) (st2 := [zi ch]) rfl ?_
  refine zX.call (mid2 := 134) (as := [zi ch]) (rest := []) ⟨rfl, rfl⟩ (fun _ => rfl) rfl ⟨Nat.le_of_ble_eq_true rfl, Nat.le_of_ble_eq_true rfl⟩ ?_
  refine s_isKind hch ?_
  show zX _ 103 4 [(0, .inr (10, 0)), (1, zi ch), (2, zi me), (3, zi fi), (4, zi 0), (5, zi sp), (6, zi gr)] [zi 1] c s _ _
  refine zX.icmp0 (x := 1) (tgt := 21) ⟨rfl, rfl⟩ rfl (by omega) (fun (zz : (1 : Int) = 0) => absurd zz (by omega)) (fun _ => ?_)
  refine zX.sn 1 (pc2 := 8) (l2 := [(0, .inr (10, 0)), (1, zi ch), (2, zi me), (3, zi fi), (4, zi 0), (5, zi sp), (6, zi gr)]) (st2 := [zi me]) rfl ?_
  refine zX.call (mid2 := 135) (as := [zi me]) (rest := []) ⟨rfl, rfl⟩ (fun _ => rfl) rfl ⟨Nat.le_of_ble_eq_true rfl, Nat.le_of_ble_eq_true rfl⟩ ?_
  refine s_isMeas hme ?_
  show zX _ 103 11 [(0, .inr (10, 0)), (1, zi ch), (2, zi me), (3, zi fi), (4, zi 0), (5, zi sp), (6, zi gr)] [zi 1] c s _ _
  refine zX.icmp0 (x := 1) (tgt := 21) ⟨rfl, rfl⟩ rfl (by omega) (fun (zz : (1 : Int) = 0) => absurd zz (by omega)) (fun _ => ?_)
  refine zX.sn 1 (pc2 := 15) (l2 := [(0, .inr (10, 0)), (1, zi ch), (2, zi me), (3, zi fi), (4, zi 0), (5, zi sp), (6, zi gr)]) (st2 := [zi fi]) rfl ?_
  refine zX.call (mid2 := 136) (as := [zi fi]) (rest := []) ⟨rfl, rfl⟩ (fun _ => rfl) rfl ⟨Nat.le_of_ble_eq_true rfl, Nat.le_of_ble_eq_true rfl⟩ ?_
  refine s_isFilt hfi ?_
  show zX _ 103 18 [(0, .inr (10, 0)), (1, zi ch), (2, zi me), (3, zi fi), (4, zi 0), (5, zi sp), (6, zi gr)] [zi 1] c s _ _
  refine zX.icmp0 (x := 1) (tgt := 31) ⟨rfl, rfl⟩ rfl (by omega) (fun _ => ?_) (fun (zz : (1 : Int) = 0) => absurd zz (by omega))
  refine zX.sn 1 (pc2 := 33) (l2 := [(0, .inr (10, 0)), (1, zi ch), (2, zi me), (3, zi fi), (4, zi 0), (5, zi sp), (6, zi gr)]) (st2 := [zi 0]) rfl ?_
  refine zX.sn 1 (pc2 := 34) (l2 := [(0, .inr (10, 0)), (1, zi ch), (2, zi me), (3, zi fi), (4, zi 0), (5, zi sp), (6, zi gr)]) (st2 := [zi 1, zi 0]) rfl ?_
  refine zX.icmp (tgt := 58) ⟨rfl, rfl⟩ rfl (by omega) (by omega) (fun _ => ?_) (fun (zz : 1 ≤ (0 : Int)) => absurd zz (by omega))
  refine zX.thr (E := "java/lang/IllegalArgumentException") rfl rfl (by omega) (Nat.le_of_ble_eq_true rfl) ?_
  exact q
theorem t_addStep {c s sz sp gr : Nat} {h : xH} {me fi : Int} (hme : me = 99 ∨ me = 115 ∨ me = 109) (hfi : fi = 97 ∨ fi = 101 ∨ fi = 112) (hsz : 1 ≤ sz ∧ sz ≤ 200) (hgr : gr ≤ 200) (hsp : sz < sp ∧ sp ≤ 1000) (q : Q (.inr "java/lang/IllegalArgumentException") (c + 1) (s + 6) h) : zX (d + 8) 103 0 [(0, .inr (10, 0)), (1, zi 108), (2, zi me), (3, zi fi), (4, zi (sz : Int)), (5, zi (sp : Int)), (6, zi (gr : Int))] [] c s h Q := by
  have hch : (108 : Int) = 116 ∨ (108 : Int) = 108 ∨ (108 : Int) = 115 ∨ (108 : Int) = 106 ∨ (108 : Int) = 118 := by omega
  refine zX.sn 1 (pc2 := 1) (l2 := [(0, .inr (10, 0)), (1, zi 108), (2, zi me), (3, zi fi), (4, zi (sz : Int)), (5, zi (sp : Int)), (6, zi (gr : Int))]) (st2 := [zi 108]) rfl ?_
  refine zX.call (mid2 := 134) (as := [zi 108]) (rest := []) ⟨rfl, rfl⟩ (fun _ => rfl) rfl ⟨Nat.le_of_ble_eq_true rfl, Nat.le_of_ble_eq_true rfl⟩ ?_
  refine s_isKind hch ?_
  show zX _ 103 4 [(0, .inr (10, 0)), (1, zi 108), (2, zi me), (3, zi fi), (4, zi (sz : Int)), (5, zi (sp : Int)), (6, zi (gr : Int))] [zi 1] c s _ _
  refine zX.icmp0 (x := 1) (tgt := 21) ⟨rfl, rfl⟩ rfl (by omega) (fun (zz : (1 : Int) = 0) => absurd zz (by omega)) (fun _ => ?_)
  refine zX.sn 1 (pc2 := 8) (l2 := [(0, .inr (10, 0)), (1, zi 108), (2, zi me), (3, zi fi), (4, zi (sz : Int)), (5, zi (sp : Int)), (6, zi (gr : Int))]) (st2 := [zi me]) rfl ?_
  refine zX.call (mid2 := 135) (as := [zi me]) (rest := []) ⟨rfl, rfl⟩ (fun _ => rfl) rfl ⟨Nat.le_of_ble_eq_true rfl, Nat.le_of_ble_eq_true rfl⟩ ?_
  refine s_isMeas hme ?_
  show zX _ 103 11 [(0, .inr (10, 0)), (1, zi 108), (2, zi me), (3, zi fi), (4, zi (sz : Int)), (5, zi (sp : Int)), (6, zi (gr : Int))] [zi 1] c s _ _
  refine zX.icmp0 (x := 1) (tgt := 21) ⟨rfl, rfl⟩ rfl (by omega) (fun (zz : (1 : Int) = 0) => absurd zz (by omega)) (fun _ => ?_)
  refine zX.sn 1 (pc2 := 15) (l2 := [(0, .inr (10, 0)), (1, zi 108), (2, zi me), (3, zi fi), (4, zi (sz : Int)), (5, zi (sp : Int)), (6, zi (gr : Int))]) (st2 := [zi fi]) rfl ?_
  refine zX.call (mid2 := 136) (as := [zi fi]) (rest := []) ⟨rfl, rfl⟩ (fun _ => rfl) rfl ⟨Nat.le_of_ble_eq_true rfl, Nat.le_of_ble_eq_true rfl⟩ ?_
  refine s_isFilt hfi ?_
  show zX _ 103 18 [(0, .inr (10, 0)), (1, zi 108), (2, zi me), (3, zi fi), (4, zi (sz : Int)), (5, zi (sp : Int)), (6, zi (gr : Int))] [zi 1] c s _ _
  refine zX.icmp0 (x := 1) (tgt := 31) ⟨rfl, rfl⟩ rfl (by omega) (fun _ => ?_) (fun (zz : (1 : Int) = 0) => absurd zz (by omega))
  refine zX.sn 1 (pc2 := 33) (l2 := [(0, .inr (10, 0)), (1, zi 108), (2, zi me), (3, zi fi), (4, zi (sz : Int)), (5, zi (sp : Int)), (6, zi (gr : Int))]) (st2 := [zi (sz : Int)]) rfl ?_
  refine zX.sn 1 (pc2 := 34) (l2 := [(0, .inr (10, 0)), (1, zi 108), (2, zi me), (3, zi fi), (4, zi (sz : Int)), (5, zi (sp : Int)), (6, zi (gr : Int))]) (st2 := [zi 1, zi (sz : Int)]) rfl ?_
  refine zX.icmp (tgt := 58) ⟨rfl, rfl⟩ rfl (by omega) (by omega) (fun (zz : (sz : Int) < 1) => absurd zz (by omega)) (fun _ => ?_)
  refine zX.sn 1 (pc2 := 39) (l2 := [(0, .inr (10, 0)), (1, zi 108), (2, zi me), (3, zi fi), (4, zi (sz : Int)), (5, zi (sp : Int)), (6, zi (gr : Int))]) (st2 := [zi (sz : Int)]) rfl ?_
  refine zX.sn 1 (pc2 := 42) (l2 := [(0, .inr (10, 0)), (1, zi 108), (2, zi me), (3, zi fi), (4, zi (sz : Int)), (5, zi (sp : Int)), (6, zi (gr : Int))]) (st2 := [zi 200, zi (sz : Int)]) rfl ?_
  refine zX.icmp (tgt := 58) ⟨rfl, rfl⟩ rfl (by omega) (by omega) (fun (zz : 200 < (sz : Int)) => absurd zz (by omega)) (fun _ => ?_)
  refine zX.sn 1 (pc2 := 47) (l2 := [(0, .inr (10, 0)), (1, zi 108), (2, zi me), (3, zi fi), (4, zi (sz : Int)), (5, zi (sp : Int)), (6, zi (gr : Int))]) (st2 := [zi (gr : Int)]) rfl ?_
  refine zX.icmp0 (tgt := 58) ⟨rfl, rfl⟩ rfl (by omega) (fun (zz : (gr : Int) < 0) => absurd zz (by omega)) (fun _ => ?_)
  refine zX.sn 1 (pc2 := 52) (l2 := [(0, .inr (10, 0)), (1, zi 108), (2, zi me), (3, zi fi), (4, zi (sz : Int)), (5, zi (sp : Int)), (6, zi (gr : Int))]) (st2 := [zi (gr : Int)]) rfl ?_
  refine zX.sn 1 (pc2 := 55) (l2 := [(0, .inr (10, 0)), (1, zi 108), (2, zi me), (3, zi fi), (4, zi (sz : Int)), (5, zi (sp : Int)), (6, zi (gr : Int))]) (st2 := [zi 200, zi (gr : Int)]) rfl ?_
  refine zX.icmp (tgt := 68) ⟨rfl, rfl⟩ rfl (by omega) (by omega) (fun _ => ?_) (fun (zz : 200 < (gr : Int)) => absurd zz (by omega))
  refine zX.sn 1 (pc2 := 69) (l2 := [(0, .inr (10, 0)), (1, zi 108), (2, zi me), (3, zi fi), (4, zi (sz : Int)), (5, zi (sp : Int)), (6, zi (gr : Int))]) (st2 := [zi 108]) rfl ?_
  refine zX.sn 1 (pc2 := 71) (l2 := [(0, .inr (10, 0)), (1, zi 108), (2, zi me), (3, zi fi), (4, zi (sz : Int)), (5, zi (sp : Int)), (6, zi (gr : Int))]) (st2 := [zi 108, zi 108]) rfl ?_
  refine zX.icmp (tgt := 97) ⟨rfl, rfl⟩ rfl (by omega) (by omega) (fun (zz : ¬ (108 : Int) = 108) => absurd zz (by omega)) (fun _ => ?_)
  refine zX.sn 1 (pc2 := 76) (l2 := [(0, .inr (10, 0)), (1, zi 108), (2, zi me), (3, zi fi), (4, zi (sz : Int)), (5, zi (sp : Int)), (6, zi (gr : Int))]) (st2 := [zi (sp : Int)]) rfl ?_
  refine zX.sn 1 (pc2 := 77) (l2 := [(0, .inr (10, 0)), (1, zi 108), (2, zi me), (3, zi fi), (4, zi (sz : Int)), (5, zi (sp : Int)), (6, zi (gr : Int))]) (st2 := [zi 1, zi (sp : Int)]) rfl ?_
  refine zX.icmp (tgt := 87) ⟨rfl, rfl⟩ rfl (by omega) (by omega) (fun (zz : (sp : Int) < 1) => absurd zz (by omega)) (fun _ => ?_)
  refine zX.sn 1 (pc2 := 82) (l2 := [(0, .inr (10, 0)), (1, zi 108), (2, zi me), (3, zi fi), (4, zi (sz : Int)), (5, zi (sp : Int)), (6, zi (gr : Int))]) (st2 := [zi (sp : Int)]) rfl ?_
  refine zX.sn 1 (pc2 := 84) (l2 := [(0, .inr (10, 0)), (1, zi 108), (2, zi me), (3, zi fi), (4, zi (sz : Int)), (5, zi (sp : Int)), (6, zi (gr : Int))]) (st2 := [zi (sz : Int), zi (sp : Int)]) rfl ?_
  refine zX.icmp (tgt := 97) ⟨rfl, rfl⟩ rfl (by omega) (by omega) (fun (zz : (sp : Int) ≤ (sz : Int)) => absurd zz (by omega)) (fun _ => ?_)
  refine zX.thr (E := "java/lang/IllegalArgumentException") rfl rfl (by omega) (Nat.le_of_ble_eq_true rfl) ?_
  exact q
theorem t_addFull {c s sz sp gr pr cu pj cj capv : Nat} {rd ct uw : Bool} {L : zVL} {h : xH} {ch me fi : Int} (hch : ch = 116 ∨ ch = 108 ∨ ch = 115 ∨ ch = 106 ∨ ch = 118) (hme : me = 99 ∨ me = 115 ∨ me = 109) (hfi : fi = 97 ∨ fi = 101 ∨ fi = 112) (hsz : 1 ≤ sz ∧ sz ≤ 200) (hgr : gr ≤ 200) (hsp : 1 ≤ sp ∧ sp ≤ 1000) (hst : ch = 108 → sp ≤ sz) (hl : L.length ≤ 5) (hno : 5 ≤ L.length ∨ rd = true ∨ ct = true) (hf : h (10, 0) = some (.inl (10, zFn (zFf rd ct uw pr cu pj cj)))) (hA : zAL h 13 0 capv (zVn L)) (q : Q (.inr "java/lang/IllegalStateException") (c + 1) (s + 6) h) : zX (d + 8) 103 0 [(0, .inr (10, 0)), (1, zi ch), (2, zi me), (3, zi fi), (4, zi (sz : Int)), (5, zi (sp : Int)), (6, zi (gr : Int))] [] c s h Q := by
  have hnl : (zVn L).length = L.length := zVn_len
  have hrd := zbi_r rd
  have hct := zbi_r ct
  refine zX.sn 1 (pc2 := 1) (l2 := [(0, .inr (10, 0)), (1, zi ch), (2, zi me), (3, zi fi), (4, zi (sz : Int)), (5, zi (sp : Int)), (6, zi (gr : Int))]) (st2 := [zi ch]) rfl ?_
  refine zX.call (mid2 := 134) (as := [zi ch]) (rest := []) ⟨rfl, rfl⟩ (fun _ => rfl) rfl ⟨Nat.le_of_ble_eq_true rfl, Nat.le_of_ble_eq_true rfl⟩ ?_
  refine s_isKind hch ?_
  show zX _ 103 4 [(0, .inr (10, 0)), (1, zi ch), (2, zi me), (3, zi fi), (4, zi (sz : Int)), (5, zi (sp : Int)), (6, zi (gr : Int))] [zi 1] c s _ _
  refine zX.icmp0 (x := 1) (tgt := 21) ⟨rfl, rfl⟩ rfl (by omega) (fun (zz : (1 : Int) = 0) => absurd zz (by omega)) (fun _ => ?_)
  refine zX.sn 1 (pc2 := 8) (l2 := [(0, .inr (10, 0)), (1, zi ch), (2, zi me), (3, zi fi), (4, zi (sz : Int)), (5, zi (sp : Int)), (6, zi (gr : Int))]) (st2 := [zi me]) rfl ?_
  refine zX.call (mid2 := 135) (as := [zi me]) (rest := []) ⟨rfl, rfl⟩ (fun _ => rfl) rfl ⟨Nat.le_of_ble_eq_true rfl, Nat.le_of_ble_eq_true rfl⟩ ?_
  refine s_isMeas hme ?_
  show zX _ 103 11 [(0, .inr (10, 0)), (1, zi ch), (2, zi me), (3, zi fi), (4, zi (sz : Int)), (5, zi (sp : Int)), (6, zi (gr : Int))] [zi 1] c s _ _
  refine zX.icmp0 (x := 1) (tgt := 21) ⟨rfl, rfl⟩ rfl (by omega) (fun (zz : (1 : Int) = 0) => absurd zz (by omega)) (fun _ => ?_)
  refine zX.sn 1 (pc2 := 15) (l2 := [(0, .inr (10, 0)), (1, zi ch), (2, zi me), (3, zi fi), (4, zi (sz : Int)), (5, zi (sp : Int)), (6, zi (gr : Int))]) (st2 := [zi fi]) rfl ?_
  refine zX.call (mid2 := 136) (as := [zi fi]) (rest := []) ⟨rfl, rfl⟩ (fun _ => rfl) rfl ⟨Nat.le_of_ble_eq_true rfl, Nat.le_of_ble_eq_true rfl⟩ ?_
  refine s_isFilt hfi ?_
  show zX _ 103 18 [(0, .inr (10, 0)), (1, zi ch), (2, zi me), (3, zi fi), (4, zi (sz : Int)), (5, zi (sp : Int)), (6, zi (gr : Int))] [zi 1] c s _ _
  refine zX.icmp0 (x := 1) (tgt := 31) ⟨rfl, rfl⟩ rfl (by omega) (fun _ => ?_) (fun (zz : (1 : Int) = 0) => absurd zz (by omega))
  refine zX.sn 1 (pc2 := 33) (l2 := [(0, .inr (10, 0)), (1, zi ch), (2, zi me), (3, zi fi), (4, zi (sz : Int)), (5, zi (sp : Int)), (6, zi (gr : Int))]) (st2 := [zi (sz : Int)]) rfl ?_
  refine zX.sn 1 (pc2 := 34) (l2 := [(0, .inr (10, 0)), (1, zi ch), (2, zi me), (3, zi fi), (4, zi (sz : Int)), (5, zi (sp : Int)), (6, zi (gr : Int))]) (st2 := [zi 1, zi (sz : Int)]) rfl ?_
  refine zX.icmp (tgt := 58) ⟨rfl, rfl⟩ rfl (by omega) (by omega) (fun (zz : (sz : Int) < 1) => absurd zz (by omega)) (fun _ => ?_)
  refine zX.sn 1 (pc2 := 39) (l2 := [(0, .inr (10, 0)), (1, zi ch), (2, zi me), (3, zi fi), (4, zi (sz : Int)), (5, zi (sp : Int)), (6, zi (gr : Int))]) (st2 := [zi (sz : Int)]) rfl ?_
  refine zX.sn 1 (pc2 := 42) (l2 := [(0, .inr (10, 0)), (1, zi ch), (2, zi me), (3, zi fi), (4, zi (sz : Int)), (5, zi (sp : Int)), (6, zi (gr : Int))]) (st2 := [zi 200, zi (sz : Int)]) rfl ?_
  refine zX.icmp (tgt := 58) ⟨rfl, rfl⟩ rfl (by omega) (by omega) (fun (zz : 200 < (sz : Int)) => absurd zz (by omega)) (fun _ => ?_)
  refine zX.sn 1 (pc2 := 47) (l2 := [(0, .inr (10, 0)), (1, zi ch), (2, zi me), (3, zi fi), (4, zi (sz : Int)), (5, zi (sp : Int)), (6, zi (gr : Int))]) (st2 := [zi (gr : Int)]) rfl ?_
  refine zX.icmp0 (tgt := 58) ⟨rfl, rfl⟩ rfl (by omega) (fun (zz : (gr : Int) < 0) => absurd zz (by omega)) (fun _ => ?_)
  refine zX.sn 1 (pc2 := 52) (l2 := [(0, .inr (10, 0)), (1, zi ch), (2, zi me), (3, zi fi), (4, zi (sz : Int)), (5, zi (sp : Int)), (6, zi (gr : Int))]) (st2 := [zi (gr : Int)]) rfl ?_
  refine zX.sn 1 (pc2 := 55) (l2 := [(0, .inr (10, 0)), (1, zi ch), (2, zi me), (3, zi fi), (4, zi (sz : Int)), (5, zi (sp : Int)), (6, zi (gr : Int))]) (st2 := [zi 200, zi (gr : Int)]) rfl ?_
  refine zX.icmp (tgt := 68) ⟨rfl, rfl⟩ rfl (by omega) (by omega) (fun _ => ?_) (fun (zz : 200 < (gr : Int)) => absurd zz (by omega))
  refine zX.sn 1 (pc2 := 69) (l2 := [(0, .inr (10, 0)), (1, zi ch), (2, zi me), (3, zi fi), (4, zi (sz : Int)), (5, zi (sp : Int)), (6, zi (gr : Int))]) (st2 := [zi ch]) rfl ?_
  refine zX.sn 1 (pc2 := 71) (l2 := [(0, .inr (10, 0)), (1, zi ch), (2, zi me), (3, zi fi), (4, zi (sz : Int)), (5, zi (sp : Int)), (6, zi (gr : Int))]) (st2 := [zi 108, zi ch]) rfl ?_
  refine zX.icmp (tgt := 97) ⟨rfl, rfl⟩ rfl (by omega) (by omega) (fun (zl : ¬ ch = 108) => ?_) (fun (zl : ch = 108) => ?_)
  · refine zX.sn 1 (pc2 := 98) (l2 := [(0, .inr (10, 0)), (1, zi ch), (2, zi me), (3, zi fi), (4, zi (sz : Int)), (5, zi (sp : Int)), (6, zi (gr : Int))]) (st2 := [.inr (10, 0)]) rfl ?_
    refine zX.getf ⟨rfl, rfl⟩ hf rfl rfl ?_
    refine zX.call (mid2 := 150) (as := [.inr (13, 0)]) (rest := []) ⟨rfl, rfl⟩ (fun _ => rfl) (zX.invA rfl hA rfl rfl) ⟨Nat.le_of_ble_eq_true rfl, Nat.le_of_ble_eq_true rfl⟩ ?_
    refine s_size hA ?_
    show zX _ 103 104 [(0, .inr (10, 0)), (1, zi ch), (2, zi me), (3, zi fi), (4, zi (sz : Int)), (5, zi (sp : Int)), (6, zi (gr : Int))] [zi ((zVn L).length : Int)] c s _ _
    refine zX.sn 1 (pc2 := 105) (l2 := [(0, .inr (10, 0)), (1, zi ch), (2, zi me), (3, zi fi), (4, zi (sz : Int)), (5, zi (sp : Int)), (6, zi (gr : Int))]) (st2 := [zi 5, zi ((zVn L).length : Int)]) rfl ?_
    refine zX.icmp (tgt := 122) ⟨rfl, rfl⟩ rfl (by omega) (by omega) (fun (z5 : 5 ≤ ((zVn L).length : Int)) => ?_) (fun (z5 : ((zVn L).length : Int) < 5) => ?_)
    · refine zX.thr (E := "java/lang/IllegalStateException") rfl rfl (by omega) (Nat.le_of_ble_eq_true rfl) ?_
      exact q
    · refine zX.sn 1 (pc2 := 109) (l2 := [(0, .inr (10, 0)), (1, zi ch), (2, zi me), (3, zi fi), (4, zi (sz : Int)), (5, zi (sp : Int)), (6, zi (gr : Int))]) (st2 := [.inr (10, 0)]) rfl ?_
      refine zX.getf ⟨rfl, rfl⟩ hf rfl rfl ?_
      refine zX.icmp0 (tgt := 122) ⟨rfl, rfl⟩ rfl (by omega) (fun (z6 : ¬ (zbi rd) = 0) => ?_) (fun (z6 : (zbi rd) = 0) => ?_)
      · refine zX.thr (E := "java/lang/IllegalStateException") rfl rfl (by omega) (Nat.le_of_ble_eq_true rfl) ?_
        exact q
      · refine zX.sn 1 (pc2 := 116) (l2 := [(0, .inr (10, 0)), (1, zi ch), (2, zi me), (3, zi fi), (4, zi (sz : Int)), (5, zi (sp : Int)), (6, zi (gr : Int))]) (st2 := [.inr (10, 0)]) rfl ?_
        refine zX.getf ⟨rfl, rfl⟩ hf rfl rfl ?_
        refine zX.icmp0 (tgt := 132) ⟨rfl, rfl⟩ rfl (by omega) (fun (z7 : (zbi ct) = 0) => ?_) (fun (z7 : ¬ (zbi ct) = 0) => ?_)
        · exfalso
          rcases hno with h1 | h1 | h1
          · omega
          · rw [h1] at z6
            exact absurd z6 (by decide)
          · rw [h1] at z7
            exact absurd z7 (by decide)
        · refine zX.thr (E := "java/lang/IllegalStateException") rfl rfl (by omega) (Nat.le_of_ble_eq_true rfl) ?_
          exact q
  · have hst2 := hst zl
    refine zX.sn 1 (pc2 := 76) (l2 := [(0, .inr (10, 0)), (1, zi ch), (2, zi me), (3, zi fi), (4, zi (sz : Int)), (5, zi (sp : Int)), (6, zi (gr : Int))]) (st2 := [zi (sp : Int)]) rfl ?_
    refine zX.sn 1 (pc2 := 77) (l2 := [(0, .inr (10, 0)), (1, zi ch), (2, zi me), (3, zi fi), (4, zi (sz : Int)), (5, zi (sp : Int)), (6, zi (gr : Int))]) (st2 := [zi 1, zi (sp : Int)]) rfl ?_
    refine zX.icmp (tgt := 87) ⟨rfl, rfl⟩ rfl (by omega) (by omega) (fun (zz : (sp : Int) < 1) => absurd zz (by omega)) (fun _ => ?_)
    refine zX.sn 1 (pc2 := 82) (l2 := [(0, .inr (10, 0)), (1, zi ch), (2, zi me), (3, zi fi), (4, zi (sz : Int)), (5, zi (sp : Int)), (6, zi (gr : Int))]) (st2 := [zi (sp : Int)]) rfl ?_
    refine zX.sn 1 (pc2 := 84) (l2 := [(0, .inr (10, 0)), (1, zi ch), (2, zi me), (3, zi fi), (4, zi (sz : Int)), (5, zi (sp : Int)), (6, zi (gr : Int))]) (st2 := [zi (sz : Int), zi (sp : Int)]) rfl ?_
    refine zX.icmp (tgt := 97) ⟨rfl, rfl⟩ rfl (by omega) (by omega) (fun _ => ?_) (fun (zz : (sz : Int) < (sp : Int)) => absurd zz (by omega))
    refine zX.sn 1 (pc2 := 98) (l2 := [(0, .inr (10, 0)), (1, zi ch), (2, zi me), (3, zi fi), (4, zi (sz : Int)), (5, zi (sp : Int)), (6, zi (gr : Int))]) (st2 := [.inr (10, 0)]) rfl ?_
    refine zX.getf ⟨rfl, rfl⟩ hf rfl rfl ?_
    refine zX.call (mid2 := 150) (as := [.inr (13, 0)]) (rest := []) ⟨rfl, rfl⟩ (fun _ => rfl) (zX.invA rfl hA rfl rfl) ⟨Nat.le_of_ble_eq_true rfl, Nat.le_of_ble_eq_true rfl⟩ ?_
    refine s_size hA ?_
    show zX _ 103 104 [(0, .inr (10, 0)), (1, zi ch), (2, zi me), (3, zi fi), (4, zi (sz : Int)), (5, zi (sp : Int)), (6, zi (gr : Int))] [zi ((zVn L).length : Int)] c s _ _
    refine zX.sn 1 (pc2 := 105) (l2 := [(0, .inr (10, 0)), (1, zi ch), (2, zi me), (3, zi fi), (4, zi (sz : Int)), (5, zi (sp : Int)), (6, zi (gr : Int))]) (st2 := [zi 5, zi ((zVn L).length : Int)]) rfl ?_
    refine zX.icmp (tgt := 122) ⟨rfl, rfl⟩ rfl (by omega) (by omega) (fun (z5 : 5 ≤ ((zVn L).length : Int)) => ?_) (fun (z5 : ((zVn L).length : Int) < 5) => ?_)
    · refine zX.thr (E := "java/lang/IllegalStateException") rfl rfl (by omega) (Nat.le_of_ble_eq_true rfl) ?_
      exact q
    · refine zX.sn 1 (pc2 := 109) (l2 := [(0, .inr (10, 0)), (1, zi ch), (2, zi me), (3, zi fi), (4, zi (sz : Int)), (5, zi (sp : Int)), (6, zi (gr : Int))]) (st2 := [.inr (10, 0)]) rfl ?_
      refine zX.getf ⟨rfl, rfl⟩ hf rfl rfl ?_
      refine zX.icmp0 (tgt := 122) ⟨rfl, rfl⟩ rfl (by omega) (fun (z6 : ¬ (zbi rd) = 0) => ?_) (fun (z6 : (zbi rd) = 0) => ?_)
      · refine zX.thr (E := "java/lang/IllegalStateException") rfl rfl (by omega) (Nat.le_of_ble_eq_true rfl) ?_
        exact q
      · refine zX.sn 1 (pc2 := 116) (l2 := [(0, .inr (10, 0)), (1, zi ch), (2, zi me), (3, zi fi), (4, zi (sz : Int)), (5, zi (sp : Int)), (6, zi (gr : Int))]) (st2 := [.inr (10, 0)]) rfl ?_
        refine zX.getf ⟨rfl, rfl⟩ hf rfl rfl ?_
        refine zX.icmp0 (tgt := 132) ⟨rfl, rfl⟩ rfl (by omega) (fun (z7 : (zbi ct) = 0) => ?_) (fun (z7 : ¬ (zbi ct) = 0) => ?_)
        · exfalso
          rcases hno with h1 | h1 | h1
          · omega
          · rw [h1] at z6
            exact absurd z6 (by decide)
          · rw [h1] at z7
            exact absurd z7 (by decide)
        · refine zX.thr (E := "java/lang/IllegalStateException") rfl rfl (by omega) (Nat.le_of_ble_eq_true rfl) ?_
          exact q
set_option maxHeartbeats 4000000 in
theorem s_addT {c s v sz sp gr pr cu pj cj capv N : Nat} {uw : Bool} {L : zVL} {out : List Int64} {K : zKp} {h : xH} {g : Nat → xV} {me fi : Int} (hme : me = 99 ∨ me = 115 ∨ me = 109) (hfi : fi = 97 ∨ fi = 101 ∨ fi = 112) (hsz : 1 ≤ sz ∧ sz ≤ 200) (hgr : gr ≤ 200)  (hv : L.length = v) (hl : v < 5) (hemp : h (0, 1) = some (.inr (4, 0, g))) (hf : h (10, 0) = some (.inl (10, zFn (zFf false false uw pr cu pj cj)))) (hA : zAL h 13 0 capv (zVn L)) (hV : zVa h N K L out) (hF : ∀ a b : Nat, 20 ≤ a → a < 60 → b % 8 = v → h (a, b) = none)
    (q : ∀ h1 cap1 c1 s1, zVa h1 N K (L ++ [((9, fi, sz, gr, me, sz), zS0)]) out → zAL h1 13 0 cap1 (zVn (L ++ [((9, fi, sz, gr, me, sz), zS0)])) → (∀ a b : Nat, ¬ (20 ≤ a ∧ a < 60 ∧ b % 8 = v ∨ 13 ≤ a ∧ a < 15) → h1 (a, b) = h (a, b)) → capv ≤ cap1 ∧ c1 + capv ≤ c + cap1 + 30 ∧ s1 + 4 * capv ≤ s + 4 * cap1 + 80000 → Q (.inl (some (zi (v : Int)))) c1 s1 h1) : zX (d + 9) 103 0 [(0, .inr (10, 0)), (1, zi 116), (2, zi me), (3, zi fi), (4, zi (sz : Int)), (5, zi (sp : Int)), (6, zi (gr : Int))] [] c s h Q := by
  have hch : (116 : Int) = 116 ∨ (116 : Int) = 108 ∨ (116 : Int) = 115 ∨ (116 : Int) = 106 ∨ (116 : Int) = 118 := by omega
  have hnl : (zVn L).length = L.length := zVn_len
  refine zX.sn 1 (pc2 := 1) (l2 := [(0, .inr (10, 0)), (1, zi 116), (2, zi me), (3, zi fi), (4, zi (sz : Int)), (5, zi (sp : Int)), (6, zi (gr : Int))]) (st2 := [zi 116]) rfl ?_
  refine zX.call (mid2 := 134) (as := [zi 116]) (rest := []) ⟨rfl, rfl⟩ (fun _ => rfl) rfl ⟨Nat.le_of_ble_eq_true rfl, Nat.le_of_ble_eq_true rfl⟩ ?_
  refine s_isKind hch ?_
  show zX _ 103 4 [(0, .inr (10, 0)), (1, zi 116), (2, zi me), (3, zi fi), (4, zi (sz : Int)), (5, zi (sp : Int)), (6, zi (gr : Int))] [zi 1] c s _ _
  refine zX.icmp0 (x := 1) (tgt := 21) ⟨rfl, rfl⟩ rfl (by omega) (fun (zz : (1 : Int) = 0) => absurd zz (by omega)) (fun _ => ?_)
  refine zX.sn 1 (pc2 := 8) (l2 := [(0, .inr (10, 0)), (1, zi 116), (2, zi me), (3, zi fi), (4, zi (sz : Int)), (5, zi (sp : Int)), (6, zi (gr : Int))]) (st2 := [zi me]) rfl ?_
  refine zX.call (mid2 := 135) (as := [zi me]) (rest := []) ⟨rfl, rfl⟩ (fun _ => rfl) rfl ⟨Nat.le_of_ble_eq_true rfl, Nat.le_of_ble_eq_true rfl⟩ ?_
  refine s_isMeas hme ?_
  show zX _ 103 11 [(0, .inr (10, 0)), (1, zi 116), (2, zi me), (3, zi fi), (4, zi (sz : Int)), (5, zi (sp : Int)), (6, zi (gr : Int))] [zi 1] c s _ _
  refine zX.icmp0 (x := 1) (tgt := 21) ⟨rfl, rfl⟩ rfl (by omega) (fun (zz : (1 : Int) = 0) => absurd zz (by omega)) (fun _ => ?_)
  refine zX.sn 1 (pc2 := 15) (l2 := [(0, .inr (10, 0)), (1, zi 116), (2, zi me), (3, zi fi), (4, zi (sz : Int)), (5, zi (sp : Int)), (6, zi (gr : Int))]) (st2 := [zi fi]) rfl ?_
  refine zX.call (mid2 := 136) (as := [zi fi]) (rest := []) ⟨rfl, rfl⟩ (fun _ => rfl) rfl ⟨Nat.le_of_ble_eq_true rfl, Nat.le_of_ble_eq_true rfl⟩ ?_
  refine s_isFilt hfi ?_
  show zX _ 103 18 [(0, .inr (10, 0)), (1, zi 116), (2, zi me), (3, zi fi), (4, zi (sz : Int)), (5, zi (sp : Int)), (6, zi (gr : Int))] [zi 1] c s _ _
  refine zX.icmp0 (x := 1) (tgt := 31) ⟨rfl, rfl⟩ rfl (by omega) (fun _ => ?_) (fun (zz : (1 : Int) = 0) => absurd zz (by omega))
  refine zX.sn 1 (pc2 := 33) (l2 := [(0, .inr (10, 0)), (1, zi 116), (2, zi me), (3, zi fi), (4, zi (sz : Int)), (5, zi (sp : Int)), (6, zi (gr : Int))]) (st2 := [zi (sz : Int)]) rfl ?_
  refine zX.sn 1 (pc2 := 34) (l2 := [(0, .inr (10, 0)), (1, zi 116), (2, zi me), (3, zi fi), (4, zi (sz : Int)), (5, zi (sp : Int)), (6, zi (gr : Int))]) (st2 := [zi 1, zi (sz : Int)]) rfl ?_
  refine zX.icmp (tgt := 58) ⟨rfl, rfl⟩ rfl (by omega) (by omega) (fun (zz : (sz : Int) < 1) => absurd zz (by omega)) (fun _ => ?_)
  refine zX.sn 1 (pc2 := 39) (l2 := [(0, .inr (10, 0)), (1, zi 116), (2, zi me), (3, zi fi), (4, zi (sz : Int)), (5, zi (sp : Int)), (6, zi (gr : Int))]) (st2 := [zi (sz : Int)]) rfl ?_
  refine zX.sn 1 (pc2 := 42) (l2 := [(0, .inr (10, 0)), (1, zi 116), (2, zi me), (3, zi fi), (4, zi (sz : Int)), (5, zi (sp : Int)), (6, zi (gr : Int))]) (st2 := [zi 200, zi (sz : Int)]) rfl ?_
  refine zX.icmp (tgt := 58) ⟨rfl, rfl⟩ rfl (by omega) (by omega) (fun (zz : 200 < (sz : Int)) => absurd zz (by omega)) (fun _ => ?_)
  refine zX.sn 1 (pc2 := 47) (l2 := [(0, .inr (10, 0)), (1, zi 116), (2, zi me), (3, zi fi), (4, zi (sz : Int)), (5, zi (sp : Int)), (6, zi (gr : Int))]) (st2 := [zi (gr : Int)]) rfl ?_
  refine zX.icmp0 (tgt := 58) ⟨rfl, rfl⟩ rfl (by omega) (fun (zz : (gr : Int) < 0) => absurd zz (by omega)) (fun _ => ?_)
  refine zX.sn 1 (pc2 := 52) (l2 := [(0, .inr (10, 0)), (1, zi 116), (2, zi me), (3, zi fi), (4, zi (sz : Int)), (5, zi (sp : Int)), (6, zi (gr : Int))]) (st2 := [zi (gr : Int)]) rfl ?_
  refine zX.sn 1 (pc2 := 55) (l2 := [(0, .inr (10, 0)), (1, zi 116), (2, zi me), (3, zi fi), (4, zi (sz : Int)), (5, zi (sp : Int)), (6, zi (gr : Int))]) (st2 := [zi 200, zi (gr : Int)]) rfl ?_
  refine zX.icmp (tgt := 68) ⟨rfl, rfl⟩ rfl (by omega) (by omega) (fun _ => ?_) (fun (zz : 200 < (gr : Int)) => absurd zz (by omega))
  refine zX.sn 1 (pc2 := 69) (l2 := [(0, .inr (10, 0)), (1, zi 116), (2, zi me), (3, zi fi), (4, zi (sz : Int)), (5, zi (sp : Int)), (6, zi (gr : Int))]) (st2 := [zi 116]) rfl ?_
  refine zX.sn 1 (pc2 := 71) (l2 := [(0, .inr (10, 0)), (1, zi 116), (2, zi me), (3, zi fi), (4, zi (sz : Int)), (5, zi (sp : Int)), (6, zi (gr : Int))]) (st2 := [zi 108, zi 116]) rfl ?_
  refine zX.icmp (tgt := 97) ⟨rfl, rfl⟩ rfl (by omega) (by omega) (fun _ => ?_) (fun (zz : (116 : Int) = 108) => absurd zz (by omega))
  refine zX.sn 1 (pc2 := 98) (l2 := [(0, .inr (10, 0)), (1, zi 116), (2, zi me), (3, zi fi), (4, zi (sz : Int)), (5, zi (sp : Int)), (6, zi (gr : Int))]) (st2 := [.inr (10, 0)]) rfl ?_
  refine zX.getf ⟨rfl, rfl⟩ hf rfl rfl ?_
  refine zX.call (mid2 := 150) (as := [.inr (13, 0)]) (rest := []) ⟨rfl, rfl⟩ (fun _ => rfl) (zX.invA rfl hA rfl rfl) ⟨Nat.le_of_ble_eq_true rfl, Nat.le_of_ble_eq_true rfl⟩ ?_
  refine s_size hA ?_
  show zX _ 103 104 [(0, .inr (10, 0)), (1, zi 116), (2, zi me), (3, zi fi), (4, zi (sz : Int)), (5, zi (sp : Int)), (6, zi (gr : Int))] [zi ((zVn L).length : Int)] c s _ _
  refine zX.sn 1 (pc2 := 105) (l2 := [(0, .inr (10, 0)), (1, zi 116), (2, zi me), (3, zi fi), (4, zi (sz : Int)), (5, zi (sp : Int)), (6, zi (gr : Int))]) (st2 := [zi 5, zi ((zVn L).length : Int)]) rfl ?_
  refine zX.icmp (tgt := 122) ⟨rfl, rfl⟩ rfl (by omega) (by omega) (fun (zz : 5 ≤ ((zVn L).length : Int)) => absurd zz (by omega)) (fun _ => ?_)
  refine zX.sn 1 (pc2 := 109) (l2 := [(0, .inr (10, 0)), (1, zi 116), (2, zi me), (3, zi fi), (4, zi (sz : Int)), (5, zi (sp : Int)), (6, zi (gr : Int))]) (st2 := [.inr (10, 0)]) rfl ?_
  refine zX.getf ⟨rfl, rfl⟩ hf rfl rfl ?_
  show zX _ 103 112 [(0, .inr (10, 0)), (1, zi 116), (2, zi me), (3, zi fi), (4, zi (sz : Int)), (5, zi (sp : Int)), (6, zi (gr : Int))] [zi 0] c s _ _
  refine zX.icmp0 (x := 0) (tgt := 122) ⟨rfl, rfl⟩ rfl (by omega) (fun (zz : ¬ (0 : Int) = 0) => absurd zz (by omega)) (fun _ => ?_)
  refine zX.sn 1 (pc2 := 116) (l2 := [(0, .inr (10, 0)), (1, zi 116), (2, zi me), (3, zi fi), (4, zi (sz : Int)), (5, zi (sp : Int)), (6, zi (gr : Int))]) (st2 := [.inr (10, 0)]) rfl ?_
  refine zX.getf ⟨rfl, rfl⟩ hf rfl rfl ?_
  show zX _ 103 119 [(0, .inr (10, 0)), (1, zi 116), (2, zi me), (3, zi fi), (4, zi (sz : Int)), (5, zi (sp : Int)), (6, zi (gr : Int))] [zi 0] c s _ _
  refine zX.icmp0 (x := 0) (tgt := 132) ⟨rfl, rfl⟩ rfl (by omega) (fun _ => ?_) (fun (zz : ¬ (0 : Int) = 0) => absurd zz (by omega))
  refine zX.sn 1 (pc2 := 133) (l2 := [(0, .inr (10, 0)), (1, zi 116), (2, zi me), (3, zi fi), (4, zi (sz : Int)), (5, zi (sp : Int)), (6, zi (gr : Int))]) (st2 := [.inr (10, 0)]) rfl ?_
  refine zX.getf ⟨rfl, rfl⟩ hf rfl rfl ?_
  refine zX.call (mid2 := 150) (as := [.inr (13, 0)]) (rest := []) ⟨rfl, rfl⟩ (fun _ => rfl) (zX.invA rfl hA rfl rfl) ⟨Nat.le_of_ble_eq_true rfl, Nat.le_of_ble_eq_true rfl⟩ ?_
  refine s_size hA ?_
  show zX _ 103 139 [(0, .inr (10, 0)), (1, zi 116), (2, zi me), (3, zi fi), (4, zi (sz : Int)), (5, zi (sp : Int)), (6, zi (gr : Int))] [zi ((zVn L).length : Int)] c s _ _
  rw [hnl, hv]
  refine zX.sn 1 (pc2 := 141) (l2 := [(7, zi (v : Int)), (0, .inr (10, 0)), (1, zi 116), (2, zi me), (3, zi fi), (4, zi (sz : Int)), (5, zi (sp : Int)), (6, zi (gr : Int))]) (st2 := []) rfl ?_
  refine zX.sn 1 (pc2 := 142) (l2 := [(7, zi (v : Int)), (0, .inr (10, 0)), (1, zi 116), (2, zi me), (3, zi fi), (4, zi (sz : Int)), (5, zi (sp : Int)), (6, zi (gr : Int))]) (st2 := [zi 116]) rfl ?_
  refine zX.sn 1 (pc2 := 144) (l2 := [(7, zi (v : Int)), (0, .inr (10, 0)), (1, zi 116), (2, zi me), (3, zi fi), (4, zi (sz : Int)), (5, zi (sp : Int)), (6, zi (gr : Int))]) (st2 := [zi 116, zi 116]) rfl ?_
  refine zX.icmp (tgt := 179) ⟨rfl, rfl⟩ rfl (by omega) (by omega) (fun (zz : ¬ (116 : Int) = 116) => absurd zz (by omega)) (fun _ => ?_)
  refine zX.sn 1 (pc2 := 148) (l2 := [(7, zi (v : Int)), (0, .inr (10, 0)), (1, zi 116), (2, zi me), (3, zi fi), (4, zi (sz : Int)), (5, zi (sp : Int)), (6, zi (gr : Int))]) (st2 := [.inr (10, 0)]) rfl ?_
  refine zX.getf ⟨rfl, rfl⟩ hf rfl rfl ?_
  refine zX.new (20, v) ⟨rfl, rfl⟩ (hF 20 v (by omega) (by omega) (by omega)) (by omega) ?_
  show zX _ 103 154 [(7, zi (v : Int)), (0, .inr (10, 0)), (1, zi 116), (2, zi me), (3, zi fi), (4, zi (sz : Int)), (5, zi (sp : Int)), (6, zi (gr : Int))] [.inr (20, v), .inr (13, 0)] (c + 1) (s + 15) (xup h (20, v) (.inl (9, [zi 0, zi 0, zi 0, zi 0, zi 0, .inl .null, .inl .null, .inl .null, .inl .null, zi 0, zi 0, zi 0, zi 0, .inl .null, .inl .null]))) _
  generalize hh1 : xup h (20, v) (.inl (9, [zi 0, zi 0, zi 0, zi 0, zi 0, .inl .null, .inl .null, .inl .null, .inl .null, zi 0, zi 0, zi 0, zi 0, .inl .null, .inl .null])) = h1
  have hs1 : h1 (20, v) = some (.inl (9, [zi 0, zi 0, zi 0, zi 0, zi 0, .inl .null, .inl .null, .inl .null, .inl .null, zi 0, zi 0, zi 0, zi 0, .inl .null, .inl .null])) := by
    rw [← hh1]
    exact zup_s
  have hn1 : ∀ a b : Nat, ¬ (a = 20 ∧ b = v) → h1 (a, b) = h (a, b) := fun a b hn => by
    rw [← hh1]
    exact zup_n (zn (by omega)) rfl
  have hv5 : v < 5 := by omega
  have hOut1 : zOut h1 N out := hV.1.fr (fun a b z => hn1 a b (by omega))
  have hemp1 := (hn1 0 1 (by omega)).trans hemp
  have hf1 := (hn1 10 0 (by omega)).trans hf
  have hF1 : ∀ a b : Nat, 20 ≤ a → a < 60 → (a ≠ 20 ∨ b ≠ v) → (b % 8 = v → h1 (a, b) = none) := fun a b z1 z2 z3 z4 => (hn1 a b (by omega)).trans (hF a b z1 z2 z4)
  refine zX.sn 1 (pc2 := 155) (l2 := [(7, zi (v : Int)), (0, .inr (10, 0)), (1, zi 116), (2, zi me), (3, zi fi), (4, zi (sz : Int)), (5, zi (sp : Int)), (6, zi (gr : Int))]) (st2 := [.inr (20, v), .inr (20, v), .inr (13, 0)]) rfl ?_
  refine zX.sn 1 (pc2 := 157) (l2 := [(7, zi (v : Int)), (0, .inr (10, 0)), (1, zi 116), (2, zi me), (3, zi fi), (4, zi (sz : Int)), (5, zi (sp : Int)), (6, zi (gr : Int))]) (st2 := [zi (v : Int), .inr (20, v), .inr (20, v), .inr (13, 0)]) rfl ?_
  refine zX.sn 1 (pc2 := 158) (l2 := [(7, zi (v : Int)), (0, .inr (10, 0)), (1, zi 116), (2, zi me), (3, zi fi), (4, zi (sz : Int)), (5, zi (sp : Int)), (6, zi (gr : Int))]) (st2 := [zi me, zi (v : Int), .inr (20, v), .inr (20, v), .inr (13, 0)]) rfl ?_
  refine zX.sn 1 (pc2 := 159) (l2 := [(7, zi (v : Int)), (0, .inr (10, 0)), (1, zi 116), (2, zi me), (3, zi fi), (4, zi (sz : Int)), (5, zi (sp : Int)), (6, zi (gr : Int))]) (st2 := [zi fi, zi me, zi (v : Int), .inr (20, v), .inr (20, v), .inr (13, 0)]) rfl ?_
  refine zX.sn 1 (pc2 := 161) (l2 := [(7, zi (v : Int)), (0, .inr (10, 0)), (1, zi 116), (2, zi me), (3, zi fi), (4, zi (sz : Int)), (5, zi (sp : Int)), (6, zi (gr : Int))]) (st2 := [zi (sz : Int), zi fi, zi me, zi (v : Int), .inr (20, v), .inr (20, v), .inr (13, 0)]) rfl ?_
  refine zX.sn 1 (pc2 := 163) (l2 := [(7, zi (v : Int)), (0, .inr (10, 0)), (1, zi 116), (2, zi me), (3, zi fi), (4, zi (sz : Int)), (5, zi (sp : Int)), (6, zi (gr : Int))]) (st2 := [zi (sz : Int), zi (sz : Int), zi fi, zi me, zi (v : Int), .inr (20, v), .inr (20, v), .inr (13, 0)]) rfl ?_
  refine zX.sn 1 (pc2 := 165) (l2 := [(7, zi (v : Int)), (0, .inr (10, 0)), (1, zi 116), (2, zi me), (3, zi fi), (4, zi (sz : Int)), (5, zi (sp : Int)), (6, zi (gr : Int))]) (st2 := [zi (gr : Int), zi (sz : Int), zi (sz : Int), zi fi, zi me, zi (v : Int), .inr (20, v), .inr (20, v), .inr (13, 0)]) rfl ?_
  refine zX.sn 1 (pc2 := 166) (l2 := [(7, zi (v : Int)), (0, .inr (10, 0)), (1, zi 116), (2, zi me), (3, zi fi), (4, zi (sz : Int)), (5, zi (sp : Int)), (6, zi (gr : Int))]) (st2 := [.inr (10, 0), zi (gr : Int), zi (sz : Int), zi (sz : Int), zi fi, zi me, zi (v : Int), .inr (20, v), .inr (20, v), .inr (13, 0)]) rfl ?_
  refine zX.getf ⟨rfl, rfl⟩ hf1 rfl rfl ?_
  refine zX.call (mid2 := 85) (as := [.inr (20, v), zi (v : Int), zi me, zi fi, zi (sz : Int), zi (sz : Int), zi (gr : Int), .inr (2, 0)]) (rest := [.inr (20, v), .inr (13, 0)]) ⟨rfl, rfl⟩ (fun _ => rfl) rfl ⟨Nat.le_of_ble_eq_true rfl, Nat.le_of_ble_eq_true rfl⟩ ?_
  refine s_winInit (d := d + 6) (me := me) (sp := sz) (sz := sz) hv5 hfi hsz hgr hme ⟨hsz.1, Nat.le_refl _⟩ hOut1 hs1 hF1 (fun h2 a1 a2 => ?_)
  show zX _ 103 172 [(7, zi (v : Int)), (0, .inr (10, 0)), (1, zi 116), (2, zi me), (3, zi fi), (4, zi (sz : Int)), (5, zi (sp : Int)), (6, zi (gr : Int))] [.inr (20, v), .inr (13, 0)] _ _ _ _
  have hn2 : ∀ a b : Nat, ¬ (20 ≤ a ∧ a < 60 ∧ b % 8 = v) → h2 (a, b) = h (a, b) := fun a b hn => (a2 a b hn).trans (hn1 a b (by omega))
  have hA2 : zAL h2 13 0 capv (zVn L) := hA.fr (fun a b z => hn2 a b (by omega))
  have hE2 : zEl h2 13 (zVn L) := fun x hx => by
    obtain ⟨i, hi, rfl⟩ := List.mem_map.mp hx
    have hi := List.mem_range.mp hi
    obtain ⟨fs2, hob, hci⟩ := (hV.2.2 i L[i].1 L[i].2 (List.getElem?_eq_getElem hi)).ob
    exact ⟨by dsimp only; omega, L[i].1.1, fs2, (hn2 20 i (by omega)).trans hob, by rcases hci with z | z | z | z <;> (rw [z]; rfl)⟩
  obtain ⟨fs3, hob3, -⟩ := a1.ob
  refine zX.call (mid2 := 155) (as := [.inr (13, 0), .inr (20, v)]) (rest := []) ⟨rfl, rfl⟩ (fun _ => rfl) (zX.invA rfl hA2 rfl rfl) ⟨Nat.le_of_ble_eq_true rfl, Nat.le_of_ble_eq_true rfl⟩ ?_
  refine s_add (d := d + 2) (x := (20, v)) (by omega) (by omega) hA2 (by omega) hE2 (by dsimp only; omega) hob3 rfl (fun h3 cap3 c3 s3 d1 d2 d3 => ?_)
  show zX _ 103 175 [(7, zi (v : Int)), (0, .inr (10, 0)), (1, zi 116), (2, zi me), (3, zi fi), (4, zi (sz : Int)), (5, zi (sp : Int)), (6, zi (gr : Int))] [zi 1] c3 s3 _ _
  refine zX.sn 1 (pc2 := 176) (l2 := [(7, zi (v : Int)), (0, .inr (10, 0)), (1, zi 116), (2, zi me), (3, zi fi), (4, zi (sz : Int)), (5, zi (sp : Int)), (6, zi (gr : Int))]) (st2 := []) rfl ?_
  refine zX.sn 1 (pc2 := 314) (l2 := [(7, zi (v : Int)), (0, .inr (10, 0)), (1, zi 116), (2, zi me), (3, zi fi), (4, zi (sz : Int)), (5, zi (sp : Int)), (6, zi (gr : Int))]) (st2 := []) rfl ?_
  refine zX.sn 1 (pc2 := 316) (l2 := [(7, zi (v : Int)), (0, .inr (10, 0)), (1, zi 116), (2, zi me), (3, zi fi), (4, zi (sz : Int)), (5, zi (sp : Int)), (6, zi (gr : Int))]) (st2 := [zi (v : Int)]) rfl ?_
  refine zX.ret rfl rfl ?_
  have hw1 := zwi_le hsz.1
  refine q h3 cap3 c3 s3 ?_ (by rw [zVn_add, hv]; exact d1) (fun a b hn => (d2 a b (by omega)).trans (hn2 a b (by omega))) ⟨d3.1, by have := d3.2.1; omega, by have := d3.2.2; omega⟩
  refine ⟨hV.1.fr (fun a b z => (d2 a b (by omega)).trans (hn2 a b (by omega))), ⟨by rw [List.length_append]; show _ + 1 ≤ 5; omega, fun j hj => hV.2.1.2 j (by rw [List.length_append] at hj; omega)⟩, fun i C S hi => ?_⟩
  have hO3 : zOut h3 N out := hV.1.fr (fun a b z => (d2 a b (by omega)).trans (hn2 a b (by omega)))
  by_cases hiv : i < L.length
  · rw [List.getElem?_append_left hiv] at hi
    exact (hV.2.2 i C S hi).mv (by omega) hO3 (fun a b z => (d2 a b (by omega)).trans (hn2 a b (by omega)))
  · rw [List.getElem?_append_right (by omega)] at hi
    have hi0 : i - L.length = 0 := by
      have := (List.getElem?_eq_some_iff.mp hi).1
      simp only [List.length_singleton] at this
      omega
    rw [hi0] at hi
    cases hi
    obtain rfl : i = v := by omega
    rw [hV.2.1.2 i (by omega)]
    exact a1.mv (by omega) hO3 (fun a b z => d2 a b (by omega))
set_option maxHeartbeats 4000000 in
theorem s_addL {c s v sz sp gr pr cu pj cj capv N : Nat} {uw : Bool} {L : zVL} {out : List Int64} {K : zKp} {h : xH} {g : Nat → xV} {me fi : Int} (hme : me = 99 ∨ me = 115 ∨ me = 109) (hfi : fi = 97 ∨ fi = 101 ∨ fi = 112) (hsz : 1 ≤ sz ∧ sz ≤ 200) (hgr : gr ≤ 200) (hsp : 1 ≤ sp ∧ sp ≤ sz) (hv : L.length = v) (hl : v < 5) (hemp : h (0, 1) = some (.inr (4, 0, g))) (hf : h (10, 0) = some (.inl (10, zFn (zFf false false uw pr cu pj cj)))) (hA : zAL h 13 0 capv (zVn L)) (hV : zVa h N K L out) (hF : ∀ a b : Nat, 20 ≤ a → a < 60 → b % 8 = v → h (a, b) = none)
    (q : ∀ h1 cap1 c1 s1, zVa h1 N K (L ++ [((9, fi, sz, gr, me, sp), zS0)]) out → zAL h1 13 0 cap1 (zVn (L ++ [((9, fi, sz, gr, me, sp), zS0)])) → (∀ a b : Nat, ¬ (20 ≤ a ∧ a < 60 ∧ b % 8 = v ∨ 13 ≤ a ∧ a < 15) → h1 (a, b) = h (a, b)) → capv ≤ cap1 ∧ c1 + capv ≤ c + cap1 + 30 ∧ s1 + 4 * capv ≤ s + 4 * cap1 + 80000 → Q (.inl (some (zi (v : Int)))) c1 s1 h1) : zX (d + 9) 103 0 [(0, .inr (10, 0)), (1, zi 108), (2, zi me), (3, zi fi), (4, zi (sz : Int)), (5, zi (sp : Int)), (6, zi (gr : Int))] [] c s h Q := by
  have hch : (108 : Int) = 116 ∨ (108 : Int) = 108 ∨ (108 : Int) = 115 ∨ (108 : Int) = 106 ∨ (108 : Int) = 118 := by omega
  have hnl : (zVn L).length = L.length := zVn_len
  refine zX.sn 1 (pc2 := 1) (l2 := [(0, .inr (10, 0)), (1, zi 108), (2, zi me), (3, zi fi), (4, zi (sz : Int)), (5, zi (sp : Int)), (6, zi (gr : Int))]) (st2 := [zi 108]) rfl ?_
  refine zX.call (mid2 := 134) (as := [zi 108]) (rest := []) ⟨rfl, rfl⟩ (fun _ => rfl) rfl ⟨Nat.le_of_ble_eq_true rfl, Nat.le_of_ble_eq_true rfl⟩ ?_
  refine s_isKind hch ?_
  show zX _ 103 4 [(0, .inr (10, 0)), (1, zi 108), (2, zi me), (3, zi fi), (4, zi (sz : Int)), (5, zi (sp : Int)), (6, zi (gr : Int))] [zi 1] c s _ _
  refine zX.icmp0 (x := 1) (tgt := 21) ⟨rfl, rfl⟩ rfl (by omega) (fun (zz : (1 : Int) = 0) => absurd zz (by omega)) (fun _ => ?_)
  refine zX.sn 1 (pc2 := 8) (l2 := [(0, .inr (10, 0)), (1, zi 108), (2, zi me), (3, zi fi), (4, zi (sz : Int)), (5, zi (sp : Int)), (6, zi (gr : Int))]) (st2 := [zi me]) rfl ?_
  refine zX.call (mid2 := 135) (as := [zi me]) (rest := []) ⟨rfl, rfl⟩ (fun _ => rfl) rfl ⟨Nat.le_of_ble_eq_true rfl, Nat.le_of_ble_eq_true rfl⟩ ?_
  refine s_isMeas hme ?_
  show zX _ 103 11 [(0, .inr (10, 0)), (1, zi 108), (2, zi me), (3, zi fi), (4, zi (sz : Int)), (5, zi (sp : Int)), (6, zi (gr : Int))] [zi 1] c s _ _
  refine zX.icmp0 (x := 1) (tgt := 21) ⟨rfl, rfl⟩ rfl (by omega) (fun (zz : (1 : Int) = 0) => absurd zz (by omega)) (fun _ => ?_)
  refine zX.sn 1 (pc2 := 15) (l2 := [(0, .inr (10, 0)), (1, zi 108), (2, zi me), (3, zi fi), (4, zi (sz : Int)), (5, zi (sp : Int)), (6, zi (gr : Int))]) (st2 := [zi fi]) rfl ?_
  refine zX.call (mid2 := 136) (as := [zi fi]) (rest := []) ⟨rfl, rfl⟩ (fun _ => rfl) rfl ⟨Nat.le_of_ble_eq_true rfl, Nat.le_of_ble_eq_true rfl⟩ ?_
  refine s_isFilt hfi ?_
  show zX _ 103 18 [(0, .inr (10, 0)), (1, zi 108), (2, zi me), (3, zi fi), (4, zi (sz : Int)), (5, zi (sp : Int)), (6, zi (gr : Int))] [zi 1] c s _ _
  refine zX.icmp0 (x := 1) (tgt := 31) ⟨rfl, rfl⟩ rfl (by omega) (fun _ => ?_) (fun (zz : (1 : Int) = 0) => absurd zz (by omega))
  refine zX.sn 1 (pc2 := 33) (l2 := [(0, .inr (10, 0)), (1, zi 108), (2, zi me), (3, zi fi), (4, zi (sz : Int)), (5, zi (sp : Int)), (6, zi (gr : Int))]) (st2 := [zi (sz : Int)]) rfl ?_
  refine zX.sn 1 (pc2 := 34) (l2 := [(0, .inr (10, 0)), (1, zi 108), (2, zi me), (3, zi fi), (4, zi (sz : Int)), (5, zi (sp : Int)), (6, zi (gr : Int))]) (st2 := [zi 1, zi (sz : Int)]) rfl ?_
  refine zX.icmp (tgt := 58) ⟨rfl, rfl⟩ rfl (by omega) (by omega) (fun (zz : (sz : Int) < 1) => absurd zz (by omega)) (fun _ => ?_)
  refine zX.sn 1 (pc2 := 39) (l2 := [(0, .inr (10, 0)), (1, zi 108), (2, zi me), (3, zi fi), (4, zi (sz : Int)), (5, zi (sp : Int)), (6, zi (gr : Int))]) (st2 := [zi (sz : Int)]) rfl ?_
  refine zX.sn 1 (pc2 := 42) (l2 := [(0, .inr (10, 0)), (1, zi 108), (2, zi me), (3, zi fi), (4, zi (sz : Int)), (5, zi (sp : Int)), (6, zi (gr : Int))]) (st2 := [zi 200, zi (sz : Int)]) rfl ?_
  refine zX.icmp (tgt := 58) ⟨rfl, rfl⟩ rfl (by omega) (by omega) (fun (zz : 200 < (sz : Int)) => absurd zz (by omega)) (fun _ => ?_)
  refine zX.sn 1 (pc2 := 47) (l2 := [(0, .inr (10, 0)), (1, zi 108), (2, zi me), (3, zi fi), (4, zi (sz : Int)), (5, zi (sp : Int)), (6, zi (gr : Int))]) (st2 := [zi (gr : Int)]) rfl ?_
  refine zX.icmp0 (tgt := 58) ⟨rfl, rfl⟩ rfl (by omega) (fun (zz : (gr : Int) < 0) => absurd zz (by omega)) (fun _ => ?_)
  refine zX.sn 1 (pc2 := 52) (l2 := [(0, .inr (10, 0)), (1, zi 108), (2, zi me), (3, zi fi), (4, zi (sz : Int)), (5, zi (sp : Int)), (6, zi (gr : Int))]) (st2 := [zi (gr : Int)]) rfl ?_
  refine zX.sn 1 (pc2 := 55) (l2 := [(0, .inr (10, 0)), (1, zi 108), (2, zi me), (3, zi fi), (4, zi (sz : Int)), (5, zi (sp : Int)), (6, zi (gr : Int))]) (st2 := [zi 200, zi (gr : Int)]) rfl ?_
  refine zX.icmp (tgt := 68) ⟨rfl, rfl⟩ rfl (by omega) (by omega) (fun _ => ?_) (fun (zz : 200 < (gr : Int)) => absurd zz (by omega))
  refine zX.sn 1 (pc2 := 69) (l2 := [(0, .inr (10, 0)), (1, zi 108), (2, zi me), (3, zi fi), (4, zi (sz : Int)), (5, zi (sp : Int)), (6, zi (gr : Int))]) (st2 := [zi 108]) rfl ?_
  refine zX.sn 1 (pc2 := 71) (l2 := [(0, .inr (10, 0)), (1, zi 108), (2, zi me), (3, zi fi), (4, zi (sz : Int)), (5, zi (sp : Int)), (6, zi (gr : Int))]) (st2 := [zi 108, zi 108]) rfl ?_
  refine zX.icmp (tgt := 97) ⟨rfl, rfl⟩ rfl (by omega) (by omega) (fun (zz : ¬ (108 : Int) = 108) => absurd zz (by omega)) (fun _ => ?_)
  refine zX.sn 1 (pc2 := 76) (l2 := [(0, .inr (10, 0)), (1, zi 108), (2, zi me), (3, zi fi), (4, zi (sz : Int)), (5, zi (sp : Int)), (6, zi (gr : Int))]) (st2 := [zi (sp : Int)]) rfl ?_
  refine zX.sn 1 (pc2 := 77) (l2 := [(0, .inr (10, 0)), (1, zi 108), (2, zi me), (3, zi fi), (4, zi (sz : Int)), (5, zi (sp : Int)), (6, zi (gr : Int))]) (st2 := [zi 1, zi (sp : Int)]) rfl ?_
  refine zX.icmp (tgt := 87) ⟨rfl, rfl⟩ rfl (by omega) (by omega) (fun (zz : (sp : Int) < 1) => absurd zz (by omega)) (fun _ => ?_)
  refine zX.sn 1 (pc2 := 82) (l2 := [(0, .inr (10, 0)), (1, zi 108), (2, zi me), (3, zi fi), (4, zi (sz : Int)), (5, zi (sp : Int)), (6, zi (gr : Int))]) (st2 := [zi (sp : Int)]) rfl ?_
  refine zX.sn 1 (pc2 := 84) (l2 := [(0, .inr (10, 0)), (1, zi 108), (2, zi me), (3, zi fi), (4, zi (sz : Int)), (5, zi (sp : Int)), (6, zi (gr : Int))]) (st2 := [zi (sz : Int), zi (sp : Int)]) rfl ?_
  refine zX.icmp (tgt := 97) ⟨rfl, rfl⟩ rfl (by omega) (by omega) (fun _ => ?_) (fun (zz : (sz : Int) < (sp : Int)) => absurd zz (by omega))
  refine zX.sn 1 (pc2 := 98) (l2 := [(0, .inr (10, 0)), (1, zi 108), (2, zi me), (3, zi fi), (4, zi (sz : Int)), (5, zi (sp : Int)), (6, zi (gr : Int))]) (st2 := [.inr (10, 0)]) rfl ?_
  refine zX.getf ⟨rfl, rfl⟩ hf rfl rfl ?_
  refine zX.call (mid2 := 150) (as := [.inr (13, 0)]) (rest := []) ⟨rfl, rfl⟩ (fun _ => rfl) (zX.invA rfl hA rfl rfl) ⟨Nat.le_of_ble_eq_true rfl, Nat.le_of_ble_eq_true rfl⟩ ?_
  refine s_size hA ?_
  show zX _ 103 104 [(0, .inr (10, 0)), (1, zi 108), (2, zi me), (3, zi fi), (4, zi (sz : Int)), (5, zi (sp : Int)), (6, zi (gr : Int))] [zi ((zVn L).length : Int)] c s _ _
  refine zX.sn 1 (pc2 := 105) (l2 := [(0, .inr (10, 0)), (1, zi 108), (2, zi me), (3, zi fi), (4, zi (sz : Int)), (5, zi (sp : Int)), (6, zi (gr : Int))]) (st2 := [zi 5, zi ((zVn L).length : Int)]) rfl ?_
  refine zX.icmp (tgt := 122) ⟨rfl, rfl⟩ rfl (by omega) (by omega) (fun (zz : 5 ≤ ((zVn L).length : Int)) => absurd zz (by omega)) (fun _ => ?_)
  refine zX.sn 1 (pc2 := 109) (l2 := [(0, .inr (10, 0)), (1, zi 108), (2, zi me), (3, zi fi), (4, zi (sz : Int)), (5, zi (sp : Int)), (6, zi (gr : Int))]) (st2 := [.inr (10, 0)]) rfl ?_
  refine zX.getf ⟨rfl, rfl⟩ hf rfl rfl ?_
  show zX _ 103 112 [(0, .inr (10, 0)), (1, zi 108), (2, zi me), (3, zi fi), (4, zi (sz : Int)), (5, zi (sp : Int)), (6, zi (gr : Int))] [zi 0] c s _ _
  refine zX.icmp0 (x := 0) (tgt := 122) ⟨rfl, rfl⟩ rfl (by omega) (fun (zz : ¬ (0 : Int) = 0) => absurd zz (by omega)) (fun _ => ?_)
  refine zX.sn 1 (pc2 := 116) (l2 := [(0, .inr (10, 0)), (1, zi 108), (2, zi me), (3, zi fi), (4, zi (sz : Int)), (5, zi (sp : Int)), (6, zi (gr : Int))]) (st2 := [.inr (10, 0)]) rfl ?_
  refine zX.getf ⟨rfl, rfl⟩ hf rfl rfl ?_
  show zX _ 103 119 [(0, .inr (10, 0)), (1, zi 108), (2, zi me), (3, zi fi), (4, zi (sz : Int)), (5, zi (sp : Int)), (6, zi (gr : Int))] [zi 0] c s _ _
  refine zX.icmp0 (x := 0) (tgt := 132) ⟨rfl, rfl⟩ rfl (by omega) (fun _ => ?_) (fun (zz : ¬ (0 : Int) = 0) => absurd zz (by omega))
  refine zX.sn 1 (pc2 := 133) (l2 := [(0, .inr (10, 0)), (1, zi 108), (2, zi me), (3, zi fi), (4, zi (sz : Int)), (5, zi (sp : Int)), (6, zi (gr : Int))]) (st2 := [.inr (10, 0)]) rfl ?_
  refine zX.getf ⟨rfl, rfl⟩ hf rfl rfl ?_
  refine zX.call (mid2 := 150) (as := [.inr (13, 0)]) (rest := []) ⟨rfl, rfl⟩ (fun _ => rfl) (zX.invA rfl hA rfl rfl) ⟨Nat.le_of_ble_eq_true rfl, Nat.le_of_ble_eq_true rfl⟩ ?_
  refine s_size hA ?_
  show zX _ 103 139 [(0, .inr (10, 0)), (1, zi 108), (2, zi me), (3, zi fi), (4, zi (sz : Int)), (5, zi (sp : Int)), (6, zi (gr : Int))] [zi ((zVn L).length : Int)] c s _ _
  rw [hnl, hv]
  refine zX.sn 1 (pc2 := 141) (l2 := [(7, zi (v : Int)), (0, .inr (10, 0)), (1, zi 108), (2, zi me), (3, zi fi), (4, zi (sz : Int)), (5, zi (sp : Int)), (6, zi (gr : Int))]) (st2 := []) rfl ?_
  refine zX.sn 1 (pc2 := 142) (l2 := [(7, zi (v : Int)), (0, .inr (10, 0)), (1, zi 108), (2, zi me), (3, zi fi), (4, zi (sz : Int)), (5, zi (sp : Int)), (6, zi (gr : Int))]) (st2 := [zi 108]) rfl ?_
  refine zX.sn 1 (pc2 := 144) (l2 := [(7, zi (v : Int)), (0, .inr (10, 0)), (1, zi 108), (2, zi me), (3, zi fi), (4, zi (sz : Int)), (5, zi (sp : Int)), (6, zi (gr : Int))]) (st2 := [zi 116, zi 108]) rfl ?_
  refine zX.icmp (tgt := 179) ⟨rfl, rfl⟩ rfl (by omega) (by omega) (fun _ => ?_) (fun (zz : (108 : Int) = 116) => absurd zz (by omega))
  refine zX.sn 1 (pc2 := 180) (l2 := [(7, zi (v : Int)), (0, .inr (10, 0)), (1, zi 108), (2, zi me), (3, zi fi), (4, zi (sz : Int)), (5, zi (sp : Int)), (6, zi (gr : Int))]) (st2 := [zi 108]) rfl ?_
  refine zX.sn 1 (pc2 := 182) (l2 := [(7, zi (v : Int)), (0, .inr (10, 0)), (1, zi 108), (2, zi me), (3, zi fi), (4, zi (sz : Int)), (5, zi (sp : Int)), (6, zi (gr : Int))]) (st2 := [zi 108, zi 108]) rfl ?_
  refine zX.icmp (tgt := 217) ⟨rfl, rfl⟩ rfl (by omega) (by omega) (fun (zz : ¬ (108 : Int) = 108) => absurd zz (by omega)) (fun _ => ?_)
  refine zX.sn 1 (pc2 := 186) (l2 := [(7, zi (v : Int)), (0, .inr (10, 0)), (1, zi 108), (2, zi me), (3, zi fi), (4, zi (sz : Int)), (5, zi (sp : Int)), (6, zi (gr : Int))]) (st2 := [.inr (10, 0)]) rfl ?_
  refine zX.getf ⟨rfl, rfl⟩ hf rfl rfl ?_
  refine zX.new (20, v) ⟨rfl, rfl⟩ (hF 20 v (by omega) (by omega) (by omega)) (by omega) ?_
  show zX _ 103 192 [(7, zi (v : Int)), (0, .inr (10, 0)), (1, zi 108), (2, zi me), (3, zi fi), (4, zi (sz : Int)), (5, zi (sp : Int)), (6, zi (gr : Int))] [.inr (20, v), .inr (13, 0)] (c + 1) (s + 15) (xup h (20, v) (.inl (9, [zi 0, zi 0, zi 0, zi 0, zi 0, .inl .null, .inl .null, .inl .null, .inl .null, zi 0, zi 0, zi 0, zi 0, .inl .null, .inl .null]))) _
  generalize hh1 : xup h (20, v) (.inl (9, [zi 0, zi 0, zi 0, zi 0, zi 0, .inl .null, .inl .null, .inl .null, .inl .null, zi 0, zi 0, zi 0, zi 0, .inl .null, .inl .null])) = h1
  have hs1 : h1 (20, v) = some (.inl (9, [zi 0, zi 0, zi 0, zi 0, zi 0, .inl .null, .inl .null, .inl .null, .inl .null, zi 0, zi 0, zi 0, zi 0, .inl .null, .inl .null])) := by
    rw [← hh1]
    exact zup_s
  have hn1 : ∀ a b : Nat, ¬ (a = 20 ∧ b = v) → h1 (a, b) = h (a, b) := fun a b hn => by
    rw [← hh1]
    exact zup_n (zn (by omega)) rfl
  have hv5 : v < 5 := by omega
  have hOut1 : zOut h1 N out := hV.1.fr (fun a b z => hn1 a b (by omega))
  have hemp1 := (hn1 0 1 (by omega)).trans hemp
  have hf1 := (hn1 10 0 (by omega)).trans hf
  have hF1 : ∀ a b : Nat, 20 ≤ a → a < 60 → (a ≠ 20 ∨ b ≠ v) → (b % 8 = v → h1 (a, b) = none) := fun a b z1 z2 z3 z4 => (hn1 a b (by omega)).trans (hF a b z1 z2 z4)
  refine zX.sn 1 (pc2 := 193) (l2 := [(7, zi (v : Int)), (0, .inr (10, 0)), (1, zi 108), (2, zi me), (3, zi fi), (4, zi (sz : Int)), (5, zi (sp : Int)), (6, zi (gr : Int))]) (st2 := [.inr (20, v), .inr (20, v), .inr (13, 0)]) rfl ?_
  refine zX.sn 1 (pc2 := 195) (l2 := [(7, zi (v : Int)), (0, .inr (10, 0)), (1, zi 108), (2, zi me), (3, zi fi), (4, zi (sz : Int)), (5, zi (sp : Int)), (6, zi (gr : Int))]) (st2 := [zi (v : Int), .inr (20, v), .inr (20, v), .inr (13, 0)]) rfl ?_
  refine zX.sn 1 (pc2 := 196) (l2 := [(7, zi (v : Int)), (0, .inr (10, 0)), (1, zi 108), (2, zi me), (3, zi fi), (4, zi (sz : Int)), (5, zi (sp : Int)), (6, zi (gr : Int))]) (st2 := [zi me, zi (v : Int), .inr (20, v), .inr (20, v), .inr (13, 0)]) rfl ?_
  refine zX.sn 1 (pc2 := 197) (l2 := [(7, zi (v : Int)), (0, .inr (10, 0)), (1, zi 108), (2, zi me), (3, zi fi), (4, zi (sz : Int)), (5, zi (sp : Int)), (6, zi (gr : Int))]) (st2 := [zi fi, zi me, zi (v : Int), .inr (20, v), .inr (20, v), .inr (13, 0)]) rfl ?_
  refine zX.sn 1 (pc2 := 199) (l2 := [(7, zi (v : Int)), (0, .inr (10, 0)), (1, zi 108), (2, zi me), (3, zi fi), (4, zi (sz : Int)), (5, zi (sp : Int)), (6, zi (gr : Int))]) (st2 := [zi (sz : Int), zi fi, zi me, zi (v : Int), .inr (20, v), .inr (20, v), .inr (13, 0)]) rfl ?_
  refine zX.sn 1 (pc2 := 201) (l2 := [(7, zi (v : Int)), (0, .inr (10, 0)), (1, zi 108), (2, zi me), (3, zi fi), (4, zi (sz : Int)), (5, zi (sp : Int)), (6, zi (gr : Int))]) (st2 := [zi (sp : Int), zi (sz : Int), zi fi, zi me, zi (v : Int), .inr (20, v), .inr (20, v), .inr (13, 0)]) rfl ?_
  refine zX.sn 1 (pc2 := 203) (l2 := [(7, zi (v : Int)), (0, .inr (10, 0)), (1, zi 108), (2, zi me), (3, zi fi), (4, zi (sz : Int)), (5, zi (sp : Int)), (6, zi (gr : Int))]) (st2 := [zi (gr : Int), zi (sp : Int), zi (sz : Int), zi fi, zi me, zi (v : Int), .inr (20, v), .inr (20, v), .inr (13, 0)]) rfl ?_
  refine zX.sn 1 (pc2 := 204) (l2 := [(7, zi (v : Int)), (0, .inr (10, 0)), (1, zi 108), (2, zi me), (3, zi fi), (4, zi (sz : Int)), (5, zi (sp : Int)), (6, zi (gr : Int))]) (st2 := [.inr (10, 0), zi (gr : Int), zi (sp : Int), zi (sz : Int), zi fi, zi me, zi (v : Int), .inr (20, v), .inr (20, v), .inr (13, 0)]) rfl ?_
  refine zX.getf ⟨rfl, rfl⟩ hf1 rfl rfl ?_
  refine zX.call (mid2 := 85) (as := [.inr (20, v), zi (v : Int), zi me, zi fi, zi (sz : Int), zi (sp : Int), zi (gr : Int), .inr (2, 0)]) (rest := [.inr (20, v), .inr (13, 0)]) ⟨rfl, rfl⟩ (fun _ => rfl) rfl ⟨Nat.le_of_ble_eq_true rfl, Nat.le_of_ble_eq_true rfl⟩ ?_
  refine s_winInit (d := d + 6) (me := me) (sp := sp) (sz := sz) hv5 hfi hsz hgr hme hsp hOut1 hs1 hF1 (fun h2 a1 a2 => ?_)
  show zX _ 103 210 [(7, zi (v : Int)), (0, .inr (10, 0)), (1, zi 108), (2, zi me), (3, zi fi), (4, zi (sz : Int)), (5, zi (sp : Int)), (6, zi (gr : Int))] [.inr (20, v), .inr (13, 0)] _ _ _ _
  have hn2 : ∀ a b : Nat, ¬ (20 ≤ a ∧ a < 60 ∧ b % 8 = v) → h2 (a, b) = h (a, b) := fun a b hn => (a2 a b hn).trans (hn1 a b (by omega))
  have hA2 : zAL h2 13 0 capv (zVn L) := hA.fr (fun a b z => hn2 a b (by omega))
  have hE2 : zEl h2 13 (zVn L) := fun x hx => by
    obtain ⟨i, hi, rfl⟩ := List.mem_map.mp hx
    have hi := List.mem_range.mp hi
    obtain ⟨fs2, hob, hci⟩ := (hV.2.2 i L[i].1 L[i].2 (List.getElem?_eq_getElem hi)).ob
    exact ⟨by dsimp only; omega, L[i].1.1, fs2, (hn2 20 i (by omega)).trans hob, by rcases hci with z | z | z | z <;> (rw [z]; rfl)⟩
  obtain ⟨fs3, hob3, -⟩ := a1.ob
  refine zX.call (mid2 := 155) (as := [.inr (13, 0), .inr (20, v)]) (rest := []) ⟨rfl, rfl⟩ (fun _ => rfl) (zX.invA rfl hA2 rfl rfl) ⟨Nat.le_of_ble_eq_true rfl, Nat.le_of_ble_eq_true rfl⟩ ?_
  refine s_add (d := d + 2) (x := (20, v)) (by omega) (by omega) hA2 (by omega) hE2 (by dsimp only; omega) hob3 rfl (fun h3 cap3 c3 s3 d1 d2 d3 => ?_)
  show zX _ 103 213 [(7, zi (v : Int)), (0, .inr (10, 0)), (1, zi 108), (2, zi me), (3, zi fi), (4, zi (sz : Int)), (5, zi (sp : Int)), (6, zi (gr : Int))] [zi 1] c3 s3 _ _
  refine zX.sn 1 (pc2 := 214) (l2 := [(7, zi (v : Int)), (0, .inr (10, 0)), (1, zi 108), (2, zi me), (3, zi fi), (4, zi (sz : Int)), (5, zi (sp : Int)), (6, zi (gr : Int))]) (st2 := []) rfl ?_
  refine zX.sn 1 (pc2 := 314) (l2 := [(7, zi (v : Int)), (0, .inr (10, 0)), (1, zi 108), (2, zi me), (3, zi fi), (4, zi (sz : Int)), (5, zi (sp : Int)), (6, zi (gr : Int))]) (st2 := []) rfl ?_
  refine zX.sn 1 (pc2 := 316) (l2 := [(7, zi (v : Int)), (0, .inr (10, 0)), (1, zi 108), (2, zi me), (3, zi fi), (4, zi (sz : Int)), (5, zi (sp : Int)), (6, zi (gr : Int))]) (st2 := [zi (v : Int)]) rfl ?_
  refine zX.ret rfl rfl ?_
  have hw1 := zwi_le hsp.1
  refine q h3 cap3 c3 s3 ?_ (by rw [zVn_add, hv]; exact d1) (fun a b hn => (d2 a b (by omega)).trans (hn2 a b (by omega))) ⟨d3.1, by have := d3.2.1; omega, by have := d3.2.2; omega⟩
  refine ⟨hV.1.fr (fun a b z => (d2 a b (by omega)).trans (hn2 a b (by omega))), ⟨by rw [List.length_append]; show _ + 1 ≤ 5; omega, fun j hj => hV.2.1.2 j (by rw [List.length_append] at hj; omega)⟩, fun i C S hi => ?_⟩
  have hO3 : zOut h3 N out := hV.1.fr (fun a b z => (d2 a b (by omega)).trans (hn2 a b (by omega)))
  by_cases hiv : i < L.length
  · rw [List.getElem?_append_left hiv] at hi
    exact (hV.2.2 i C S hi).mv (by omega) hO3 (fun a b z => (d2 a b (by omega)).trans (hn2 a b (by omega)))
  · rw [List.getElem?_append_right (by omega)] at hi
    have hi0 : i - L.length = 0 := by
      have := (List.getElem?_eq_some_iff.mp hi).1
      simp only [List.length_singleton] at this
      omega
    rw [hi0] at hi
    cases hi
    obtain rfl : i = v := by omega
    rw [hV.2.1.2 i (by omega)]
    exact a1.mv (by omega) hO3 (fun a b z => d2 a b (by omega))
set_option maxHeartbeats 4000000 in
theorem s_addS {c s v sz sp gr pr cu pj cj capv N : Nat} {uw : Bool} {L : zVL} {out : List Int64} {K : zKp} {h : xH} {g : Nat → xV} {me fi : Int} (hme : me = 99 ∨ me = 115 ∨ me = 109) (hfi : fi = 97 ∨ fi = 101 ∨ fi = 112) (hsz : 1 ≤ sz ∧ sz ≤ 200) (hgr : gr ≤ 200)  (hv : L.length = v) (hl : v < 5) (hemp : h (0, 1) = some (.inr (4, 0, g))) (hf : h (10, 0) = some (.inl (10, zFn (zFf false false uw pr cu pj cj)))) (hA : zAL h 13 0 capv (zVn L)) (hV : zVa h N K L out) (hF : ∀ a b : Nat, 20 ≤ a → a < 60 → b % 8 = v → h (a, b) = none)
    (q : ∀ h1 cap1 c1 s1, zVa h1 N K (L ++ [((6, fi, sz, gr, me, sp), zS0)]) out → zAL h1 13 0 cap1 (zVn (L ++ [((6, fi, sz, gr, me, sp), zS0)])) → (∀ a b : Nat, ¬ (20 ≤ a ∧ a < 60 ∧ b % 8 = v ∨ 13 ≤ a ∧ a < 15) → h1 (a, b) = h (a, b)) → capv ≤ cap1 ∧ c1 + capv ≤ c + cap1 + 30 ∧ s1 + 4 * capv ≤ s + 4 * cap1 + 80000 → Q (.inl (some (zi (v : Int)))) c1 s1 h1) : zX (d + 9) 103 0 [(0, .inr (10, 0)), (1, zi 115), (2, zi me), (3, zi fi), (4, zi (sz : Int)), (5, zi (sp : Int)), (6, zi (gr : Int))] [] c s h Q := by
  have hch : (115 : Int) = 116 ∨ (115 : Int) = 108 ∨ (115 : Int) = 115 ∨ (115 : Int) = 106 ∨ (115 : Int) = 118 := by omega
  have hnl : (zVn L).length = L.length := zVn_len
  refine zX.sn 1 (pc2 := 1) (l2 := [(0, .inr (10, 0)), (1, zi 115), (2, zi me), (3, zi fi), (4, zi (sz : Int)), (5, zi (sp : Int)), (6, zi (gr : Int))]) (st2 := [zi 115]) rfl ?_
  refine zX.call (mid2 := 134) (as := [zi 115]) (rest := []) ⟨rfl, rfl⟩ (fun _ => rfl) rfl ⟨Nat.le_of_ble_eq_true rfl, Nat.le_of_ble_eq_true rfl⟩ ?_
  refine s_isKind hch ?_
  show zX _ 103 4 [(0, .inr (10, 0)), (1, zi 115), (2, zi me), (3, zi fi), (4, zi (sz : Int)), (5, zi (sp : Int)), (6, zi (gr : Int))] [zi 1] c s _ _
  refine zX.icmp0 (x := 1) (tgt := 21) ⟨rfl, rfl⟩ rfl (by omega) (fun (zz : (1 : Int) = 0) => absurd zz (by omega)) (fun _ => ?_)
  refine zX.sn 1 (pc2 := 8) (l2 := [(0, .inr (10, 0)), (1, zi 115), (2, zi me), (3, zi fi), (4, zi (sz : Int)), (5, zi (sp : Int)), (6, zi (gr : Int))]) (st2 := [zi me]) rfl ?_
  refine zX.call (mid2 := 135) (as := [zi me]) (rest := []) ⟨rfl, rfl⟩ (fun _ => rfl) rfl ⟨Nat.le_of_ble_eq_true rfl, Nat.le_of_ble_eq_true rfl⟩ ?_
  refine s_isMeas hme ?_
  show zX _ 103 11 [(0, .inr (10, 0)), (1, zi 115), (2, zi me), (3, zi fi), (4, zi (sz : Int)), (5, zi (sp : Int)), (6, zi (gr : Int))] [zi 1] c s _ _
  refine zX.icmp0 (x := 1) (tgt := 21) ⟨rfl, rfl⟩ rfl (by omega) (fun (zz : (1 : Int) = 0) => absurd zz (by omega)) (fun _ => ?_)
  refine zX.sn 1 (pc2 := 15) (l2 := [(0, .inr (10, 0)), (1, zi 115), (2, zi me), (3, zi fi), (4, zi (sz : Int)), (5, zi (sp : Int)), (6, zi (gr : Int))]) (st2 := [zi fi]) rfl ?_
  refine zX.call (mid2 := 136) (as := [zi fi]) (rest := []) ⟨rfl, rfl⟩ (fun _ => rfl) rfl ⟨Nat.le_of_ble_eq_true rfl, Nat.le_of_ble_eq_true rfl⟩ ?_
  refine s_isFilt hfi ?_
  show zX _ 103 18 [(0, .inr (10, 0)), (1, zi 115), (2, zi me), (3, zi fi), (4, zi (sz : Int)), (5, zi (sp : Int)), (6, zi (gr : Int))] [zi 1] c s _ _
  refine zX.icmp0 (x := 1) (tgt := 31) ⟨rfl, rfl⟩ rfl (by omega) (fun _ => ?_) (fun (zz : (1 : Int) = 0) => absurd zz (by omega))
  refine zX.sn 1 (pc2 := 33) (l2 := [(0, .inr (10, 0)), (1, zi 115), (2, zi me), (3, zi fi), (4, zi (sz : Int)), (5, zi (sp : Int)), (6, zi (gr : Int))]) (st2 := [zi (sz : Int)]) rfl ?_
  refine zX.sn 1 (pc2 := 34) (l2 := [(0, .inr (10, 0)), (1, zi 115), (2, zi me), (3, zi fi), (4, zi (sz : Int)), (5, zi (sp : Int)), (6, zi (gr : Int))]) (st2 := [zi 1, zi (sz : Int)]) rfl ?_
  refine zX.icmp (tgt := 58) ⟨rfl, rfl⟩ rfl (by omega) (by omega) (fun (zz : (sz : Int) < 1) => absurd zz (by omega)) (fun _ => ?_)
  refine zX.sn 1 (pc2 := 39) (l2 := [(0, .inr (10, 0)), (1, zi 115), (2, zi me), (3, zi fi), (4, zi (sz : Int)), (5, zi (sp : Int)), (6, zi (gr : Int))]) (st2 := [zi (sz : Int)]) rfl ?_
  refine zX.sn 1 (pc2 := 42) (l2 := [(0, .inr (10, 0)), (1, zi 115), (2, zi me), (3, zi fi), (4, zi (sz : Int)), (5, zi (sp : Int)), (6, zi (gr : Int))]) (st2 := [zi 200, zi (sz : Int)]) rfl ?_
  refine zX.icmp (tgt := 58) ⟨rfl, rfl⟩ rfl (by omega) (by omega) (fun (zz : 200 < (sz : Int)) => absurd zz (by omega)) (fun _ => ?_)
  refine zX.sn 1 (pc2 := 47) (l2 := [(0, .inr (10, 0)), (1, zi 115), (2, zi me), (3, zi fi), (4, zi (sz : Int)), (5, zi (sp : Int)), (6, zi (gr : Int))]) (st2 := [zi (gr : Int)]) rfl ?_
  refine zX.icmp0 (tgt := 58) ⟨rfl, rfl⟩ rfl (by omega) (fun (zz : (gr : Int) < 0) => absurd zz (by omega)) (fun _ => ?_)
  refine zX.sn 1 (pc2 := 52) (l2 := [(0, .inr (10, 0)), (1, zi 115), (2, zi me), (3, zi fi), (4, zi (sz : Int)), (5, zi (sp : Int)), (6, zi (gr : Int))]) (st2 := [zi (gr : Int)]) rfl ?_
  refine zX.sn 1 (pc2 := 55) (l2 := [(0, .inr (10, 0)), (1, zi 115), (2, zi me), (3, zi fi), (4, zi (sz : Int)), (5, zi (sp : Int)), (6, zi (gr : Int))]) (st2 := [zi 200, zi (gr : Int)]) rfl ?_
  refine zX.icmp (tgt := 68) ⟨rfl, rfl⟩ rfl (by omega) (by omega) (fun _ => ?_) (fun (zz : 200 < (gr : Int)) => absurd zz (by omega))
  refine zX.sn 1 (pc2 := 69) (l2 := [(0, .inr (10, 0)), (1, zi 115), (2, zi me), (3, zi fi), (4, zi (sz : Int)), (5, zi (sp : Int)), (6, zi (gr : Int))]) (st2 := [zi 115]) rfl ?_
  refine zX.sn 1 (pc2 := 71) (l2 := [(0, .inr (10, 0)), (1, zi 115), (2, zi me), (3, zi fi), (4, zi (sz : Int)), (5, zi (sp : Int)), (6, zi (gr : Int))]) (st2 := [zi 108, zi 115]) rfl ?_
  refine zX.icmp (tgt := 97) ⟨rfl, rfl⟩ rfl (by omega) (by omega) (fun _ => ?_) (fun (zz : (115 : Int) = 108) => absurd zz (by omega))
  refine zX.sn 1 (pc2 := 98) (l2 := [(0, .inr (10, 0)), (1, zi 115), (2, zi me), (3, zi fi), (4, zi (sz : Int)), (5, zi (sp : Int)), (6, zi (gr : Int))]) (st2 := [.inr (10, 0)]) rfl ?_
  refine zX.getf ⟨rfl, rfl⟩ hf rfl rfl ?_
  refine zX.call (mid2 := 150) (as := [.inr (13, 0)]) (rest := []) ⟨rfl, rfl⟩ (fun _ => rfl) (zX.invA rfl hA rfl rfl) ⟨Nat.le_of_ble_eq_true rfl, Nat.le_of_ble_eq_true rfl⟩ ?_
  refine s_size hA ?_
  show zX _ 103 104 [(0, .inr (10, 0)), (1, zi 115), (2, zi me), (3, zi fi), (4, zi (sz : Int)), (5, zi (sp : Int)), (6, zi (gr : Int))] [zi ((zVn L).length : Int)] c s _ _
  refine zX.sn 1 (pc2 := 105) (l2 := [(0, .inr (10, 0)), (1, zi 115), (2, zi me), (3, zi fi), (4, zi (sz : Int)), (5, zi (sp : Int)), (6, zi (gr : Int))]) (st2 := [zi 5, zi ((zVn L).length : Int)]) rfl ?_
  refine zX.icmp (tgt := 122) ⟨rfl, rfl⟩ rfl (by omega) (by omega) (fun (zz : 5 ≤ ((zVn L).length : Int)) => absurd zz (by omega)) (fun _ => ?_)
  refine zX.sn 1 (pc2 := 109) (l2 := [(0, .inr (10, 0)), (1, zi 115), (2, zi me), (3, zi fi), (4, zi (sz : Int)), (5, zi (sp : Int)), (6, zi (gr : Int))]) (st2 := [.inr (10, 0)]) rfl ?_
  refine zX.getf ⟨rfl, rfl⟩ hf rfl rfl ?_
  show zX _ 103 112 [(0, .inr (10, 0)), (1, zi 115), (2, zi me), (3, zi fi), (4, zi (sz : Int)), (5, zi (sp : Int)), (6, zi (gr : Int))] [zi 0] c s _ _
  refine zX.icmp0 (x := 0) (tgt := 122) ⟨rfl, rfl⟩ rfl (by omega) (fun (zz : ¬ (0 : Int) = 0) => absurd zz (by omega)) (fun _ => ?_)
  refine zX.sn 1 (pc2 := 116) (l2 := [(0, .inr (10, 0)), (1, zi 115), (2, zi me), (3, zi fi), (4, zi (sz : Int)), (5, zi (sp : Int)), (6, zi (gr : Int))]) (st2 := [.inr (10, 0)]) rfl ?_
  refine zX.getf ⟨rfl, rfl⟩ hf rfl rfl ?_
  show zX _ 103 119 [(0, .inr (10, 0)), (1, zi 115), (2, zi me), (3, zi fi), (4, zi (sz : Int)), (5, zi (sp : Int)), (6, zi (gr : Int))] [zi 0] c s _ _
  refine zX.icmp0 (x := 0) (tgt := 132) ⟨rfl, rfl⟩ rfl (by omega) (fun _ => ?_) (fun (zz : ¬ (0 : Int) = 0) => absurd zz (by omega))
  refine zX.sn 1 (pc2 := 133) (l2 := [(0, .inr (10, 0)), (1, zi 115), (2, zi me), (3, zi fi), (4, zi (sz : Int)), (5, zi (sp : Int)), (6, zi (gr : Int))]) (st2 := [.inr (10, 0)]) rfl ?_
  refine zX.getf ⟨rfl, rfl⟩ hf rfl rfl ?_
  refine zX.call (mid2 := 150) (as := [.inr (13, 0)]) (rest := []) ⟨rfl, rfl⟩ (fun _ => rfl) (zX.invA rfl hA rfl rfl) ⟨Nat.le_of_ble_eq_true rfl, Nat.le_of_ble_eq_true rfl⟩ ?_
  refine s_size hA ?_
  show zX _ 103 139 [(0, .inr (10, 0)), (1, zi 115), (2, zi me), (3, zi fi), (4, zi (sz : Int)), (5, zi (sp : Int)), (6, zi (gr : Int))] [zi ((zVn L).length : Int)] c s _ _
  rw [hnl, hv]
  refine zX.sn 1 (pc2 := 141) (l2 := [(7, zi (v : Int)), (0, .inr (10, 0)), (1, zi 115), (2, zi me), (3, zi fi), (4, zi (sz : Int)), (5, zi (sp : Int)), (6, zi (gr : Int))]) (st2 := []) rfl ?_
  refine zX.sn 1 (pc2 := 142) (l2 := [(7, zi (v : Int)), (0, .inr (10, 0)), (1, zi 115), (2, zi me), (3, zi fi), (4, zi (sz : Int)), (5, zi (sp : Int)), (6, zi (gr : Int))]) (st2 := [zi 115]) rfl ?_
  refine zX.sn 1 (pc2 := 144) (l2 := [(7, zi (v : Int)), (0, .inr (10, 0)), (1, zi 115), (2, zi me), (3, zi fi), (4, zi (sz : Int)), (5, zi (sp : Int)), (6, zi (gr : Int))]) (st2 := [zi 116, zi 115]) rfl ?_
  refine zX.icmp (tgt := 179) ⟨rfl, rfl⟩ rfl (by omega) (by omega) (fun _ => ?_) (fun (zz : (115 : Int) = 116) => absurd zz (by omega))
  refine zX.sn 1 (pc2 := 180) (l2 := [(7, zi (v : Int)), (0, .inr (10, 0)), (1, zi 115), (2, zi me), (3, zi fi), (4, zi (sz : Int)), (5, zi (sp : Int)), (6, zi (gr : Int))]) (st2 := [zi 115]) rfl ?_
  refine zX.sn 1 (pc2 := 182) (l2 := [(7, zi (v : Int)), (0, .inr (10, 0)), (1, zi 115), (2, zi me), (3, zi fi), (4, zi (sz : Int)), (5, zi (sp : Int)), (6, zi (gr : Int))]) (st2 := [zi 108, zi 115]) rfl ?_
  refine zX.icmp (tgt := 217) ⟨rfl, rfl⟩ rfl (by omega) (by omega) (fun _ => ?_) (fun (zz : (115 : Int) = 108) => absurd zz (by omega))
  refine zX.sn 1 (pc2 := 218) (l2 := [(7, zi (v : Int)), (0, .inr (10, 0)), (1, zi 115), (2, zi me), (3, zi fi), (4, zi (sz : Int)), (5, zi (sp : Int)), (6, zi (gr : Int))]) (st2 := [zi 115]) rfl ?_
  refine zX.sn 1 (pc2 := 220) (l2 := [(7, zi (v : Int)), (0, .inr (10, 0)), (1, zi 115), (2, zi me), (3, zi fi), (4, zi (sz : Int)), (5, zi (sp : Int)), (6, zi (gr : Int))]) (st2 := [zi 115, zi 115]) rfl ?_
  refine zX.icmp (tgt := 253) ⟨rfl, rfl⟩ rfl (by omega) (by omega) (fun (zz : ¬ (115 : Int) = 115) => absurd zz (by omega)) (fun _ => ?_)
  refine zX.sn 1 (pc2 := 224) (l2 := [(7, zi (v : Int)), (0, .inr (10, 0)), (1, zi 115), (2, zi me), (3, zi fi), (4, zi (sz : Int)), (5, zi (sp : Int)), (6, zi (gr : Int))]) (st2 := [.inr (10, 0)]) rfl ?_
  refine zX.getf ⟨rfl, rfl⟩ hf rfl rfl ?_
  refine zX.new (20, v) ⟨rfl, rfl⟩ (hF 20 v (by omega) (by omega) (by omega)) (by omega) ?_
  show zX _ 103 230 [(7, zi (v : Int)), (0, .inr (10, 0)), (1, zi 115), (2, zi me), (3, zi fi), (4, zi (sz : Int)), (5, zi (sp : Int)), (6, zi (gr : Int))] [.inr (20, v), .inr (13, 0)] (c + 1) (s + 15) (xup h (20, v) (.inl (6, [zi 0, zi 0, zi 0, zi 0, zi 0, .inl .null, .inl .null, .inl .null, .inl .null, zi 0, zi 0, .inl .null, .inl .null, .inl .null, .inl .null]))) _
  generalize hh1 : xup h (20, v) (.inl (6, [zi 0, zi 0, zi 0, zi 0, zi 0, .inl .null, .inl .null, .inl .null, .inl .null, zi 0, zi 0, .inl .null, .inl .null, .inl .null, .inl .null])) = h1
  have hs1 : h1 (20, v) = some (.inl (6, [zi 0, zi 0, zi 0, zi 0, zi 0, .inl .null, .inl .null, .inl .null, .inl .null, zi 0, zi 0, .inl .null, .inl .null, .inl .null, .inl .null])) := by
    rw [← hh1]
    exact zup_s
  have hn1 : ∀ a b : Nat, ¬ (a = 20 ∧ b = v) → h1 (a, b) = h (a, b) := fun a b hn => by
    rw [← hh1]
    exact zup_n (zn (by omega)) rfl
  have hv5 : v < 5 := by omega
  have hOut1 : zOut h1 N out := hV.1.fr (fun a b z => hn1 a b (by omega))
  have hemp1 := (hn1 0 1 (by omega)).trans hemp
  have hf1 := (hn1 10 0 (by omega)).trans hf
  have hF1 : ∀ a b : Nat, 20 ≤ a → a < 60 → (a ≠ 20 ∨ b ≠ v) → (b % 8 = v → h1 (a, b) = none) := fun a b z1 z2 z3 z4 => (hn1 a b (by omega)).trans (hF a b z1 z2 z4)
  refine zX.sn 1 (pc2 := 231) (l2 := [(7, zi (v : Int)), (0, .inr (10, 0)), (1, zi 115), (2, zi me), (3, zi fi), (4, zi (sz : Int)), (5, zi (sp : Int)), (6, zi (gr : Int))]) (st2 := [.inr (20, v), .inr (20, v), .inr (13, 0)]) rfl ?_
  refine zX.sn 1 (pc2 := 233) (l2 := [(7, zi (v : Int)), (0, .inr (10, 0)), (1, zi 115), (2, zi me), (3, zi fi), (4, zi (sz : Int)), (5, zi (sp : Int)), (6, zi (gr : Int))]) (st2 := [zi (v : Int), .inr (20, v), .inr (20, v), .inr (13, 0)]) rfl ?_
  refine zX.sn 1 (pc2 := 234) (l2 := [(7, zi (v : Int)), (0, .inr (10, 0)), (1, zi 115), (2, zi me), (3, zi fi), (4, zi (sz : Int)), (5, zi (sp : Int)), (6, zi (gr : Int))]) (st2 := [zi me, zi (v : Int), .inr (20, v), .inr (20, v), .inr (13, 0)]) rfl ?_
  refine zX.sn 1 (pc2 := 235) (l2 := [(7, zi (v : Int)), (0, .inr (10, 0)), (1, zi 115), (2, zi me), (3, zi fi), (4, zi (sz : Int)), (5, zi (sp : Int)), (6, zi (gr : Int))]) (st2 := [zi fi, zi me, zi (v : Int), .inr (20, v), .inr (20, v), .inr (13, 0)]) rfl ?_
  refine zX.sn 1 (pc2 := 237) (l2 := [(7, zi (v : Int)), (0, .inr (10, 0)), (1, zi 115), (2, zi me), (3, zi fi), (4, zi (sz : Int)), (5, zi (sp : Int)), (6, zi (gr : Int))]) (st2 := [zi (sz : Int), zi fi, zi me, zi (v : Int), .inr (20, v), .inr (20, v), .inr (13, 0)]) rfl ?_
  refine zX.sn 1 (pc2 := 239) (l2 := [(7, zi (v : Int)), (0, .inr (10, 0)), (1, zi 115), (2, zi me), (3, zi fi), (4, zi (sz : Int)), (5, zi (sp : Int)), (6, zi (gr : Int))]) (st2 := [zi (gr : Int), zi (sz : Int), zi fi, zi me, zi (v : Int), .inr (20, v), .inr (20, v), .inr (13, 0)]) rfl ?_
  refine zX.sn 1 (pc2 := 240) (l2 := [(7, zi (v : Int)), (0, .inr (10, 0)), (1, zi 115), (2, zi me), (3, zi fi), (4, zi (sz : Int)), (5, zi (sp : Int)), (6, zi (gr : Int))]) (st2 := [.inr (10, 0), zi (gr : Int), zi (sz : Int), zi fi, zi me, zi (v : Int), .inr (20, v), .inr (20, v), .inr (13, 0)]) rfl ?_
  refine zX.getf ⟨rfl, rfl⟩ hf1 rfl rfl ?_
  refine zX.call (mid2 := 35) (as := [.inr (20, v), zi (v : Int), zi me, zi fi, zi (sz : Int), zi (gr : Int), .inr (2, 0)]) (rest := [.inr (20, v), .inr (13, 0)]) ⟨rfl, rfl⟩ (fun _ => rfl) rfl ⟨Nat.le_of_ble_eq_true rfl, Nat.le_of_ble_eq_true rfl⟩ ?_
  refine s_sesInit (d := d + 6) (me := me) (sp := sp) (sz := sz) hv5 hfi hsz hgr hme hOut1 hs1 hF1 (fun h2 a1 a2 => ?_)
  show zX _ 103 246 [(7, zi (v : Int)), (0, .inr (10, 0)), (1, zi 115), (2, zi me), (3, zi fi), (4, zi (sz : Int)), (5, zi (sp : Int)), (6, zi (gr : Int))] [.inr (20, v), .inr (13, 0)] _ _ _ _
  have hn2 : ∀ a b : Nat, ¬ (20 ≤ a ∧ a < 60 ∧ b % 8 = v) → h2 (a, b) = h (a, b) := fun a b hn => (a2 a b hn).trans (hn1 a b (by omega))
  have hA2 : zAL h2 13 0 capv (zVn L) := hA.fr (fun a b z => hn2 a b (by omega))
  have hE2 : zEl h2 13 (zVn L) := fun x hx => by
    obtain ⟨i, hi, rfl⟩ := List.mem_map.mp hx
    have hi := List.mem_range.mp hi
    obtain ⟨fs2, hob, hci⟩ := (hV.2.2 i L[i].1 L[i].2 (List.getElem?_eq_getElem hi)).ob
    exact ⟨by dsimp only; omega, L[i].1.1, fs2, (hn2 20 i (by omega)).trans hob, by rcases hci with z | z | z | z <;> (rw [z]; rfl)⟩
  obtain ⟨fs3, hob3, -⟩ := a1.ob
  refine zX.call (mid2 := 155) (as := [.inr (13, 0), .inr (20, v)]) (rest := []) ⟨rfl, rfl⟩ (fun _ => rfl) (zX.invA rfl hA2 rfl rfl) ⟨Nat.le_of_ble_eq_true rfl, Nat.le_of_ble_eq_true rfl⟩ ?_
  refine s_add (d := d + 2) (x := (20, v)) (by omega) (by omega) hA2 (by omega) hE2 (by dsimp only; omega) hob3 rfl (fun h3 cap3 c3 s3 d1 d2 d3 => ?_)
  show zX _ 103 249 [(7, zi (v : Int)), (0, .inr (10, 0)), (1, zi 115), (2, zi me), (3, zi fi), (4, zi (sz : Int)), (5, zi (sp : Int)), (6, zi (gr : Int))] [zi 1] c3 s3 _ _
  refine zX.sn 1 (pc2 := 250) (l2 := [(7, zi (v : Int)), (0, .inr (10, 0)), (1, zi 115), (2, zi me), (3, zi fi), (4, zi (sz : Int)), (5, zi (sp : Int)), (6, zi (gr : Int))]) (st2 := []) rfl ?_
  refine zX.sn 1 (pc2 := 314) (l2 := [(7, zi (v : Int)), (0, .inr (10, 0)), (1, zi 115), (2, zi me), (3, zi fi), (4, zi (sz : Int)), (5, zi (sp : Int)), (6, zi (gr : Int))]) (st2 := []) rfl ?_
  refine zX.sn 1 (pc2 := 316) (l2 := [(7, zi (v : Int)), (0, .inr (10, 0)), (1, zi 115), (2, zi me), (3, zi fi), (4, zi (sz : Int)), (5, zi (sp : Int)), (6, zi (gr : Int))]) (st2 := [zi (v : Int)]) rfl ?_
  refine zX.ret rfl rfl ?_
  refine q h3 cap3 c3 s3 ?_ (by rw [zVn_add, hv]; exact d1) (fun a b hn => (d2 a b (by omega)).trans (hn2 a b (by omega))) ⟨d3.1, by have := d3.2.1; omega, by have := d3.2.2; omega⟩
  refine ⟨hV.1.fr (fun a b z => (d2 a b (by omega)).trans (hn2 a b (by omega))), ⟨by rw [List.length_append]; show _ + 1 ≤ 5; omega, fun j hj => hV.2.1.2 j (by rw [List.length_append] at hj; omega)⟩, fun i C S hi => ?_⟩
  have hO3 : zOut h3 N out := hV.1.fr (fun a b z => (d2 a b (by omega)).trans (hn2 a b (by omega)))
  by_cases hiv : i < L.length
  · rw [List.getElem?_append_left hiv] at hi
    exact (hV.2.2 i C S hi).mv (by omega) hO3 (fun a b z => (d2 a b (by omega)).trans (hn2 a b (by omega)))
  · rw [List.getElem?_append_right (by omega)] at hi
    have hi0 : i - L.length = 0 := by
      have := (List.getElem?_eq_some_iff.mp hi).1
      simp only [List.length_singleton] at this
      omega
    rw [hi0] at hi
    cases hi
    obtain rfl : i = v := by omega
    rw [hV.2.1.2 i (by omega)]
    exact a1.mv (by omega) hO3 (fun a b z => d2 a b (by omega))
set_option maxHeartbeats 4000000 in
theorem s_addJ {c s v sz sp gr pr cu pj cj capv N : Nat} {uw : Bool} {L : zVL} {out : List Int64} {K : zKp} {h : xH} {g : Nat → xV} {me fi : Int} (hme : me = 99 ∨ me = 115 ∨ me = 109) (hfi : fi = 97 ∨ fi = 101 ∨ fi = 112) (hsz : 1 ≤ sz ∧ sz ≤ 200) (hgr : gr ≤ 200)  (hv : L.length = v) (hl : v < 5) (hemp : h (0, 1) = some (.inr (4, 0, g))) (hf : h (10, 0) = some (.inl (10, zFn (zFf false false uw pr cu pj cj)))) (hA : zAL h 13 0 capv (zVn L)) (hV : zVa h N K L out) (hF : ∀ a b : Nat, 20 ≤ a → a < 60 → b % 8 = v → h (a, b) = none)
    (q : ∀ h1 cap1 c1 s1, zVa h1 N K (L ++ [((2, fi, sz, gr, me, sp), zS0)]) out → zAL h1 13 0 cap1 (zVn (L ++ [((2, fi, sz, gr, me, sp), zS0)])) → (∀ a b : Nat, ¬ (20 ≤ a ∧ a < 60 ∧ b % 8 = v ∨ 13 ≤ a ∧ a < 15) → h1 (a, b) = h (a, b)) → capv ≤ cap1 ∧ c1 + capv ≤ c + cap1 + 30 ∧ s1 + 4 * capv ≤ s + 4 * cap1 + 80000 → Q (.inl (some (zi (v : Int)))) c1 s1 h1) : zX (d + 9) 103 0 [(0, .inr (10, 0)), (1, zi 106), (2, zi me), (3, zi fi), (4, zi (sz : Int)), (5, zi (sp : Int)), (6, zi (gr : Int))] [] c s h Q := by
  have hch : (106 : Int) = 116 ∨ (106 : Int) = 108 ∨ (106 : Int) = 115 ∨ (106 : Int) = 106 ∨ (106 : Int) = 118 := by omega
  have hnl : (zVn L).length = L.length := zVn_len
  refine zX.sn 1 (pc2 := 1) (l2 := [(0, .inr (10, 0)), (1, zi 106), (2, zi me), (3, zi fi), (4, zi (sz : Int)), (5, zi (sp : Int)), (6, zi (gr : Int))]) (st2 := [zi 106]) rfl ?_
  refine zX.call (mid2 := 134) (as := [zi 106]) (rest := []) ⟨rfl, rfl⟩ (fun _ => rfl) rfl ⟨Nat.le_of_ble_eq_true rfl, Nat.le_of_ble_eq_true rfl⟩ ?_
  refine s_isKind hch ?_
  show zX _ 103 4 [(0, .inr (10, 0)), (1, zi 106), (2, zi me), (3, zi fi), (4, zi (sz : Int)), (5, zi (sp : Int)), (6, zi (gr : Int))] [zi 1] c s _ _
  refine zX.icmp0 (x := 1) (tgt := 21) ⟨rfl, rfl⟩ rfl (by omega) (fun (zz : (1 : Int) = 0) => absurd zz (by omega)) (fun _ => ?_)
  refine zX.sn 1 (pc2 := 8) (l2 := [(0, .inr (10, 0)), (1, zi 106), (2, zi me), (3, zi fi), (4, zi (sz : Int)), (5, zi (sp : Int)), (6, zi (gr : Int))]) (st2 := [zi me]) rfl ?_
  refine zX.call (mid2 := 135) (as := [zi me]) (rest := []) ⟨rfl, rfl⟩ (fun _ => rfl) rfl ⟨Nat.le_of_ble_eq_true rfl, Nat.le_of_ble_eq_true rfl⟩ ?_
  refine s_isMeas hme ?_
  show zX _ 103 11 [(0, .inr (10, 0)), (1, zi 106), (2, zi me), (3, zi fi), (4, zi (sz : Int)), (5, zi (sp : Int)), (6, zi (gr : Int))] [zi 1] c s _ _
  refine zX.icmp0 (x := 1) (tgt := 21) ⟨rfl, rfl⟩ rfl (by omega) (fun (zz : (1 : Int) = 0) => absurd zz (by omega)) (fun _ => ?_)
  refine zX.sn 1 (pc2 := 15) (l2 := [(0, .inr (10, 0)), (1, zi 106), (2, zi me), (3, zi fi), (4, zi (sz : Int)), (5, zi (sp : Int)), (6, zi (gr : Int))]) (st2 := [zi fi]) rfl ?_
  refine zX.call (mid2 := 136) (as := [zi fi]) (rest := []) ⟨rfl, rfl⟩ (fun _ => rfl) rfl ⟨Nat.le_of_ble_eq_true rfl, Nat.le_of_ble_eq_true rfl⟩ ?_
  refine s_isFilt hfi ?_
  show zX _ 103 18 [(0, .inr (10, 0)), (1, zi 106), (2, zi me), (3, zi fi), (4, zi (sz : Int)), (5, zi (sp : Int)), (6, zi (gr : Int))] [zi 1] c s _ _
  refine zX.icmp0 (x := 1) (tgt := 31) ⟨rfl, rfl⟩ rfl (by omega) (fun _ => ?_) (fun (zz : (1 : Int) = 0) => absurd zz (by omega))
  refine zX.sn 1 (pc2 := 33) (l2 := [(0, .inr (10, 0)), (1, zi 106), (2, zi me), (3, zi fi), (4, zi (sz : Int)), (5, zi (sp : Int)), (6, zi (gr : Int))]) (st2 := [zi (sz : Int)]) rfl ?_
  refine zX.sn 1 (pc2 := 34) (l2 := [(0, .inr (10, 0)), (1, zi 106), (2, zi me), (3, zi fi), (4, zi (sz : Int)), (5, zi (sp : Int)), (6, zi (gr : Int))]) (st2 := [zi 1, zi (sz : Int)]) rfl ?_
  refine zX.icmp (tgt := 58) ⟨rfl, rfl⟩ rfl (by omega) (by omega) (fun (zz : (sz : Int) < 1) => absurd zz (by omega)) (fun _ => ?_)
  refine zX.sn 1 (pc2 := 39) (l2 := [(0, .inr (10, 0)), (1, zi 106), (2, zi me), (3, zi fi), (4, zi (sz : Int)), (5, zi (sp : Int)), (6, zi (gr : Int))]) (st2 := [zi (sz : Int)]) rfl ?_
  refine zX.sn 1 (pc2 := 42) (l2 := [(0, .inr (10, 0)), (1, zi 106), (2, zi me), (3, zi fi), (4, zi (sz : Int)), (5, zi (sp : Int)), (6, zi (gr : Int))]) (st2 := [zi 200, zi (sz : Int)]) rfl ?_
  refine zX.icmp (tgt := 58) ⟨rfl, rfl⟩ rfl (by omega) (by omega) (fun (zz : 200 < (sz : Int)) => absurd zz (by omega)) (fun _ => ?_)
  refine zX.sn 1 (pc2 := 47) (l2 := [(0, .inr (10, 0)), (1, zi 106), (2, zi me), (3, zi fi), (4, zi (sz : Int)), (5, zi (sp : Int)), (6, zi (gr : Int))]) (st2 := [zi (gr : Int)]) rfl ?_
  refine zX.icmp0 (tgt := 58) ⟨rfl, rfl⟩ rfl (by omega) (fun (zz : (gr : Int) < 0) => absurd zz (by omega)) (fun _ => ?_)
  refine zX.sn 1 (pc2 := 52) (l2 := [(0, .inr (10, 0)), (1, zi 106), (2, zi me), (3, zi fi), (4, zi (sz : Int)), (5, zi (sp : Int)), (6, zi (gr : Int))]) (st2 := [zi (gr : Int)]) rfl ?_
  refine zX.sn 1 (pc2 := 55) (l2 := [(0, .inr (10, 0)), (1, zi 106), (2, zi me), (3, zi fi), (4, zi (sz : Int)), (5, zi (sp : Int)), (6, zi (gr : Int))]) (st2 := [zi 200, zi (gr : Int)]) rfl ?_
  refine zX.icmp (tgt := 68) ⟨rfl, rfl⟩ rfl (by omega) (by omega) (fun _ => ?_) (fun (zz : 200 < (gr : Int)) => absurd zz (by omega))
  refine zX.sn 1 (pc2 := 69) (l2 := [(0, .inr (10, 0)), (1, zi 106), (2, zi me), (3, zi fi), (4, zi (sz : Int)), (5, zi (sp : Int)), (6, zi (gr : Int))]) (st2 := [zi 106]) rfl ?_
  refine zX.sn 1 (pc2 := 71) (l2 := [(0, .inr (10, 0)), (1, zi 106), (2, zi me), (3, zi fi), (4, zi (sz : Int)), (5, zi (sp : Int)), (6, zi (gr : Int))]) (st2 := [zi 108, zi 106]) rfl ?_
  refine zX.icmp (tgt := 97) ⟨rfl, rfl⟩ rfl (by omega) (by omega) (fun _ => ?_) (fun (zz : (106 : Int) = 108) => absurd zz (by omega))
  refine zX.sn 1 (pc2 := 98) (l2 := [(0, .inr (10, 0)), (1, zi 106), (2, zi me), (3, zi fi), (4, zi (sz : Int)), (5, zi (sp : Int)), (6, zi (gr : Int))]) (st2 := [.inr (10, 0)]) rfl ?_
  refine zX.getf ⟨rfl, rfl⟩ hf rfl rfl ?_
  refine zX.call (mid2 := 150) (as := [.inr (13, 0)]) (rest := []) ⟨rfl, rfl⟩ (fun _ => rfl) (zX.invA rfl hA rfl rfl) ⟨Nat.le_of_ble_eq_true rfl, Nat.le_of_ble_eq_true rfl⟩ ?_
  refine s_size hA ?_
  show zX _ 103 104 [(0, .inr (10, 0)), (1, zi 106), (2, zi me), (3, zi fi), (4, zi (sz : Int)), (5, zi (sp : Int)), (6, zi (gr : Int))] [zi ((zVn L).length : Int)] c s _ _
  refine zX.sn 1 (pc2 := 105) (l2 := [(0, .inr (10, 0)), (1, zi 106), (2, zi me), (3, zi fi), (4, zi (sz : Int)), (5, zi (sp : Int)), (6, zi (gr : Int))]) (st2 := [zi 5, zi ((zVn L).length : Int)]) rfl ?_
  refine zX.icmp (tgt := 122) ⟨rfl, rfl⟩ rfl (by omega) (by omega) (fun (zz : 5 ≤ ((zVn L).length : Int)) => absurd zz (by omega)) (fun _ => ?_)
  refine zX.sn 1 (pc2 := 109) (l2 := [(0, .inr (10, 0)), (1, zi 106), (2, zi me), (3, zi fi), (4, zi (sz : Int)), (5, zi (sp : Int)), (6, zi (gr : Int))]) (st2 := [.inr (10, 0)]) rfl ?_
  refine zX.getf ⟨rfl, rfl⟩ hf rfl rfl ?_
  show zX _ 103 112 [(0, .inr (10, 0)), (1, zi 106), (2, zi me), (3, zi fi), (4, zi (sz : Int)), (5, zi (sp : Int)), (6, zi (gr : Int))] [zi 0] c s _ _
  refine zX.icmp0 (x := 0) (tgt := 122) ⟨rfl, rfl⟩ rfl (by omega) (fun (zz : ¬ (0 : Int) = 0) => absurd zz (by omega)) (fun _ => ?_)
  refine zX.sn 1 (pc2 := 116) (l2 := [(0, .inr (10, 0)), (1, zi 106), (2, zi me), (3, zi fi), (4, zi (sz : Int)), (5, zi (sp : Int)), (6, zi (gr : Int))]) (st2 := [.inr (10, 0)]) rfl ?_
  refine zX.getf ⟨rfl, rfl⟩ hf rfl rfl ?_
  show zX _ 103 119 [(0, .inr (10, 0)), (1, zi 106), (2, zi me), (3, zi fi), (4, zi (sz : Int)), (5, zi (sp : Int)), (6, zi (gr : Int))] [zi 0] c s _ _
  refine zX.icmp0 (x := 0) (tgt := 132) ⟨rfl, rfl⟩ rfl (by omega) (fun _ => ?_) (fun (zz : ¬ (0 : Int) = 0) => absurd zz (by omega))
  refine zX.sn 1 (pc2 := 133) (l2 := [(0, .inr (10, 0)), (1, zi 106), (2, zi me), (3, zi fi), (4, zi (sz : Int)), (5, zi (sp : Int)), (6, zi (gr : Int))]) (st2 := [.inr (10, 0)]) rfl ?_
  refine zX.getf ⟨rfl, rfl⟩ hf rfl rfl ?_
  refine zX.call (mid2 := 150) (as := [.inr (13, 0)]) (rest := []) ⟨rfl, rfl⟩ (fun _ => rfl) (zX.invA rfl hA rfl rfl) ⟨Nat.le_of_ble_eq_true rfl, Nat.le_of_ble_eq_true rfl⟩ ?_
  refine s_size hA ?_
  show zX _ 103 139 [(0, .inr (10, 0)), (1, zi 106), (2, zi me), (3, zi fi), (4, zi (sz : Int)), (5, zi (sp : Int)), (6, zi (gr : Int))] [zi ((zVn L).length : Int)] c s _ _
  rw [hnl, hv]
  refine zX.sn 1 (pc2 := 141) (l2 := [(7, zi (v : Int)), (0, .inr (10, 0)), (1, zi 106), (2, zi me), (3, zi fi), (4, zi (sz : Int)), (5, zi (sp : Int)), (6, zi (gr : Int))]) (st2 := []) rfl ?_
  refine zX.sn 1 (pc2 := 142) (l2 := [(7, zi (v : Int)), (0, .inr (10, 0)), (1, zi 106), (2, zi me), (3, zi fi), (4, zi (sz : Int)), (5, zi (sp : Int)), (6, zi (gr : Int))]) (st2 := [zi 106]) rfl ?_
  refine zX.sn 1 (pc2 := 144) (l2 := [(7, zi (v : Int)), (0, .inr (10, 0)), (1, zi 106), (2, zi me), (3, zi fi), (4, zi (sz : Int)), (5, zi (sp : Int)), (6, zi (gr : Int))]) (st2 := [zi 116, zi 106]) rfl ?_
  refine zX.icmp (tgt := 179) ⟨rfl, rfl⟩ rfl (by omega) (by omega) (fun _ => ?_) (fun (zz : (106 : Int) = 116) => absurd zz (by omega))
  refine zX.sn 1 (pc2 := 180) (l2 := [(7, zi (v : Int)), (0, .inr (10, 0)), (1, zi 106), (2, zi me), (3, zi fi), (4, zi (sz : Int)), (5, zi (sp : Int)), (6, zi (gr : Int))]) (st2 := [zi 106]) rfl ?_
  refine zX.sn 1 (pc2 := 182) (l2 := [(7, zi (v : Int)), (0, .inr (10, 0)), (1, zi 106), (2, zi me), (3, zi fi), (4, zi (sz : Int)), (5, zi (sp : Int)), (6, zi (gr : Int))]) (st2 := [zi 108, zi 106]) rfl ?_
  refine zX.icmp (tgt := 217) ⟨rfl, rfl⟩ rfl (by omega) (by omega) (fun _ => ?_) (fun (zz : (106 : Int) = 108) => absurd zz (by omega))
  refine zX.sn 1 (pc2 := 218) (l2 := [(7, zi (v : Int)), (0, .inr (10, 0)), (1, zi 106), (2, zi me), (3, zi fi), (4, zi (sz : Int)), (5, zi (sp : Int)), (6, zi (gr : Int))]) (st2 := [zi 106]) rfl ?_
  refine zX.sn 1 (pc2 := 220) (l2 := [(7, zi (v : Int)), (0, .inr (10, 0)), (1, zi 106), (2, zi me), (3, zi fi), (4, zi (sz : Int)), (5, zi (sp : Int)), (6, zi (gr : Int))]) (st2 := [zi 115, zi 106]) rfl ?_
  refine zX.icmp (tgt := 253) ⟨rfl, rfl⟩ rfl (by omega) (by omega) (fun _ => ?_) (fun (zz : (106 : Int) = 115) => absurd zz (by omega))
  refine zX.sn 1 (pc2 := 254) (l2 := [(7, zi (v : Int)), (0, .inr (10, 0)), (1, zi 106), (2, zi me), (3, zi fi), (4, zi (sz : Int)), (5, zi (sp : Int)), (6, zi (gr : Int))]) (st2 := [zi 106]) rfl ?_
  refine zX.sn 1 (pc2 := 256) (l2 := [(7, zi (v : Int)), (0, .inr (10, 0)), (1, zi 106), (2, zi me), (3, zi fi), (4, zi (sz : Int)), (5, zi (sp : Int)), (6, zi (gr : Int))]) (st2 := [zi 106, zi 106]) rfl ?_
  refine zX.icmp (tgt := 288) ⟨rfl, rfl⟩ rfl (by omega) (by omega) (fun (zz : ¬ (106 : Int) = 106) => absurd zz (by omega)) (fun _ => ?_)
  refine zX.sn 1 (pc2 := 260) (l2 := [(7, zi (v : Int)), (0, .inr (10, 0)), (1, zi 106), (2, zi me), (3, zi fi), (4, zi (sz : Int)), (5, zi (sp : Int)), (6, zi (gr : Int))]) (st2 := [.inr (10, 0)]) rfl ?_
  refine zX.getf ⟨rfl, rfl⟩ hf rfl rfl ?_
  refine zX.new (20, v) ⟨rfl, rfl⟩ (hF 20 v (by omega) (by omega) (by omega)) (by omega) ?_
  show zX _ 103 266 [(7, zi (v : Int)), (0, .inr (10, 0)), (1, zi 106), (2, zi me), (3, zi fi), (4, zi (sz : Int)), (5, zi (sp : Int)), (6, zi (gr : Int))] [.inr (20, v), .inr (13, 0)] (c + 1) (s + 11) (xup h (20, v) (.inl (2, [zi 0, zi 0, zi 0, zi 0, zi 0, .inl .null, .inl .null, .inl .null, .inl .null, zi 0, .inl .null]))) _
  generalize hh1 : xup h (20, v) (.inl (2, [zi 0, zi 0, zi 0, zi 0, zi 0, .inl .null, .inl .null, .inl .null, .inl .null, zi 0, .inl .null])) = h1
  have hs1 : h1 (20, v) = some (.inl (2, [zi 0, zi 0, zi 0, zi 0, zi 0, .inl .null, .inl .null, .inl .null, .inl .null, zi 0, .inl .null])) := by
    rw [← hh1]
    exact zup_s
  have hn1 : ∀ a b : Nat, ¬ (a = 20 ∧ b = v) → h1 (a, b) = h (a, b) := fun a b hn => by
    rw [← hh1]
    exact zup_n (zn (by omega)) rfl
  have hv5 : v < 5 := by omega
  have hOut1 : zOut h1 N out := hV.1.fr (fun a b z => hn1 a b (by omega))
  have hemp1 := (hn1 0 1 (by omega)).trans hemp
  have hf1 := (hn1 10 0 (by omega)).trans hf
  have hF1 : ∀ a b : Nat, 20 ≤ a → a < 60 → (a ≠ 20 ∨ b ≠ v) → (b % 8 = v → h1 (a, b) = none) := fun a b z1 z2 z3 z4 => (hn1 a b (by omega)).trans (hF a b z1 z2 z4)
  refine zX.sn 1 (pc2 := 267) (l2 := [(7, zi (v : Int)), (0, .inr (10, 0)), (1, zi 106), (2, zi me), (3, zi fi), (4, zi (sz : Int)), (5, zi (sp : Int)), (6, zi (gr : Int))]) (st2 := [.inr (20, v), .inr (20, v), .inr (13, 0)]) rfl ?_
  refine zX.sn 1 (pc2 := 269) (l2 := [(7, zi (v : Int)), (0, .inr (10, 0)), (1, zi 106), (2, zi me), (3, zi fi), (4, zi (sz : Int)), (5, zi (sp : Int)), (6, zi (gr : Int))]) (st2 := [zi (v : Int), .inr (20, v), .inr (20, v), .inr (13, 0)]) rfl ?_
  refine zX.sn 1 (pc2 := 270) (l2 := [(7, zi (v : Int)), (0, .inr (10, 0)), (1, zi 106), (2, zi me), (3, zi fi), (4, zi (sz : Int)), (5, zi (sp : Int)), (6, zi (gr : Int))]) (st2 := [zi fi, zi (v : Int), .inr (20, v), .inr (20, v), .inr (13, 0)]) rfl ?_
  refine zX.sn 1 (pc2 := 272) (l2 := [(7, zi (v : Int)), (0, .inr (10, 0)), (1, zi 106), (2, zi me), (3, zi fi), (4, zi (sz : Int)), (5, zi (sp : Int)), (6, zi (gr : Int))]) (st2 := [zi (sz : Int), zi fi, zi (v : Int), .inr (20, v), .inr (20, v), .inr (13, 0)]) rfl ?_
  refine zX.sn 1 (pc2 := 274) (l2 := [(7, zi (v : Int)), (0, .inr (10, 0)), (1, zi 106), (2, zi me), (3, zi fi), (4, zi (sz : Int)), (5, zi (sp : Int)), (6, zi (gr : Int))]) (st2 := [zi (gr : Int), zi (sz : Int), zi fi, zi (v : Int), .inr (20, v), .inr (20, v), .inr (13, 0)]) rfl ?_
  refine zX.sn 1 (pc2 := 275) (l2 := [(7, zi (v : Int)), (0, .inr (10, 0)), (1, zi 106), (2, zi me), (3, zi fi), (4, zi (sz : Int)), (5, zi (sp : Int)), (6, zi (gr : Int))]) (st2 := [.inr (10, 0), zi (gr : Int), zi (sz : Int), zi fi, zi (v : Int), .inr (20, v), .inr (20, v), .inr (13, 0)]) rfl ?_
  refine zX.getf ⟨rfl, rfl⟩ hf1 rfl rfl ?_
  refine zX.call (mid2 := 2) (as := [.inr (20, v), zi (v : Int), zi fi, zi (sz : Int), zi (gr : Int), .inr (2, 0)]) (rest := [.inr (20, v), .inr (13, 0)]) ⟨rfl, rfl⟩ (fun _ => rfl) rfl ⟨Nat.le_of_ble_eq_true rfl, Nat.le_of_ble_eq_true rfl⟩ ?_
  refine s_joiInit (d := d + 5) (me := me) (sp := sp) (sz := sz) hv5 hfi hsz hgr hemp1 hOut1 hs1 hF1 (fun h2 a1 a2 => ?_)
  show zX _ 103 281 [(7, zi (v : Int)), (0, .inr (10, 0)), (1, zi 106), (2, zi me), (3, zi fi), (4, zi (sz : Int)), (5, zi (sp : Int)), (6, zi (gr : Int))] [.inr (20, v), .inr (13, 0)] _ _ _ _
  have hn2 : ∀ a b : Nat, ¬ (20 ≤ a ∧ a < 60 ∧ b % 8 = v) → h2 (a, b) = h (a, b) := fun a b hn => (a2 a b hn).trans (hn1 a b (by omega))
  have hA2 : zAL h2 13 0 capv (zVn L) := hA.fr (fun a b z => hn2 a b (by omega))
  have hE2 : zEl h2 13 (zVn L) := fun x hx => by
    obtain ⟨i, hi, rfl⟩ := List.mem_map.mp hx
    have hi := List.mem_range.mp hi
    obtain ⟨fs2, hob, hci⟩ := (hV.2.2 i L[i].1 L[i].2 (List.getElem?_eq_getElem hi)).ob
    exact ⟨by dsimp only; omega, L[i].1.1, fs2, (hn2 20 i (by omega)).trans hob, by rcases hci with z | z | z | z <;> (rw [z]; rfl)⟩
  obtain ⟨fs3, hob3, -⟩ := a1.ob
  refine zX.call (mid2 := 155) (as := [.inr (13, 0), .inr (20, v)]) (rest := []) ⟨rfl, rfl⟩ (fun _ => rfl) (zX.invA rfl hA2 rfl rfl) ⟨Nat.le_of_ble_eq_true rfl, Nat.le_of_ble_eq_true rfl⟩ ?_
  refine s_add (d := d + 2) (x := (20, v)) (by omega) (by omega) hA2 (by omega) hE2 (by dsimp only; omega) hob3 rfl (fun h3 cap3 c3 s3 d1 d2 d3 => ?_)
  show zX _ 103 284 [(7, zi (v : Int)), (0, .inr (10, 0)), (1, zi 106), (2, zi me), (3, zi fi), (4, zi (sz : Int)), (5, zi (sp : Int)), (6, zi (gr : Int))] [zi 1] c3 s3 _ _
  refine zX.sn 1 (pc2 := 285) (l2 := [(7, zi (v : Int)), (0, .inr (10, 0)), (1, zi 106), (2, zi me), (3, zi fi), (4, zi (sz : Int)), (5, zi (sp : Int)), (6, zi (gr : Int))]) (st2 := []) rfl ?_
  refine zX.sn 1 (pc2 := 314) (l2 := [(7, zi (v : Int)), (0, .inr (10, 0)), (1, zi 106), (2, zi me), (3, zi fi), (4, zi (sz : Int)), (5, zi (sp : Int)), (6, zi (gr : Int))]) (st2 := []) rfl ?_
  refine zX.sn 1 (pc2 := 316) (l2 := [(7, zi (v : Int)), (0, .inr (10, 0)), (1, zi 106), (2, zi me), (3, zi fi), (4, zi (sz : Int)), (5, zi (sp : Int)), (6, zi (gr : Int))]) (st2 := [zi (v : Int)]) rfl ?_
  refine zX.ret rfl rfl ?_
  refine q h3 cap3 c3 s3 ?_ (by rw [zVn_add, hv]; exact d1) (fun a b hn => (d2 a b (by omega)).trans (hn2 a b (by omega))) ⟨d3.1, by have := d3.2.1; omega, by have := d3.2.2; omega⟩
  refine ⟨hV.1.fr (fun a b z => (d2 a b (by omega)).trans (hn2 a b (by omega))), ⟨by rw [List.length_append]; show _ + 1 ≤ 5; omega, fun j hj => hV.2.1.2 j (by rw [List.length_append] at hj; omega)⟩, fun i C S hi => ?_⟩
  have hO3 : zOut h3 N out := hV.1.fr (fun a b z => (d2 a b (by omega)).trans (hn2 a b (by omega)))
  by_cases hiv : i < L.length
  · rw [List.getElem?_append_left hiv] at hi
    exact (hV.2.2 i C S hi).mv (by omega) hO3 (fun a b z => (d2 a b (by omega)).trans (hn2 a b (by omega)))
  · rw [List.getElem?_append_right (by omega)] at hi
    have hi0 : i - L.length = 0 := by
      have := (List.getElem?_eq_some_iff.mp hi).1
      simp only [List.length_singleton] at this
      omega
    rw [hi0] at hi
    cases hi
    obtain rfl : i = v := by omega
    rw [hV.2.1.2 i (by omega)]
    exact a1.mv (by omega) hO3 (fun a b z => d2 a b (by omega))
set_option maxHeartbeats 4000000 in
theorem s_addV {c s v sz sp gr pr cu pj cj capv N : Nat} {uw : Bool} {L : zVL} {out : List Int64} {K : zKp} {h : xH} {g : Nat → xV} {me fi : Int} (hme : me = 99 ∨ me = 115 ∨ me = 109) (hfi : fi = 97 ∨ fi = 101 ∨ fi = 112) (hsz : 1 ≤ sz ∧ sz ≤ 200) (hgr : gr ≤ 200)  (hv : L.length = v) (hl : v < 5) (hemp : h (0, 1) = some (.inr (4, 0, g))) (hf : h (10, 0) = some (.inl (10, zFn (zFf false false uw pr cu pj cj)))) (hA : zAL h 13 0 capv (zVn L)) (hV : zVa h N K L out) (hF : ∀ a b : Nat, 20 ≤ a → a < 60 → b % 8 = v → h (a, b) = none)
    (q : ∀ h1 cap1 c1 s1, zVa h1 N K (L ++ [((8, fi, sz, gr, me, sp), zS0)]) out → zAL h1 13 0 cap1 (zVn (L ++ [((8, fi, sz, gr, me, sp), zS0)])) → (∀ a b : Nat, ¬ (20 ≤ a ∧ a < 60 ∧ b % 8 = v ∨ 13 ≤ a ∧ a < 15) → h1 (a, b) = h (a, b)) → capv ≤ cap1 ∧ c1 + capv ≤ c + cap1 + 30 ∧ s1 + 4 * capv ≤ s + 4 * cap1 + 80000 → Q (.inl (some (zi (v : Int)))) c1 s1 h1) : zX (d + 9) 103 0 [(0, .inr (10, 0)), (1, zi 118), (2, zi me), (3, zi fi), (4, zi (sz : Int)), (5, zi (sp : Int)), (6, zi (gr : Int))] [] c s h Q := by
  have hch : (118 : Int) = 116 ∨ (118 : Int) = 108 ∨ (118 : Int) = 115 ∨ (118 : Int) = 106 ∨ (118 : Int) = 118 := by omega
  have hnl : (zVn L).length = L.length := zVn_len
  refine zX.sn 1 (pc2 := 1) (l2 := [(0, .inr (10, 0)), (1, zi 118), (2, zi me), (3, zi fi), (4, zi (sz : Int)), (5, zi (sp : Int)), (6, zi (gr : Int))]) (st2 := [zi 118]) rfl ?_
  refine zX.call (mid2 := 134) (as := [zi 118]) (rest := []) ⟨rfl, rfl⟩ (fun _ => rfl) rfl ⟨Nat.le_of_ble_eq_true rfl, Nat.le_of_ble_eq_true rfl⟩ ?_
  refine s_isKind hch ?_
  show zX _ 103 4 [(0, .inr (10, 0)), (1, zi 118), (2, zi me), (3, zi fi), (4, zi (sz : Int)), (5, zi (sp : Int)), (6, zi (gr : Int))] [zi 1] c s _ _
  refine zX.icmp0 (x := 1) (tgt := 21) ⟨rfl, rfl⟩ rfl (by omega) (fun (zz : (1 : Int) = 0) => absurd zz (by omega)) (fun _ => ?_)
  refine zX.sn 1 (pc2 := 8) (l2 := [(0, .inr (10, 0)), (1, zi 118), (2, zi me), (3, zi fi), (4, zi (sz : Int)), (5, zi (sp : Int)), (6, zi (gr : Int))]) (st2 := [zi me]) rfl ?_
  refine zX.call (mid2 := 135) (as := [zi me]) (rest := []) ⟨rfl, rfl⟩ (fun _ => rfl) rfl ⟨Nat.le_of_ble_eq_true rfl, Nat.le_of_ble_eq_true rfl⟩ ?_
  refine s_isMeas hme ?_
  show zX _ 103 11 [(0, .inr (10, 0)), (1, zi 118), (2, zi me), (3, zi fi), (4, zi (sz : Int)), (5, zi (sp : Int)), (6, zi (gr : Int))] [zi 1] c s _ _
  refine zX.icmp0 (x := 1) (tgt := 21) ⟨rfl, rfl⟩ rfl (by omega) (fun (zz : (1 : Int) = 0) => absurd zz (by omega)) (fun _ => ?_)
  refine zX.sn 1 (pc2 := 15) (l2 := [(0, .inr (10, 0)), (1, zi 118), (2, zi me), (3, zi fi), (4, zi (sz : Int)), (5, zi (sp : Int)), (6, zi (gr : Int))]) (st2 := [zi fi]) rfl ?_
  refine zX.call (mid2 := 136) (as := [zi fi]) (rest := []) ⟨rfl, rfl⟩ (fun _ => rfl) rfl ⟨Nat.le_of_ble_eq_true rfl, Nat.le_of_ble_eq_true rfl⟩ ?_
  refine s_isFilt hfi ?_
  show zX _ 103 18 [(0, .inr (10, 0)), (1, zi 118), (2, zi me), (3, zi fi), (4, zi (sz : Int)), (5, zi (sp : Int)), (6, zi (gr : Int))] [zi 1] c s _ _
  refine zX.icmp0 (x := 1) (tgt := 31) ⟨rfl, rfl⟩ rfl (by omega) (fun _ => ?_) (fun (zz : (1 : Int) = 0) => absurd zz (by omega))
  refine zX.sn 1 (pc2 := 33) (l2 := [(0, .inr (10, 0)), (1, zi 118), (2, zi me), (3, zi fi), (4, zi (sz : Int)), (5, zi (sp : Int)), (6, zi (gr : Int))]) (st2 := [zi (sz : Int)]) rfl ?_
  refine zX.sn 1 (pc2 := 34) (l2 := [(0, .inr (10, 0)), (1, zi 118), (2, zi me), (3, zi fi), (4, zi (sz : Int)), (5, zi (sp : Int)), (6, zi (gr : Int))]) (st2 := [zi 1, zi (sz : Int)]) rfl ?_
  refine zX.icmp (tgt := 58) ⟨rfl, rfl⟩ rfl (by omega) (by omega) (fun (zz : (sz : Int) < 1) => absurd zz (by omega)) (fun _ => ?_)
  refine zX.sn 1 (pc2 := 39) (l2 := [(0, .inr (10, 0)), (1, zi 118), (2, zi me), (3, zi fi), (4, zi (sz : Int)), (5, zi (sp : Int)), (6, zi (gr : Int))]) (st2 := [zi (sz : Int)]) rfl ?_
  refine zX.sn 1 (pc2 := 42) (l2 := [(0, .inr (10, 0)), (1, zi 118), (2, zi me), (3, zi fi), (4, zi (sz : Int)), (5, zi (sp : Int)), (6, zi (gr : Int))]) (st2 := [zi 200, zi (sz : Int)]) rfl ?_
  refine zX.icmp (tgt := 58) ⟨rfl, rfl⟩ rfl (by omega) (by omega) (fun (zz : 200 < (sz : Int)) => absurd zz (by omega)) (fun _ => ?_)
  refine zX.sn 1 (pc2 := 47) (l2 := [(0, .inr (10, 0)), (1, zi 118), (2, zi me), (3, zi fi), (4, zi (sz : Int)), (5, zi (sp : Int)), (6, zi (gr : Int))]) (st2 := [zi (gr : Int)]) rfl ?_
  refine zX.icmp0 (tgt := 58) ⟨rfl, rfl⟩ rfl (by omega) (fun (zz : (gr : Int) < 0) => absurd zz (by omega)) (fun _ => ?_)
  refine zX.sn 1 (pc2 := 52) (l2 := [(0, .inr (10, 0)), (1, zi 118), (2, zi me), (3, zi fi), (4, zi (sz : Int)), (5, zi (sp : Int)), (6, zi (gr : Int))]) (st2 := [zi (gr : Int)]) rfl ?_
  refine zX.sn 1 (pc2 := 55) (l2 := [(0, .inr (10, 0)), (1, zi 118), (2, zi me), (3, zi fi), (4, zi (sz : Int)), (5, zi (sp : Int)), (6, zi (gr : Int))]) (st2 := [zi 200, zi (gr : Int)]) rfl ?_
  refine zX.icmp (tgt := 68) ⟨rfl, rfl⟩ rfl (by omega) (by omega) (fun _ => ?_) (fun (zz : 200 < (gr : Int)) => absurd zz (by omega))
  refine zX.sn 1 (pc2 := 69) (l2 := [(0, .inr (10, 0)), (1, zi 118), (2, zi me), (3, zi fi), (4, zi (sz : Int)), (5, zi (sp : Int)), (6, zi (gr : Int))]) (st2 := [zi 118]) rfl ?_
  refine zX.sn 1 (pc2 := 71) (l2 := [(0, .inr (10, 0)), (1, zi 118), (2, zi me), (3, zi fi), (4, zi (sz : Int)), (5, zi (sp : Int)), (6, zi (gr : Int))]) (st2 := [zi 108, zi 118]) rfl ?_
  refine zX.icmp (tgt := 97) ⟨rfl, rfl⟩ rfl (by omega) (by omega) (fun _ => ?_) (fun (zz : (118 : Int) = 108) => absurd zz (by omega))
  refine zX.sn 1 (pc2 := 98) (l2 := [(0, .inr (10, 0)), (1, zi 118), (2, zi me), (3, zi fi), (4, zi (sz : Int)), (5, zi (sp : Int)), (6, zi (gr : Int))]) (st2 := [.inr (10, 0)]) rfl ?_
  refine zX.getf ⟨rfl, rfl⟩ hf rfl rfl ?_
  refine zX.call (mid2 := 150) (as := [.inr (13, 0)]) (rest := []) ⟨rfl, rfl⟩ (fun _ => rfl) (zX.invA rfl hA rfl rfl) ⟨Nat.le_of_ble_eq_true rfl, Nat.le_of_ble_eq_true rfl⟩ ?_
  refine s_size hA ?_
  show zX _ 103 104 [(0, .inr (10, 0)), (1, zi 118), (2, zi me), (3, zi fi), (4, zi (sz : Int)), (5, zi (sp : Int)), (6, zi (gr : Int))] [zi ((zVn L).length : Int)] c s _ _
  refine zX.sn 1 (pc2 := 105) (l2 := [(0, .inr (10, 0)), (1, zi 118), (2, zi me), (3, zi fi), (4, zi (sz : Int)), (5, zi (sp : Int)), (6, zi (gr : Int))]) (st2 := [zi 5, zi ((zVn L).length : Int)]) rfl ?_
  refine zX.icmp (tgt := 122) ⟨rfl, rfl⟩ rfl (by omega) (by omega) (fun (zz : 5 ≤ ((zVn L).length : Int)) => absurd zz (by omega)) (fun _ => ?_)
  refine zX.sn 1 (pc2 := 109) (l2 := [(0, .inr (10, 0)), (1, zi 118), (2, zi me), (3, zi fi), (4, zi (sz : Int)), (5, zi (sp : Int)), (6, zi (gr : Int))]) (st2 := [.inr (10, 0)]) rfl ?_
  refine zX.getf ⟨rfl, rfl⟩ hf rfl rfl ?_
  show zX _ 103 112 [(0, .inr (10, 0)), (1, zi 118), (2, zi me), (3, zi fi), (4, zi (sz : Int)), (5, zi (sp : Int)), (6, zi (gr : Int))] [zi 0] c s _ _
  refine zX.icmp0 (x := 0) (tgt := 122) ⟨rfl, rfl⟩ rfl (by omega) (fun (zz : ¬ (0 : Int) = 0) => absurd zz (by omega)) (fun _ => ?_)
  refine zX.sn 1 (pc2 := 116) (l2 := [(0, .inr (10, 0)), (1, zi 118), (2, zi me), (3, zi fi), (4, zi (sz : Int)), (5, zi (sp : Int)), (6, zi (gr : Int))]) (st2 := [.inr (10, 0)]) rfl ?_
  refine zX.getf ⟨rfl, rfl⟩ hf rfl rfl ?_
  show zX _ 103 119 [(0, .inr (10, 0)), (1, zi 118), (2, zi me), (3, zi fi), (4, zi (sz : Int)), (5, zi (sp : Int)), (6, zi (gr : Int))] [zi 0] c s _ _
  refine zX.icmp0 (x := 0) (tgt := 132) ⟨rfl, rfl⟩ rfl (by omega) (fun _ => ?_) (fun (zz : ¬ (0 : Int) = 0) => absurd zz (by omega))
  refine zX.sn 1 (pc2 := 133) (l2 := [(0, .inr (10, 0)), (1, zi 118), (2, zi me), (3, zi fi), (4, zi (sz : Int)), (5, zi (sp : Int)), (6, zi (gr : Int))]) (st2 := [.inr (10, 0)]) rfl ?_
  refine zX.getf ⟨rfl, rfl⟩ hf rfl rfl ?_
  refine zX.call (mid2 := 150) (as := [.inr (13, 0)]) (rest := []) ⟨rfl, rfl⟩ (fun _ => rfl) (zX.invA rfl hA rfl rfl) ⟨Nat.le_of_ble_eq_true rfl, Nat.le_of_ble_eq_true rfl⟩ ?_
  refine s_size hA ?_
  show zX _ 103 139 [(0, .inr (10, 0)), (1, zi 118), (2, zi me), (3, zi fi), (4, zi (sz : Int)), (5, zi (sp : Int)), (6, zi (gr : Int))] [zi ((zVn L).length : Int)] c s _ _
  rw [hnl, hv]
  refine zX.sn 1 (pc2 := 141) (l2 := [(7, zi (v : Int)), (0, .inr (10, 0)), (1, zi 118), (2, zi me), (3, zi fi), (4, zi (sz : Int)), (5, zi (sp : Int)), (6, zi (gr : Int))]) (st2 := []) rfl ?_
  refine zX.sn 1 (pc2 := 142) (l2 := [(7, zi (v : Int)), (0, .inr (10, 0)), (1, zi 118), (2, zi me), (3, zi fi), (4, zi (sz : Int)), (5, zi (sp : Int)), (6, zi (gr : Int))]) (st2 := [zi 118]) rfl ?_
  refine zX.sn 1 (pc2 := 144) (l2 := [(7, zi (v : Int)), (0, .inr (10, 0)), (1, zi 118), (2, zi me), (3, zi fi), (4, zi (sz : Int)), (5, zi (sp : Int)), (6, zi (gr : Int))]) (st2 := [zi 116, zi 118]) rfl ?_
  refine zX.icmp (tgt := 179) ⟨rfl, rfl⟩ rfl (by omega) (by omega) (fun _ => ?_) (fun (zz : (118 : Int) = 116) => absurd zz (by omega))
  refine zX.sn 1 (pc2 := 180) (l2 := [(7, zi (v : Int)), (0, .inr (10, 0)), (1, zi 118), (2, zi me), (3, zi fi), (4, zi (sz : Int)), (5, zi (sp : Int)), (6, zi (gr : Int))]) (st2 := [zi 118]) rfl ?_
  refine zX.sn 1 (pc2 := 182) (l2 := [(7, zi (v : Int)), (0, .inr (10, 0)), (1, zi 118), (2, zi me), (3, zi fi), (4, zi (sz : Int)), (5, zi (sp : Int)), (6, zi (gr : Int))]) (st2 := [zi 108, zi 118]) rfl ?_
  refine zX.icmp (tgt := 217) ⟨rfl, rfl⟩ rfl (by omega) (by omega) (fun _ => ?_) (fun (zz : (118 : Int) = 108) => absurd zz (by omega))
  refine zX.sn 1 (pc2 := 218) (l2 := [(7, zi (v : Int)), (0, .inr (10, 0)), (1, zi 118), (2, zi me), (3, zi fi), (4, zi (sz : Int)), (5, zi (sp : Int)), (6, zi (gr : Int))]) (st2 := [zi 118]) rfl ?_
  refine zX.sn 1 (pc2 := 220) (l2 := [(7, zi (v : Int)), (0, .inr (10, 0)), (1, zi 118), (2, zi me), (3, zi fi), (4, zi (sz : Int)), (5, zi (sp : Int)), (6, zi (gr : Int))]) (st2 := [zi 115, zi 118]) rfl ?_
  refine zX.icmp (tgt := 253) ⟨rfl, rfl⟩ rfl (by omega) (by omega) (fun _ => ?_) (fun (zz : (118 : Int) = 115) => absurd zz (by omega))
  refine zX.sn 1 (pc2 := 254) (l2 := [(7, zi (v : Int)), (0, .inr (10, 0)), (1, zi 118), (2, zi me), (3, zi fi), (4, zi (sz : Int)), (5, zi (sp : Int)), (6, zi (gr : Int))]) (st2 := [zi 118]) rfl ?_
  refine zX.sn 1 (pc2 := 256) (l2 := [(7, zi (v : Int)), (0, .inr (10, 0)), (1, zi 118), (2, zi me), (3, zi fi), (4, zi (sz : Int)), (5, zi (sp : Int)), (6, zi (gr : Int))]) (st2 := [zi 106, zi 118]) rfl ?_
  refine zX.icmp (tgt := 288) ⟨rfl, rfl⟩ rfl (by omega) (by omega) (fun _ => ?_) (fun (zz : (118 : Int) = 106) => absurd zz (by omega))
  refine zX.sn 1 (pc2 := 289) (l2 := [(7, zi (v : Int)), (0, .inr (10, 0)), (1, zi 118), (2, zi me), (3, zi fi), (4, zi (sz : Int)), (5, zi (sp : Int)), (6, zi (gr : Int))]) (st2 := [.inr (10, 0)]) rfl ?_
  refine zX.getf ⟨rfl, rfl⟩ hf rfl rfl ?_
  refine zX.new (20, v) ⟨rfl, rfl⟩ (hF 20 v (by omega) (by omega) (by omega)) (by omega) ?_
  show zX _ 103 295 [(7, zi (v : Int)), (0, .inr (10, 0)), (1, zi 118), (2, zi me), (3, zi fi), (4, zi (sz : Int)), (5, zi (sp : Int)), (6, zi (gr : Int))] [.inr (20, v), .inr (13, 0)] (c + 1) (s + 13) (xup h (20, v) (.inl (8, [zi 0, zi 0, zi 0, zi 0, zi 0, .inl .null, .inl .null, .inl .null, .inl .null, zi 0, .inl .null, .inl .null, .inl .null]))) _
  generalize hh1 : xup h (20, v) (.inl (8, [zi 0, zi 0, zi 0, zi 0, zi 0, .inl .null, .inl .null, .inl .null, .inl .null, zi 0, .inl .null, .inl .null, .inl .null])) = h1
  have hs1 : h1 (20, v) = some (.inl (8, [zi 0, zi 0, zi 0, zi 0, zi 0, .inl .null, .inl .null, .inl .null, .inl .null, zi 0, .inl .null, .inl .null, .inl .null])) := by
    rw [← hh1]
    exact zup_s
  have hn1 : ∀ a b : Nat, ¬ (a = 20 ∧ b = v) → h1 (a, b) = h (a, b) := fun a b hn => by
    rw [← hh1]
    exact zup_n (zn (by omega)) rfl
  have hv5 : v < 5 := by omega
  have hOut1 : zOut h1 N out := hV.1.fr (fun a b z => hn1 a b (by omega))
  have hemp1 := (hn1 0 1 (by omega)).trans hemp
  have hf1 := (hn1 10 0 (by omega)).trans hf
  have hF1 : ∀ a b : Nat, 20 ≤ a → a < 60 → (a ≠ 20 ∨ b ≠ v) → (b % 8 = v → h1 (a, b) = none) := fun a b z1 z2 z3 z4 => (hn1 a b (by omega)).trans (hF a b z1 z2 z4)
  refine zX.sn 1 (pc2 := 296) (l2 := [(7, zi (v : Int)), (0, .inr (10, 0)), (1, zi 118), (2, zi me), (3, zi fi), (4, zi (sz : Int)), (5, zi (sp : Int)), (6, zi (gr : Int))]) (st2 := [.inr (20, v), .inr (20, v), .inr (13, 0)]) rfl ?_
  refine zX.sn 1 (pc2 := 298) (l2 := [(7, zi (v : Int)), (0, .inr (10, 0)), (1, zi 118), (2, zi me), (3, zi fi), (4, zi (sz : Int)), (5, zi (sp : Int)), (6, zi (gr : Int))]) (st2 := [zi (v : Int), .inr (20, v), .inr (20, v), .inr (13, 0)]) rfl ?_
  refine zX.sn 1 (pc2 := 299) (l2 := [(7, zi (v : Int)), (0, .inr (10, 0)), (1, zi 118), (2, zi me), (3, zi fi), (4, zi (sz : Int)), (5, zi (sp : Int)), (6, zi (gr : Int))]) (st2 := [zi fi, zi (v : Int), .inr (20, v), .inr (20, v), .inr (13, 0)]) rfl ?_
  refine zX.sn 1 (pc2 := 301) (l2 := [(7, zi (v : Int)), (0, .inr (10, 0)), (1, zi 118), (2, zi me), (3, zi fi), (4, zi (sz : Int)), (5, zi (sp : Int)), (6, zi (gr : Int))]) (st2 := [zi (sz : Int), zi fi, zi (v : Int), .inr (20, v), .inr (20, v), .inr (13, 0)]) rfl ?_
  refine zX.sn 1 (pc2 := 303) (l2 := [(7, zi (v : Int)), (0, .inr (10, 0)), (1, zi 118), (2, zi me), (3, zi fi), (4, zi (sz : Int)), (5, zi (sp : Int)), (6, zi (gr : Int))]) (st2 := [zi (gr : Int), zi (sz : Int), zi fi, zi (v : Int), .inr (20, v), .inr (20, v), .inr (13, 0)]) rfl ?_
  refine zX.sn 1 (pc2 := 304) (l2 := [(7, zi (v : Int)), (0, .inr (10, 0)), (1, zi 118), (2, zi me), (3, zi fi), (4, zi (sz : Int)), (5, zi (sp : Int)), (6, zi (gr : Int))]) (st2 := [.inr (10, 0), zi (gr : Int), zi (sz : Int), zi fi, zi (v : Int), .inr (20, v), .inr (20, v), .inr (13, 0)]) rfl ?_
  refine zX.getf ⟨rfl, rfl⟩ hf1 rfl rfl ?_
  refine zX.call (mid2 := 60) (as := [.inr (20, v), zi (v : Int), zi fi, zi (sz : Int), zi (gr : Int), .inr (2, 0)]) (rest := [.inr (20, v), .inr (13, 0)]) ⟨rfl, rfl⟩ (fun _ => rfl) rfl ⟨Nat.le_of_ble_eq_true rfl, Nat.le_of_ble_eq_true rfl⟩ ?_
  refine s_verInit (d := d + 5) (me := me) (sp := sp) (sz := sz) hv5 hfi hsz hgr hemp1 hOut1 hs1 hF1 (fun h2 a1 a2 => ?_)
  show zX _ 103 310 [(7, zi (v : Int)), (0, .inr (10, 0)), (1, zi 118), (2, zi me), (3, zi fi), (4, zi (sz : Int)), (5, zi (sp : Int)), (6, zi (gr : Int))] [.inr (20, v), .inr (13, 0)] _ _ _ _
  have hn2 : ∀ a b : Nat, ¬ (20 ≤ a ∧ a < 60 ∧ b % 8 = v) → h2 (a, b) = h (a, b) := fun a b hn => (a2 a b hn).trans (hn1 a b (by omega))
  have hA2 : zAL h2 13 0 capv (zVn L) := hA.fr (fun a b z => hn2 a b (by omega))
  have hE2 : zEl h2 13 (zVn L) := fun x hx => by
    obtain ⟨i, hi, rfl⟩ := List.mem_map.mp hx
    have hi := List.mem_range.mp hi
    obtain ⟨fs2, hob, hci⟩ := (hV.2.2 i L[i].1 L[i].2 (List.getElem?_eq_getElem hi)).ob
    exact ⟨by dsimp only; omega, L[i].1.1, fs2, (hn2 20 i (by omega)).trans hob, by rcases hci with z | z | z | z <;> (rw [z]; rfl)⟩
  obtain ⟨fs3, hob3, -⟩ := a1.ob
  refine zX.call (mid2 := 155) (as := [.inr (13, 0), .inr (20, v)]) (rest := []) ⟨rfl, rfl⟩ (fun _ => rfl) (zX.invA rfl hA2 rfl rfl) ⟨Nat.le_of_ble_eq_true rfl, Nat.le_of_ble_eq_true rfl⟩ ?_
  refine s_add (d := d + 2) (x := (20, v)) (by omega) (by omega) hA2 (by omega) hE2 (by dsimp only; omega) hob3 rfl (fun h3 cap3 c3 s3 d1 d2 d3 => ?_)
  show zX _ 103 313 [(7, zi (v : Int)), (0, .inr (10, 0)), (1, zi 118), (2, zi me), (3, zi fi), (4, zi (sz : Int)), (5, zi (sp : Int)), (6, zi (gr : Int))] [zi 1] c3 s3 _ _
  refine zX.sn 1 (pc2 := 314) (l2 := [(7, zi (v : Int)), (0, .inr (10, 0)), (1, zi 118), (2, zi me), (3, zi fi), (4, zi (sz : Int)), (5, zi (sp : Int)), (6, zi (gr : Int))]) (st2 := []) rfl ?_
  refine zX.sn 1 (pc2 := 316) (l2 := [(7, zi (v : Int)), (0, .inr (10, 0)), (1, zi 118), (2, zi me), (3, zi fi), (4, zi (sz : Int)), (5, zi (sp : Int)), (6, zi (gr : Int))]) (st2 := [zi (v : Int)]) rfl ?_
  refine zX.ret rfl rfl ?_
  refine q h3 cap3 c3 s3 ?_ (by rw [zVn_add, hv]; exact d1) (fun a b hn => (d2 a b (by omega)).trans (hn2 a b (by omega))) ⟨d3.1, by have := d3.2.1; omega, by have := d3.2.2; omega⟩
  refine ⟨hV.1.fr (fun a b z => (d2 a b (by omega)).trans (hn2 a b (by omega))), ⟨by rw [List.length_append]; show _ + 1 ≤ 5; omega, fun j hj => hV.2.1.2 j (by rw [List.length_append] at hj; omega)⟩, fun i C S hi => ?_⟩
  have hO3 : zOut h3 N out := hV.1.fr (fun a b z => (d2 a b (by omega)).trans (hn2 a b (by omega)))
  by_cases hiv : i < L.length
  · rw [List.getElem?_append_left hiv] at hi
    exact (hV.2.2 i C S hi).mv (by omega) hO3 (fun a b z => (d2 a b (by omega)).trans (hn2 a b (by omega)))
  · rw [List.getElem?_append_right (by omega)] at hi
    have hi0 : i - L.length = 0 := by
      have := (List.getElem?_eq_some_iff.mp hi).1
      simp only [List.length_singleton] at this
      omega
    rw [hi0] at hi
    cases hi
    obtain rfl : i = v := by omega
    rw [hV.2.1.2 i (by omega)]
    exact a1.mv (by omega) hO3 (fun a b z => d2 a b (by omega))
end YD9l
