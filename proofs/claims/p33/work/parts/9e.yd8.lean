set_option maxRecDepth 100000
section YD9e
theorem zXK.thr {P : xPr} {ct : zCt} {d mid pc : Nat} {l : xL} {rest : List xV} {c s : Nat} {h : xH} {Q : xR → Nat → Nat → xH → Prop} {E : String} (hh : P.2.2.2 mid pc E = none) (hz : (P.2.1 mid).2.2.2.2 = []) (q : Q (.inr E) c s h) : zXK P ct d mid pc l rest Q (.inr E) c s h := by
  unfold zXK
  dsimp only
  rw [hh]
  exact ⟨hz, q⟩
theorem zXK.han {P : xPr} {ct : zCt} {d mid pc : Nat} {l : xL} {rest : List xV} {c s : Nat} {h : xH} {Q : xR → Nat → Nat → xH → Prop} {E : String} {z : Nat × Nat × Nat} (hh : P.2.2.2 mid pc E = some z) (q : zXc P ct d mid (z.1 + z.2.1) (xrm l z.2.2) [] c s h Q) : zXK P ct d mid pc l rest Q (.inr E) c s h := by
  unfold zXK
  dsimp only
  rw [hh]
  exact q
variable {d : Nat} {Q : xR → Nat → Nat → xH → Prop}
theorem t_part {c s : Nat} {h : xH} {p : Nat} {fs : List xV} {P : Nat → zPT} (hp : 3 ≤ p) (hp4 : p < 100) (hf : h (10, 0) = some (.inl (10, zFn fs))) (hP : zPs h P) (q : Q (.inr "java/lang/IllegalArgumentException") (c + 1) (s + 6) h) : zX (d + 8) 129 0 [(0, .inr (10, 0)), (1, zi (p : Int))] [] c s h Q := by
  obtain ⟨cap, hA⟩ := hP.1
  refine zX.sn 1 (pc2 := 1) (l2 := [(0, .inr (10, 0)), (1, zi (p : Int))]) (st2 := [zi (p : Int)]) rfl ?_
  refine zX.icmp0 (tgt := 15) ⟨rfl, rfl⟩ rfl (by omega) (fun (zz : (p : Int) < 0) => absurd zz (by omega)) (fun _ => ?_)
  refine zX.sn 1 (pc2 := 5) (l2 := [(0, .inr (10, 0)), (1, zi (p : Int))]) (st2 := [zi (p : Int)]) rfl ?_
  refine zX.sn 1 (pc2 := 6) (l2 := [(0, .inr (10, 0)), (1, zi (p : Int))]) (st2 := [.inr (10, 0), zi (p : Int)]) rfl ?_
  refine zX.getf ⟨rfl, rfl⟩ hf rfl rfl ?_
  refine zX.call (mid2 := 150) (as := [.inr (11, 0)]) (rest := [zi (p : Int)]) ⟨rfl, rfl⟩ (fun _ => rfl) (zX.invA rfl hA rfl rfl) ⟨Nat.le_of_ble_eq_true rfl, Nat.le_of_ble_eq_true rfl⟩ ?_
  refine s_size hA ?_
  show zX _ 129 12 [(0, .inr (10, 0)), (1, zi (p : Int))] [zi 3, zi (p : Int)] c s _ _
  refine zX.icmp (tgt := 26) ⟨rfl, rfl⟩ rfl (by omega) (by omega) (fun (zz : (p : Int) < 3) => absurd zz (by omega)) (fun _ => ?_)
  refine zX.thr (E := "java/lang/IllegalArgumentException") rfl rfl (by omega) (Nat.le_of_ble_eq_true rfl) ?_
  exact q
theorem t_key {c s : Nat} {h : xH} {fs : List xV} {f : Nat → xV} (hf : h (10, 0) = some (.inl (10, zFn fs))) (hw : h (17, 0) = some (.inr (0, 8, f))) (q : Q (.inr "java/lang/IllegalArgumentException") (c + 1) (s + 6) h) : zX (d + 8) 131 0 [(0, .inr (10, 0)), (1, zi 8)] [] c s h Q := by
  have h8 : (8 : Int) = ((8 : Nat) : Int) := rfl
  refine zX.sn 1 (pc2 := 1) (l2 := [(0, .inr (10, 0)), (1, zi 8)]) (st2 := [zi 8]) rfl ?_
  refine zX.icmp0 (x := 8) (tgt := 13) ⟨rfl, rfl⟩ rfl (by omega) (fun (zz : (8 : Int) < 0) => absurd zz (by omega)) (fun _ => ?_)
  refine zX.sn 1 (pc2 := 5) (l2 := [(0, .inr (10, 0)), (1, zi 8)]) (st2 := [zi 8]) rfl ?_
  refine zX.sn 1 (pc2 := 6) (l2 := [(0, .inr (10, 0)), (1, zi 8)]) (st2 := [.inr (10, 0), zi 8]) rfl ?_
  refine zX.getf ⟨rfl, rfl⟩ hf rfl rfl ?_
  refine zX.alen ⟨rfl, rfl⟩ hw ?_
  refine zX.icmp (tgt := 24) ⟨rfl, rfl⟩ rfl (by omega) (by omega) (fun (zz : 8 < ((8 : Nat) : Int)) => absurd zz (by omega)) (fun _ => ?_)
  refine zX.thr (E := "java/lang/IllegalArgumentException") rfl rfl (by omega) (Nat.le_of_ble_eq_true rfl) ?_
  exact q
theorem t_worker {c s : Nat} {h : xH}   (q : Q (.inr "java/lang/IllegalArgumentException") (c + 1) (s + 6) h) : zX (d + 8) 133 0 [(0, .inr (10, 0)), (1, zi 3)] [] c s h Q := by
  refine zX.sn 1 (pc2 := 1) (l2 := [(0, .inr (10, 0)), (1, zi 3)]) (st2 := [zi 3]) rfl ?_
  refine zX.icmp0 (x := 3) (tgt := 9) ⟨rfl, rfl⟩ rfl (by omega) (fun (zz : (3 : Int) < 0) => absurd zz (by omega)) (fun _ => ?_)
  refine zX.sn 1 (pc2 := 5) (l2 := [(0, .inr (10, 0)), (1, zi 3)]) (st2 := [zi 3]) rfl ?_
  refine zX.sn 1 (pc2 := 6) (l2 := [(0, .inr (10, 0)), (1, zi 3)]) (st2 := [zi 3, zi 3]) rfl ?_
  refine zX.icmp (tgt := 20) ⟨rfl, rfl⟩ rfl (by omega) (by omega) (fun (zz : (3 : Int) < 3) => absurd zz (by omega)) (fun _ => ?_)
  refine zX.thr (E := "java/lang/IllegalArgumentException") rfl rfl (by omega) (Nat.le_of_ble_eq_true rfl) ?_
  exact q
theorem t_view {c s : Nat} {h : xH} {i capv : Nat} {fs : List xV} {L : zVL} (hi : L.length ≤ i) (hi2 : i < 100) (hl : L.length ≤ 5) (hf : h (10, 0) = some (.inl (10, zFn fs))) (hA : zAL h 13 0 capv (zVn L)) (q : Q (.inr "java/lang/IndexOutOfBoundsException") (c + 1) (s + 6) h) : zX (d + 8) 130 0 [(0, .inr (10, 0)), (1, zi (i : Int))] [] c s h Q := by
  have hnl : (zVn L).length = L.length := zVn_len
  refine zX.sn 1 (pc2 := 1) (l2 := [(0, .inr (10, 0)), (1, zi (i : Int))]) (st2 := [zi (i : Int)]) rfl ?_
  refine zX.icmp0 (tgt := 15) ⟨rfl, rfl⟩ rfl (by omega) (fun (zz : (i : Int) < 0) => absurd zz (by omega)) (fun _ => ?_)
  refine zX.sn 1 (pc2 := 5) (l2 := [(0, .inr (10, 0)), (1, zi (i : Int))]) (st2 := [zi (i : Int)]) rfl ?_
  refine zX.sn 1 (pc2 := 6) (l2 := [(0, .inr (10, 0)), (1, zi (i : Int))]) (st2 := [.inr (10, 0), zi (i : Int)]) rfl ?_
  refine zX.getf ⟨rfl, rfl⟩ hf rfl rfl ?_
  refine zX.call (mid2 := 150) (as := [.inr (13, 0)]) (rest := [zi (i : Int)]) ⟨rfl, rfl⟩ (fun _ => rfl) (zX.invA rfl hA rfl rfl) ⟨Nat.le_of_ble_eq_true rfl, Nat.le_of_ble_eq_true rfl⟩ ?_
  refine s_size hA ?_
  show zX _ 130 12 [(0, .inr (10, 0)), (1, zi (i : Int))] [zi ((zVn L).length : Int), zi (i : Int)] c s _ _
  refine zX.icmp (tgt := 26) ⟨rfl, rfl⟩ rfl (by omega) (by omega) (fun (zz : (i : Int) < ((zVn L).length : Int)) => absurd zz (by omega)) (fun _ => ?_)
  refine zX.thr (E := "java/lang/IndexOutOfBoundsException") rfl rfl (by omega) (Nat.le_of_ble_eq_true rfl) ?_
  exact q
theorem t_putRowP {c s : Nat} {h : xH} {p : Nat} {x1 x2 x3 : Int} {fs : List xV} {P : Nat → zPT} (hp : 3 ≤ p) (hp4 : p < 100) (hf : h (10, 0) = some (.inl (10, zFn fs))) (hP : zPs h P) (q : Q (.inr "java/lang/IllegalArgumentException") (c + 1) (s + 6) h) : zX (d + 9) 100 0 [(0, .inr (10, 0)), (1, zi (p : Int)), (2, zi x1), (3, zi x2), (4, zi x3)] [] c s h Q := by
  refine zX.sn 1 (pc2 := 1) (l2 := [(0, .inr (10, 0)), (1, zi (p : Int)), (2, zi x1), (3, zi x2), (4, zi x3)]) (st2 := [.inr (10, 0)]) rfl ?_
  refine zX.sn 1 (pc2 := 2) (l2 := [(0, .inr (10, 0)), (1, zi (p : Int)), (2, zi x1), (3, zi x2), (4, zi x3)]) (st2 := [zi (p : Int), .inr (10, 0)]) rfl ?_
  refine zX.call (mid2 := 129) (as := [.inr (10, 0), zi (p : Int)]) (rest := []) ⟨rfl, rfl⟩ (fun _ => rfl) (zX.inv rfl hf rfl rfl) ⟨Nat.le_of_ble_eq_true rfl, Nat.le_of_ble_eq_true rfl⟩ ?_
  refine t_part (d := d) hp hp4 hf hP ?_
  refine zXK.thr rfl rfl ?_
  exact q
theorem t_putMarkP {c s : Nat} {h : xH} {p : Nat} {x1 x2 x3 : Int} {fs : List xV} {P : Nat → zPT} (hp : 3 ≤ p) (hp4 : p < 100) (hf : h (10, 0) = some (.inl (10, zFn fs))) (hP : zPs h P) (q : Q (.inr "java/lang/IllegalArgumentException") (c + 1) (s + 6) h) : zX (d + 9) 101 0 [(0, .inr (10, 0)), (1, zi (p : Int)), (2, zi x1)] [] c s h Q := by
  refine zX.sn 1 (pc2 := 1) (l2 := [(0, .inr (10, 0)), (1, zi (p : Int)), (2, zi x1)]) (st2 := [.inr (10, 0)]) rfl ?_
  refine zX.sn 1 (pc2 := 2) (l2 := [(0, .inr (10, 0)), (1, zi (p : Int)), (2, zi x1)]) (st2 := [zi (p : Int), .inr (10, 0)]) rfl ?_
  refine zX.call (mid2 := 129) (as := [.inr (10, 0), zi (p : Int)]) (rest := []) ⟨rfl, rfl⟩ (fun _ => rfl) (zX.inv rfl hf rfl rfl) ⟨Nat.le_of_ble_eq_true rfl, Nat.le_of_ble_eq_true rfl⟩ ?_
  refine t_part (d := d) hp hp4 hf hP ?_
  refine zXK.thr rfl rfl ?_
  exact q
theorem t_setSlackP {c s : Nat} {h : xH} {p : Nat} {x1 x2 x3 : Int} {fs : List xV} {P : Nat → zPT} (hp : 3 ≤ p) (hp4 : p < 100) (hf : h (10, 0) = some (.inl (10, zFn fs))) (hP : zPs h P) (q : Q (.inr "java/lang/IllegalArgumentException") (c + 1) (s + 6) h) : zX (d + 9) 102 0 [(0, .inr (10, 0)), (1, zi (p : Int)), (2, zi x1)] [] c s h Q := by
  refine zX.sn 1 (pc2 := 1) (l2 := [(0, .inr (10, 0)), (1, zi (p : Int)), (2, zi x1)]) (st2 := [.inr (10, 0)]) rfl ?_
  refine zX.sn 1 (pc2 := 2) (l2 := [(0, .inr (10, 0)), (1, zi (p : Int)), (2, zi x1)]) (st2 := [zi (p : Int), .inr (10, 0)]) rfl ?_
  refine zX.call (mid2 := 129) (as := [.inr (10, 0), zi (p : Int)]) (rest := []) ⟨rfl, rfl⟩ (fun _ => rfl) (zX.inv rfl hf rfl rfl) ⟨Nat.le_of_ble_eq_true rfl, Nat.le_of_ble_eq_true rfl⟩ ?_
  refine t_part (d := d) hp hp4 hf hP ?_
  refine zXK.thr rfl rfl ?_
  exact q
theorem t_readP {c s : Nat} {h : xH} {p : Nat} {x1 x2 x3 : Int} {fs : List xV} {P : Nat → zPT} (hp : 3 ≤ p) (hp4 : p < 100) (hf : h (10, 0) = some (.inl (10, zFn fs))) (hP : zPs h P) (q : Q (.inr "java/lang/IllegalArgumentException") (c + 1) (s + 6) h) : zX (d + 9) 105 0 [(0, .inr (10, 0)), (1, zi (p : Int)), (2, zi x1)] [] c s h Q := by
  refine zX.sn 1 (pc2 := 1) (l2 := [(0, .inr (10, 0)), (1, zi (p : Int)), (2, zi x1)]) (st2 := [.inr (10, 0)]) rfl ?_
  refine zX.sn 1 (pc2 := 2) (l2 := [(0, .inr (10, 0)), (1, zi (p : Int)), (2, zi x1)]) (st2 := [zi (p : Int), .inr (10, 0)]) rfl ?_
  refine zX.call (mid2 := 129) (as := [.inr (10, 0), zi (p : Int)]) (rest := []) ⟨rfl, rfl⟩ (fun _ => rfl) (zX.inv rfl hf rfl rfl) ⟨Nat.le_of_ble_eq_true rfl, Nat.le_of_ble_eq_true rfl⟩ ?_
  refine t_part (d := d) hp hp4 hf hP ?_
  refine zXK.thr rfl rfl ?_
  exact q
theorem t_placeP {c s : Nat} {h : xH} {p : Nat} {x1 x2 x3 : Int} {fs : List xV} {P : Nat → zPT} (hp : 3 ≤ p) (hp4 : p < 100) (hf : h (10, 0) = some (.inl (10, zFn fs))) (hP : zPs h P) (q : Q (.inr "java/lang/IllegalArgumentException") (c + 1) (s + 6) h) : zX (d + 9) 106 0 [(0, .inr (10, 0)), (1, zi (p : Int))] [] c s h Q := by
  refine zX.sn 1 (pc2 := 1) (l2 := [(0, .inr (10, 0)), (1, zi (p : Int))]) (st2 := [.inr (10, 0)]) rfl ?_
  refine zX.sn 1 (pc2 := 2) (l2 := [(0, .inr (10, 0)), (1, zi (p : Int))]) (st2 := [zi (p : Int), .inr (10, 0)]) rfl ?_
  refine zX.call (mid2 := 129) (as := [.inr (10, 0), zi (p : Int)]) (rest := []) ⟨rfl, rfl⟩ (fun _ => rfl) (zX.inv rfl hf rfl rfl) ⟨Nat.le_of_ble_eq_true rfl, Nat.le_of_ble_eq_true rfl⟩ ?_
  refine t_part (d := d) hp hp4 hf hP ?_
  refine zXK.thr rfl rfl ?_
  exact q
theorem t_putRowK {c s : Nat} {h : xH} {p : Nat} {x2 x3 : Int} {fs : List xV} {f : Nat → xV} {P : Nat → zPT} (hp : p < 3) (hf : h (10, 0) = some (.inl (10, zFn fs))) (hP : zPs h P) (hw : h (17, 0) = some (.inr (0, 8, f))) (q : Q (.inr "java/lang/IllegalArgumentException") (c + 1) (s + 6) h) : zX (d + 9) 100 0 [(0, .inr (10, 0)), (1, zi (p : Int)), (2, zi 8), (3, zi x2), (4, zi x3)] [] c s h Q := by
  refine zX.sn 1 (pc2 := 1) (l2 := [(0, .inr (10, 0)), (1, zi (p : Int)), (2, zi 8), (3, zi x2), (4, zi x3)]) (st2 := [.inr (10, 0)]) rfl ?_
  refine zX.sn 1 (pc2 := 2) (l2 := [(0, .inr (10, 0)), (1, zi (p : Int)), (2, zi 8), (3, zi x2), (4, zi x3)]) (st2 := [zi (p : Int), .inr (10, 0)]) rfl ?_
  refine zX.call (mid2 := 129) (as := [.inr (10, 0), zi (p : Int)]) (rest := []) ⟨rfl, rfl⟩ (fun _ => rfl) (zX.inv rfl hf rfl rfl) ⟨Nat.le_of_ble_eq_true rfl, Nat.le_of_ble_eq_true rfl⟩ ?_
  refine s_part1 (d := d + 5) hf hP hp ?_
  show zX _ 100 5 [(0, .inr (10, 0)), (1, zi (p : Int)), (2, zi 8), (3, zi x2), (4, zi x3)] [.inr (5, p)] c s _ _
  refine zX.sn 1 (pc2 := 7) (l2 := [(5, .inr (5, p)), (0, .inr (10, 0)), (1, zi (p : Int)), (2, zi 8), (3, zi x2), (4, zi x3)]) (st2 := []) rfl ?_
  refine zX.sn 1 (pc2 := 8) (l2 := [(5, .inr (5, p)), (0, .inr (10, 0)), (1, zi (p : Int)), (2, zi 8), (3, zi x2), (4, zi x3)]) (st2 := [.inr (10, 0)]) rfl ?_
  refine zX.sn 1 (pc2 := 9) (l2 := [(5, .inr (5, p)), (0, .inr (10, 0)), (1, zi (p : Int)), (2, zi 8), (3, zi x2), (4, zi x3)]) (st2 := [zi 8, .inr (10, 0)]) rfl ?_
  refine zX.call (mid2 := 131) (as := [.inr (10, 0), zi 8]) (rest := []) ⟨rfl, rfl⟩ (fun _ => rfl) (zX.inv rfl hf rfl rfl) ⟨Nat.le_of_ble_eq_true rfl, Nat.le_of_ble_eq_true rfl⟩ ?_
  refine t_key (d := d) hf hw ?_
  refine zXK.thr rfl rfl ?_
  exact q
theorem t_setSlackV {c s : Nat} {h : xH} {p x capv : Nat} {fs : List xV} {L : zVL} {P : Nat → zPT} (hp : p < 3) (hx : x ≤ 99) (hf : h (10, 0) = some (.inl (10, zFn fs))) (hP : zPs h P) (hA : zAL h 13 0 capv (zVn L)) (hne : ¬ zVn L = []) (q : Q (.inr "java/lang/IllegalStateException") (c + 1) (s + 6) h) : zX (d + 9) 102 0 [(0, .inr (10, 0)), (1, zi (p : Int)), (2, zi (x : Int))] [] c s h Q := by
  refine zX.sn 1 (pc2 := 1) (l2 := [(0, .inr (10, 0)), (1, zi (p : Int)), (2, zi (x : Int))]) (st2 := [.inr (10, 0)]) rfl ?_
  refine zX.sn 1 (pc2 := 2) (l2 := [(0, .inr (10, 0)), (1, zi (p : Int)), (2, zi (x : Int))]) (st2 := [zi (p : Int), .inr (10, 0)]) rfl ?_
  refine zX.call (mid2 := 129) (as := [.inr (10, 0), zi (p : Int)]) (rest := []) ⟨rfl, rfl⟩ (fun _ => rfl) (zX.inv rfl hf rfl rfl) ⟨Nat.le_of_ble_eq_true rfl, Nat.le_of_ble_eq_true rfl⟩ ?_
  refine s_part1 (d := d + 5) hf hP hp ?_
  show zX _ 102 5 [(0, .inr (10, 0)), (1, zi (p : Int)), (2, zi (x : Int))] [.inr (5, p)] c s _ _
  refine zX.sn 1 (pc2 := 6) (l2 := [(3, .inr (5, p)), (0, .inr (10, 0)), (1, zi (p : Int)), (2, zi (x : Int))]) (st2 := []) rfl ?_
  refine zX.sn 1 (pc2 := 7) (l2 := [(3, .inr (5, p)), (0, .inr (10, 0)), (1, zi (p : Int)), (2, zi (x : Int))]) (st2 := [zi (x : Int)]) rfl ?_
  refine zX.icmp0 (tgt := 16) ⟨rfl, rfl⟩ rfl (by omega) (fun (zz : (x : Int) < 0) => absurd zz (by omega)) (fun _ => ?_)
  refine zX.sn 1 (pc2 := 11) (l2 := [(3, .inr (5, p)), (0, .inr (10, 0)), (1, zi (p : Int)), (2, zi (x : Int))]) (st2 := [zi (x : Int)]) rfl ?_
  refine zX.sn 1 (pc2 := 13) (l2 := [(3, .inr (5, p)), (0, .inr (10, 0)), (1, zi (p : Int)), (2, zi (x : Int))]) (st2 := [zi 99, zi (x : Int)]) rfl ?_
  refine zX.icmp (tgt := 26) ⟨rfl, rfl⟩ rfl (by omega) (by omega) (fun _ => ?_) (fun (zz : 99 < (x : Int)) => absurd zz (by omega))
  refine zX.sn 1 (pc2 := 27) (l2 := [(3, .inr (5, p)), (0, .inr (10, 0)), (1, zi (p : Int)), (2, zi (x : Int))]) (st2 := [.inr (10, 0)]) rfl ?_
  refine zX.getf ⟨rfl, rfl⟩ hf rfl rfl ?_
  refine zX.call (mid2 := 151) (as := [.inr (13, 0)]) (rest := []) ⟨rfl, rfl⟩ (fun _ => rfl) (zX.invA rfl hA rfl rfl) ⟨Nat.le_of_ble_eq_true rfl, Nat.le_of_ble_eq_true rfl⟩ ?_
  refine s_isEmpty hA (fun hz => ?_) (fun hz => ?_)
  · show zX _ 102 33 [(3, .inr (5, p)), (0, .inr (10, 0)), (1, zi (p : Int)), (2, zi (x : Int))] [zi 0] c s _ _
    refine zX.icmp0 (x := 0) (tgt := 46) ⟨rfl, rfl⟩ rfl (by omega) (fun (zz : ¬ (0 : Int) = 0) => absurd zz (by omega)) (fun _ => ?_)
    refine zX.thr (E := "java/lang/IllegalStateException") rfl rfl (by omega) (Nat.le_of_ble_eq_true rfl) ?_
    exact q
  · exact absurd hz hne
theorem t_read0 {c s : Nat} {h : xH} {p : Nat} {fs : List xV} {P : Nat → zPT} (hp : p < 3) (hf : h (10, 0) = some (.inl (10, zFn fs))) (hP : zPs h P) (q : Q (.inr "java/lang/IllegalArgumentException") (c + 1) (s + 6) h) : zX (d + 9) 105 0 [(0, .inr (10, 0)), (1, zi (p : Int)), (2, zi 0)] [] c s h Q := by
  refine zX.sn 1 (pc2 := 1) (l2 := [(0, .inr (10, 0)), (1, zi (p : Int)), (2, zi 0)]) (st2 := [.inr (10, 0)]) rfl ?_
  refine zX.sn 1 (pc2 := 2) (l2 := [(0, .inr (10, 0)), (1, zi (p : Int)), (2, zi 0)]) (st2 := [zi (p : Int), .inr (10, 0)]) rfl ?_
  refine zX.call (mid2 := 129) (as := [.inr (10, 0), zi (p : Int)]) (rest := []) ⟨rfl, rfl⟩ (fun _ => rfl) (zX.inv rfl hf rfl rfl) ⟨Nat.le_of_ble_eq_true rfl, Nat.le_of_ble_eq_true rfl⟩ ?_
  refine s_part1 (d := d + 5) hf hP hp ?_
  show zX _ 105 5 [(0, .inr (10, 0)), (1, zi (p : Int)), (2, zi 0)] [.inr (5, p)] c s _ _
  refine zX.sn 1 (pc2 := 6) (l2 := [(3, .inr (5, p)), (0, .inr (10, 0)), (1, zi (p : Int)), (2, zi 0)]) (st2 := []) rfl ?_
  refine zX.sn 1 (pc2 := 7) (l2 := [(3, .inr (5, p)), (0, .inr (10, 0)), (1, zi (p : Int)), (2, zi 0)]) (st2 := [zi 0]) rfl ?_
  refine zX.sn 1 (pc2 := 8) (l2 := [(3, .inr (5, p)), (0, .inr (10, 0)), (1, zi (p : Int)), (2, zi 0)]) (st2 := [zi 1, zi 0]) rfl ?_
  refine zX.icmp (tgt := 17) ⟨rfl, rfl⟩ rfl (by omega) (by omega) (fun _ => ?_) (fun (zz : 1 ≤ (0 : Int)) => absurd zz (by omega))
  refine zX.thr (E := "java/lang/IllegalArgumentException") rfl rfl (by omega) (Nat.le_of_ble_eq_true rfl) ?_
  exact q
theorem t_told {c s : Nat} {h : xH} {i capv : Nat} {x1 : Int} {fs : List xV} {L : zVL} (hi : L.length ≤ i) (hi2 : i < 100) (hl : L.length ≤ 5) (hf : h (10, 0) = some (.inl (10, zFn fs))) (hA : zAL h 13 0 capv (zVn L)) (q : Q (.inr "java/lang/IndexOutOfBoundsException") (c + 1) (s + 6) h) : zX (d + 9) 109 0 [(0, .inr (10, 0)), (1, zi (i : Int))] [] c s h Q := by
  refine zX.sn 1 (pc2 := 1) (l2 := [(0, .inr (10, 0)), (1, zi (i : Int))]) (st2 := [.inr (10, 0)]) rfl ?_
  refine zX.sn 1 (pc2 := 2) (l2 := [(0, .inr (10, 0)), (1, zi (i : Int))]) (st2 := [zi (i : Int), .inr (10, 0)]) rfl ?_
  refine zX.call (mid2 := 130) (as := [.inr (10, 0), zi (i : Int)]) (rest := []) ⟨rfl, rfl⟩ (fun _ => rfl) (zX.inv rfl hf rfl rfl) ⟨Nat.le_of_ble_eq_true rfl, Nat.le_of_ble_eq_true rfl⟩ ?_
  refine t_view (d := d) hi hi2 hl hf hA ?_
  refine zXK.thr rfl rfl ?_
  exact q
theorem t_first {c s : Nat} {h : xH} {i capv : Nat} {x1 : Int} {fs : List xV} {L : zVL} (hi : L.length ≤ i) (hi2 : i < 100) (hl : L.length ≤ 5) (hf : h (10, 0) = some (.inl (10, zFn fs))) (hA : zAL h 13 0 capv (zVn L)) (q : Q (.inr "java/lang/IndexOutOfBoundsException") (c + 1) (s + 6) h) : zX (d + 9) 112 0 [(0, .inr (10, 0)), (1, zi (i : Int)), (2, zi x1)] [] c s h Q := by
  refine zX.sn 1 (pc2 := 1) (l2 := [(0, .inr (10, 0)), (1, zi (i : Int)), (2, zi x1)]) (st2 := [.inr (10, 0)]) rfl ?_
  refine zX.sn 1 (pc2 := 2) (l2 := [(0, .inr (10, 0)), (1, zi (i : Int)), (2, zi x1)]) (st2 := [zi (i : Int), .inr (10, 0)]) rfl ?_
  refine zX.call (mid2 := 130) (as := [.inr (10, 0), zi (i : Int)]) (rest := []) ⟨rfl, rfl⟩ (fun _ => rfl) (zX.inv rfl hf rfl rfl) ⟨Nat.le_of_ble_eq_true rfl, Nat.le_of_ble_eq_true rfl⟩ ?_
  refine t_view (d := d) hi hi2 hl hf hA ?_
  refine zXK.thr rfl rfl ?_
  exact q
theorem t_cut {c s : Nat} {h : xH} {pr cu pj cj : Nat} {rd ct : Bool} (hf : h (10, 0) = some (.inl (10, zFn (zFf rd ct true pr cu pj cj)))) (q : Q (.inr "java/lang/IllegalStateException") (c + 1) (s + 6) h) : zX (d + 8) 116 0 [(0, .inr (10, 0))] [] c s h Q := by
  refine zX.sn 1 (pc2 := 1) (l2 := [(0, .inr (10, 0))]) (st2 := [.inr (10, 0)]) rfl ?_
  refine zX.getf ⟨rfl, rfl⟩ hf rfl rfl ?_
  show zX _ 116 4 [(0, .inr (10, 0))] [zi 1] c s _ _
  refine zX.icmp0 (x := 1) (tgt := 17) ⟨rfl, rfl⟩ rfl (by omega) (fun (zz : (1 : Int) = 0) => absurd zz (by omega)) (fun _ => ?_)
  refine zX.thr (E := "java/lang/IllegalStateException") rfl rfl (by omega) (Nat.le_of_ble_eq_true rfl) ?_
  exact q
theorem t_complete {c s : Nat} {h : xH} {pr cu pj cj : Nat} {rd ct : Bool} (hf : h (10, 0) = some (.inl (10, zFn (zFf rd ct false pr cu pj cj)))) (q : Q (.inr "java/lang/IllegalStateException") (c + 1) (s + 6) h) : zX (d + 8) 117 0 [(0, .inr (10, 0))] [] c s h Q := by
  refine zX.sn 1 (pc2 := 1) (l2 := [(0, .inr (10, 0))]) (st2 := [.inr (10, 0)]) rfl ?_
  refine zX.getf ⟨rfl, rfl⟩ hf rfl rfl ?_
  show zX _ 117 4 [(0, .inr (10, 0))] [zi 0] c s _ _
  refine zX.icmp0 (x := 0) (tgt := 17) ⟨rfl, rfl⟩ rfl (by omega) (fun (zz : ¬ (0 : Int) = 0) => absurd zz (by omega)) (fun _ => ?_)
  refine zX.thr (E := "java/lang/IllegalStateException") rfl rfl (by omega) (Nat.le_of_ble_eq_true rfl) ?_
  exact q
theorem t_moveKeyK {c s : Nat} {h : xH} {x1 : Int} {fs : List xV} {f : Nat → xV} (hf : h (10, 0) = some (.inl (10, zFn fs))) (hw : h (17, 0) = some (.inr (0, 8, f))) (q : Q (.inr "java/lang/IllegalArgumentException") (c + 1) (s + 6) h) : zX (d + 9) 123 0 [(0, .inr (10, 0)), (1, zi 8), (2, zi x1)] [] c s h Q := by
  refine zX.sn 1 (pc2 := 1) (l2 := [(0, .inr (10, 0)), (1, zi 8), (2, zi x1)]) (st2 := [.inr (10, 0)]) rfl ?_
  refine zX.sn 1 (pc2 := 2) (l2 := [(0, .inr (10, 0)), (1, zi 8), (2, zi x1)]) (st2 := [zi 8, .inr (10, 0)]) rfl ?_
  refine zX.call (mid2 := 131) (as := [.inr (10, 0), zi 8]) (rest := []) ⟨rfl, rfl⟩ (fun _ => rfl) (zX.inv rfl hf rfl rfl) ⟨Nat.le_of_ble_eq_true rfl, Nat.le_of_ble_eq_true rfl⟩ ?_
  refine t_key (d := d) hf hw ?_
  refine zXK.thr rfl rfl ?_
  exact q
theorem t_moveKeyW {c s : Nat} {h : xH} {k : Nat} {fs : List xV} {f : Nat → xV} (hk : k < 8) (hf : h (10, 0) = some (.inl (10, zFn fs))) (hw : h (17, 0) = some (.inr (0, 8, f))) (q : Q (.inr "java/lang/IllegalArgumentException") (c + 1) (s + 6) h) : zX (d + 9) 123 0 [(0, .inr (10, 0)), (1, zi (k : Int)), (2, zi 3)] [] c s h Q := by
  refine zX.sn 1 (pc2 := 1) (l2 := [(0, .inr (10, 0)), (1, zi (k : Int)), (2, zi 3)]) (st2 := [.inr (10, 0)]) rfl ?_
  refine zX.sn 1 (pc2 := 2) (l2 := [(0, .inr (10, 0)), (1, zi (k : Int)), (2, zi 3)]) (st2 := [zi (k : Int), .inr (10, 0)]) rfl ?_
  refine zX.call (mid2 := 131) (as := [.inr (10, 0), zi (k : Int)]) (rest := []) ⟨rfl, rfl⟩ (fun _ => rfl) (zX.inv rfl hf rfl rfl) ⟨Nat.le_of_ble_eq_true rfl, Nat.le_of_ble_eq_true rfl⟩ ?_
  refine s_needK hk hf hw ?_
  show zX _ 123 5 [(0, .inr (10, 0)), (1, zi (k : Int)), (2, zi 3)] [] c s _ _
  refine zX.sn 1 (pc2 := 6) (l2 := [(0, .inr (10, 0)), (1, zi (k : Int)), (2, zi 3)]) (st2 := [.inr (10, 0)]) rfl ?_
  refine zX.sn 1 (pc2 := 7) (l2 := [(0, .inr (10, 0)), (1, zi (k : Int)), (2, zi 3)]) (st2 := [zi 3, .inr (10, 0)]) rfl ?_
  refine zX.call (mid2 := 133) (as := [.inr (10, 0), zi 3]) (rest := []) ⟨rfl, rfl⟩ (fun _ => rfl) (zX.inv rfl hf rfl rfl) ⟨Nat.le_of_ble_eq_true rfl, Nat.le_of_ble_eq_true rfl⟩ ?_
  refine t_worker (d := d) ?_
  refine zXK.thr rfl rfl ?_
  exact q
end YD9e
