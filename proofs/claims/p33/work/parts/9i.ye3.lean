set_option maxRecDepth 100000
section YD9i
variable {d : Nat} {Q : xR → Nat → Nat → xH → Prop}
/-- rows are gone through anew -/
abbrev zcX : Type := (Nat → zPT) × (zVL × List Int64)
noncomputable def zcF1 (X : zcX) (e : zE) : zcX := (zaP X.1 e, zaAp e X.1 X.2)
noncomputable def zcF (J : List zE) (X : zcX) : zcX := J.foldl zcF1 X
def zcOk (X : zcX) (e : zE) : Prop := (-1000 ≤ zeB e ∧ zeB e < 1000) ∧ (X.1 (zeP e)).1 < (X.1 (zeP e)).2.2.2.2.length ∧ (∀ j, j ≤ X.2.1.length → zaOk (zaT e j 0 X.2)) ∧ (∀ j, j ≤ X.2.1.length → zaOkD (zeA e) (zlm (zaP X.1 e) 3 0 1000) (zaD (zeA e) (zlm (zaP X.1 e) 3 0 1000) j 0 (zaT e X.2.1.length 0 X.2)))
def zcAll : List zE → zcX → Prop
  | [], _ => True
  | e :: r, X => zcOk X e ∧ zcAll r (zcF1 X e)
set_option maxHeartbeats 1000000 in
theorem l_crash {capv capj : Nat} {x : Int} {fs : List xV} {J : List zE} : ∀ (n i : Nat) (X : zcX) (h : xH) (N : Nat) (K : zKp) (c s : Nat), i + n = J.length → zcAll (J.drop i) X → h (10, 0) = some (.inl (10, zFn fs)) → zAL h 13 0 capv (zVn X.2.1) → zVa h N K X.2.1 X.2.2 → zPs h X.1 → zJr h capj J →
    (∀ h1 N1 K1 c1 s1, h1 (10, 0) = some (.inl (10, zFn fs)) → zAL h1 13 0 capv (zVn (zcF (J.drop i) X).2.1) → zVa h1 N1 K1 (zcF (J.drop i) X).2.1 (zcF (J.drop i) X).2.2 → (zcF (J.drop i) X).2.1.length = X.2.1.length → zPs h1 (zcF (J.drop i) X).1 → (∀ a b : Nat, ¬ ((20 ≤ a ∧ a < 60) ∨ (2 ≤ a ∧ a < 4) ∨ a = 5) → h1 (a, b) = h (a, b)) → zCo (N + zKm K 5) c s (N1 + zKm K1 5) c1 s1 → Q (.inl (some (zi x))) c1 s1 h1) → zX (d + 9) 118 42 [(0, .inr (10, 0)), (1, zi x), (2, zi (i : Int))] [] c s h Q := by
  intro n
  induction n with
  | zero =>
    intro i X h N K c s hi hall hf hA hV hP hJ q
    have hjl := hJ.2.2
    have hnl : (zNm J).length = J.length := List.length_map _
    refine zX.sn 1 (pc2 := 43) (l2 := [(0, .inr (10, 0)), (1, zi x), (2, zi (i : Int))]) (st2 := [zi (i : Int)]) rfl ?_
    refine zX.sn 1 (pc2 := 44) (l2 := [(0, .inr (10, 0)), (1, zi x), (2, zi (i : Int))]) (st2 := [.inr (10, 0), zi (i : Int)]) rfl ?_
    refine zX.getf ⟨rfl, rfl⟩ hf rfl rfl ?_
    refine zX.call (mid2 := 150) (as := [.inr (15, 0)]) (rest := [zi (i : Int)]) ⟨rfl, rfl⟩ (fun _ => rfl) (zX.invA rfl hJ.1 rfl rfl) ⟨Nat.le_of_ble_eq_true rfl, Nat.le_of_ble_eq_true rfl⟩ ?_
    refine s_size hJ.1 ?_
    show zX _ 118 50 [(0, .inr (10, 0)), (1, zi x), (2, zi (i : Int))] [zi ((zNm J).length : Int), zi (i : Int)] c s _ _
    refine zX.icmp (tgt := 74) ⟨rfl, rfl⟩ rfl (by omega) (by omega) (fun _ => ?_) (fun (zz : (i : Int) < ((zNm J).length : Int)) => absurd zz (by omega))
    refine zX.sn 1 (pc2 := 75) (l2 := [(0, .inr (10, 0)), (1, zi x), (2, zi (i : Int))]) (st2 := [zi x]) rfl ?_
    refine zX.ret rfl rfl ?_
    rw [List.drop_of_length_le (by omega)] at q
    exact q h N K c s hf hA hV rfl hP (fun _ _ _ => rfl) zCo.rf
  | succ n ih =>
    intro i X h N K c s hi hall hf hA hV hP hJ q
    have hnl : (zNm J).length = J.length := List.length_map _
    have hlt : i < J.length := by omega
    have hx := List.getElem?_eq_getElem hlt
    have hjl := hJ.2.2
    rw [List.drop_eq_getElem_cons hlt] at q hall
    generalize J[i] = e at hx q hall
    have hmem : e ∈ J := List.mem_of_getElem? hx
    have hE := (hJ.2.1 e hmem).1
    have he := (hJ.2.1 e hmem).2
    obtain ⟨⟨hB, hpl, ok1, ok2⟩, hall⟩ := hall
    refine zX.sn 1 (pc2 := 43) (l2 := [(0, .inr (10, 0)), (1, zi x), (2, zi (i : Int))]) (st2 := [zi (i : Int)]) rfl ?_
    refine zX.sn 1 (pc2 := 44) (l2 := [(0, .inr (10, 0)), (1, zi x), (2, zi (i : Int))]) (st2 := [.inr (10, 0), zi (i : Int)]) rfl ?_
    refine zX.getf ⟨rfl, rfl⟩ hf rfl rfl ?_
    refine zX.call (mid2 := 150) (as := [.inr (15, 0)]) (rest := [zi (i : Int)]) ⟨rfl, rfl⟩ (fun _ => rfl) (zX.invA rfl hJ.1 rfl rfl) ⟨Nat.le_of_ble_eq_true rfl, Nat.le_of_ble_eq_true rfl⟩ ?_
    refine s_size hJ.1 ?_
    show zX _ 118 50 [(0, .inr (10, 0)), (1, zi x), (2, zi (i : Int))] [zi ((zNm J).length : Int), zi (i : Int)] c s _ _
    refine zX.icmp (tgt := 74) ⟨rfl, rfl⟩ rfl (by omega) (by omega) (fun (zz : ((zNm J).length : Int) ≤ (i : Int)) => absurd zz (by omega)) (fun _ => ?_)
    refine zX.sn 1 (pc2 := 54) (l2 := [(0, .inr (10, 0)), (1, zi x), (2, zi (i : Int))]) (st2 := [.inr (10, 0)]) rfl ?_
    refine zX.sn 1 (pc2 := 55) (l2 := [(0, .inr (10, 0)), (1, zi x), (2, zi (i : Int))]) (st2 := [.inr (10, 0), .inr (10, 0)]) rfl ?_
    refine zX.getf ⟨rfl, rfl⟩ hf rfl rfl ?_
    refine zX.sn 1 (pc2 := 59) (l2 := [(0, .inr (10, 0)), (1, zi x), (2, zi (i : Int))]) (st2 := [zi (i : Int), .inr (15, 0), .inr (10, 0)]) rfl ?_
    refine zX.call (mid2 := 153) (as := [.inr (15, 0), zi (i : Int)]) (rest := [.inr (10, 0)]) ⟨rfl, rfl⟩ (fun _ => rfl) (zX.invA rfl hJ.1 rfl rfl) ⟨Nat.le_of_ble_eq_true rfl, Nat.le_of_ble_eq_true rfl⟩ ?_
    refine s_get (d := d + 6) (j := i) (x := (8, zeN e)) rfl (by omega) hJ.1 (zmap_at hx) ?_
    show zX _ 118 62 [(0, .inr (10, 0)), (1, zi x), (2, zi (i : Int))] [.inr (8, zeN e), .inr (10, 0)] c s _ _
    refine zX.cast ⟨rfl, rfl⟩ he rfl ?_
    refine zX.call (mid2 := 139) (as := [.inr (10, 0), .inr (8, zeN e)]) (rest := []) ⟨rfl, rfl⟩ (fun _ => rfl) (zX.inv rfl hf rfl rfl) ⟨Nat.le_of_ble_eq_true rfl, Nat.le_of_ble_eq_true rfl⟩ ?_
    refine s_apply (d := d) hE hB hf hA hV he hP hpl ok1 ok2 (fun h1 N1 K1 c1 s1 d1 d2 d3 d4 d5 => ?_)
    show zX _ 118 68 [(0, .inr (10, 0)), (1, zi x), (2, zi (i : Int))] [] c1 s1 _ _
    refine zX.s1 (pc2 := 71) (l2 := [(2, zi ((i : Int) + 1)), (0, .inr (10, 0)), (1, zi x)]) (st2 := []) ⟨rfl, rfl⟩ (by rw [show (zi ((i : Int) + 1) : xV) = .inl (.int (Int32.ofInt (i : Int) + 1)) from congrArg (fun z => (.inl (.int z) : xV)) (Int32.ofInt_add _ _)]; rfl) ?_
    refine zX.sn 1 (pc2 := 42) (l2 := [(2, zi ((i : Int) + 1)), (0, .inr (10, 0)), (1, zi x)]) (st2 := []) rfl ?_
    refine zX.re [(0, .inr (10, 0)), (1, zi x), (2, zi ((i : Int) + 1))] [1, 2, 0] [2, 0, 1] rfl rfl (by decide) ?_
    have hVn : zVn (zcF1 X e).2.1 = zVn X.2.1 := by
      show (List.range (zcF1 X e).2.1.length).map (fun i => ((20 : Nat), i)) = _
      rw [show (zcF1 X e).2.1.length = X.2.1.length from d2]
    exact ih (i + 1) (zcF1 X e) h1 N1 K1 c1 s1 (by omega) hall ((d4 _ _ (by omega)).trans hf) (by rw [hVn]; exact hA.fr (fun a b z => d4 a b (by omega))) d1 d3 ⟨hJ.1.fr (fun a b z => d4 a b (by omega)), fun x hx => ⟨(hJ.2.1 x hx).1, (d4 _ _ (by omega)).trans (hJ.2.1 x hx).2⟩, hJ.2.2⟩ (fun h2 N2 K2 c2 s2 g1 g2 g3 g4 g5 g6 g7 => q h2 N2 K2 c2 s2 g1 g2 g3 (g4.trans d2) g5 (fun a b hn => (g6 a b hn).trans (d4 a b (by omega))) ⟨by have := d5.1; have := g7.1; omega, by have := d5.2.1; have := g7.2.1; omega, by have := d5.2.2; have := g7.2.2; omega⟩)
set_option maxHeartbeats 1000000 in
theorem s_crash {N c s pr cu pj cj capv capj : Nat} {rd ct uw : Bool} {h : xH} {out : List Int64} {L : zVL} {P : Nat → zPT} {J : List zE} {K : zKp} (hH : ∀ (j : Nat) (C : zCf) (S : zSt), L[j]? = some (C, S) → ∀ t, 8 ≤ t → S.2.1 t = 0) (hf : h (10, 0) = some (.inl (10, zFn (zFf rd ct uw pr cu pj cj)))) (hA : zAL h 13 0 capv (zVn L)) (hV : zVa h N K L out) (hP : zPs h P) (hJ : zJr h capj J) (hpj : pj ≤ J.length) (hall : pj < J.length → zcAll (J.take pj) (zaR P 3, (zaB out L.length 0 L, [])))
    (q0 : J.length ≤ pj → ∀ h1 : xH, h1 (10, 0) = some (.inl (10, zFn (zFf rd ct false pr cu pj cj))) → (∀ a b : Nat, ¬ (a = 10 ∧ b = 0) → h1 (a, b) = h (a, b)) → Q (.inl (some (zi ((out.length : Int) - (pr : Int))))) c s h1)
    (q1 : pj < J.length → ∀ h1 N1 K1 c1 s1, h1 (10, 0) = some (.inl (10, zFn (zFf rd ct false pr cu pj cj))) → zAL h1 13 0 capv (zVn (zcF (J.take pj) (zaR P 3, (zaB out L.length 0 L, []))).2.1) → zVa h1 N1 K1 (zcF (J.take pj) (zaR P 3, (zaB out L.length 0 L, []))).2.1 (zcF (J.take pj) (zaR P 3, (zaB out L.length 0 L, []))).2.2 → (zcF (J.take pj) (zaR P 3, (zaB out L.length 0 L, []))).2.1.length = L.length → zPs h1 (zcF (J.take pj) (zaR P 3, (zaB out L.length 0 L, []))).1 → zJr h1 capj (J.take pj) → (∀ a b : Nat, ¬ ((20 ≤ a ∧ a < 60) ∨ (2 ≤ a ∧ a < 4) ∨ a = 5 ∨ a = 10 ∨ (15 ≤ a ∧ a < 17)) → h1 (a, b) = h (a, b)) → zCo (N + zKm K 5) c s (N1 + zKm K1 5) c1 s1 → Q (.inl (some (zi ((out.length : Int) - (pr : Int))))) c1 s1 h1) : zX (d + 9) 118 0 [(0, .inr (10, 0))] [] c s h Q := by
  have hjl := hJ.2.2
  have hnl : (zNm J).length = J.length := List.length_map _
  refine zX.sn 1 (pc2 := 1) (l2 := [(0, .inr (10, 0))]) (st2 := [.inr (10, 0)]) rfl ?_
  refine zX.getf ⟨rfl, rfl⟩ hf rfl rfl ?_
  refine zX.getf ⟨rfl, rfl⟩ hV.1.ob rfl rfl ?_
  refine zX.sn 1 (pc2 := 8) (l2 := [(0, .inr (10, 0))]) (st2 := [.inr (10, 0), zi (out.length : Int)]) rfl ?_
  refine zX.getf ⟨rfl, rfl⟩ hf rfl rfl ?_
  refine zX.isub ⟨rfl, rfl⟩ ?_
  refine zX.sn 1 (pc2 := 13) (l2 := [(1, zi ((out.length : Int) - (pr : Int))), (0, .inr (10, 0))]) (st2 := []) rfl ?_
  refine zX.sn 1 (pc2 := 14) (l2 := [(1, zi ((out.length : Int) - (pr : Int))), (0, .inr (10, 0))]) (st2 := [.inr (10, 0)]) rfl ?_
  refine zX.sn 1 (pc2 := 15) (l2 := [(1, zi ((out.length : Int) - (pr : Int))), (0, .inr (10, 0))]) (st2 := [zi 0, .inr (10, 0)]) rfl ?_
  refine zX.putf ⟨rfl, rfl⟩ hf rfl (by decide) rfl ?_
  show zX _ 118 18 [(1, zi ((out.length : Int) - (pr : Int))), (0, .inr (10, 0))] [] c s (xup h (10, 0) (.inl (10, zFn (zFf rd ct false pr cu pj cj)))) _
  generalize hh1 : xup h (10, 0) (.inl (10, zFn (zFf rd ct false pr cu pj cj))) = h1
  have hs1 : h1 (10, 0) = some (.inl (10, zFn (zFf rd ct false pr cu pj cj))) := by
    rw [← hh1]
    exact zup_s
  have hn1 : ∀ a b : Nat, ¬ (a = 10 ∧ b = 0) → h1 (a, b) = h (a, b) := fun a b hn => by
    rw [← hh1]
    exact zup_n (zn (by omega)) rfl
  have hJ1 : zJr h1 capj J := ⟨hJ.1.fr (fun a b z => hn1 a b (by omega)), fun x hx => ⟨(hJ.2.1 x hx).1, (hn1 _ _ (by omega)).trans (hJ.2.1 x hx).2⟩, hJ.2.2⟩
  have hV1 : zVa h1 N K L out := hV.mv (fun a b z => hn1 a b (by omega))
  have hA1 : zAL h1 13 0 capv (zVn L) := hA.fr (fun a b z => hn1 a b (by omega))
  have hP1 : zPs h1 P := hP.mv (fun a b z => hn1 a b (by omega))
  refine zX.sn 1 (pc2 := 19) (l2 := [(1, zi ((out.length : Int) - (pr : Int))), (0, .inr (10, 0))]) (st2 := [.inr (10, 0)]) rfl ?_
  refine zX.getf ⟨rfl, rfl⟩ hs1 rfl rfl ?_
  refine zX.call (mid2 := 150) (as := [.inr (15, 0)]) (rest := []) ⟨rfl, rfl⟩ (fun _ => rfl) (zX.invA rfl hJ1.1 rfl rfl) ⟨Nat.le_of_ble_eq_true rfl, Nat.le_of_ble_eq_true rfl⟩ ?_
  refine s_size hJ1.1 ?_
  show zX _ 118 25 [(1, zi ((out.length : Int) - (pr : Int))), (0, .inr (10, 0))] [zi ((zNm J).length : Int)] c s _ _
  refine zX.sn 1 (pc2 := 26) (l2 := [(1, zi ((out.length : Int) - (pr : Int))), (0, .inr (10, 0))]) (st2 := [.inr (10, 0), zi ((zNm J).length : Int)]) rfl ?_
  refine zX.getf ⟨rfl, rfl⟩ hs1 rfl rfl ?_
  refine zX.icmp (tgt := 74) ⟨rfl, rfl⟩ rfl (by omega) (by omega) (fun (z : ((zNm J).length : Int) ≤ (pj : Int)) => ?_) (fun (z : (pj : Int) < ((zNm J).length : Int)) => ?_)
  · refine zX.sn 1 (pc2 := 75) (l2 := [(1, zi ((out.length : Int) - (pr : Int))), (0, .inr (10, 0))]) (st2 := [zi ((out.length : Int) - (pr : Int))]) rfl ?_
    refine zX.ret rfl rfl ?_
    exact q0 (by omega) h1 hs1 hn1
  · refine zX.sn 1 (pc2 := 33) (l2 := [(1, zi ((out.length : Int) - (pr : Int))), (0, .inr (10, 0))]) (st2 := [.inr (10, 0)]) rfl ?_
    refine zX.sn 1 (pc2 := 34) (l2 := [(1, zi ((out.length : Int) - (pr : Int))), (0, .inr (10, 0))]) (st2 := [.inr (10, 0), .inr (10, 0)]) rfl ?_
    refine zX.getf ⟨rfl, rfl⟩ hs1 rfl rfl ?_
    refine zX.call (mid2 := 140) (as := [.inr (10, 0), zi (pj : Int)]) (rest := []) ⟨rfl, rfl⟩ (fun _ => rfl) (zX.inv rfl hs1 rfl rfl) ⟨Nat.le_of_ble_eq_true rfl, Nat.le_of_ble_eq_true rfl⟩ ?_
    refine s_empty (d := d + 4) (by omega) hH hs1 hA1 hV1 hP1 hJ1 (fun h2 a1 a2 a3 a4 a5 => ?_)
    show zX _ 118 40 [(1, zi ((out.length : Int) - (pr : Int))), (0, .inr (10, 0))] [] c s _ _
    refine zX.sn 1 (pc2 := 41) (l2 := [(1, zi ((out.length : Int) - (pr : Int))), (0, .inr (10, 0))]) (st2 := [zi 0]) rfl ?_
    refine zX.sn 1 (pc2 := 42) (l2 := [(2, zi 0), (1, zi ((out.length : Int) - (pr : Int))), (0, .inr (10, 0))]) (st2 := []) rfl ?_
    refine zX.re [(0, .inr (10, 0)), (1, zi ((out.length : Int) - (pr : Int))), (2, zi 0)] [2, 1, 0] [2, 1, 0] rfl rfl (by decide) ?_
    have hVn : zVn (zaB out L.length 0 L) = zVn L := by
      show (List.range (zaB out L.length 0 L).length).map (fun i => ((20 : Nat), i)) = _
      rw [a2]
    have hdr : (J.take pj).drop 0 = J.take pj := List.drop_zero
    refine l_crash (d := d) (J := J.take pj) (J.take pj).length 0 (zaR P 3, (zaB out L.length 0 L, [])) h2 N K c s (by omega) (by rw [hdr]; exact hall (by omega)) ((a5 _ _ (by omega)).trans hs1) (by rw [hVn]; exact hA1.fr (fun a b z => a5 a b (by omega))) a1 a3 a4 (fun h3 N3 K3 c3 s3 d1 d2 d3 d4 d5 d6 d7 => ?_)
    rw [hdr] at d2 d3 d4 d5
    refine q1 (by omega) h3 N3 K3 c3 s3 d1 d2 d3 (d4.trans a2) d5 ⟨a4.1.fr (fun a b z => d6 a b (by omega)), fun x hx => ⟨(a4.2.1 x hx).1, (d6 _ _ (by omega)).trans (a4.2.1 x hx).2⟩, a4.2.2⟩ (fun a b hn => (d6 a b (by omega)).trans ((a5 a b (by omega)).trans (hn1 a b (by omega)))) d7
end YD9i
