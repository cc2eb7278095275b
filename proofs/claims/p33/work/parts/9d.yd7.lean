set_option maxRecDepth 100000
section YD9d
variable {d : Nat} {Q : xR → Nat → Nat → xH → Prop}
/-- a view where entries change that it does not hold -/
theorem zVi.mv8 {h h1 : xH} {N N1 k1 k2 k3 v : Nat} {C : zCf} {S : zSt} {out out1 : List Int64} (hv : v < 8) (hV : zVi h N k1 k2 k3 v C (S, out)) (hO : zOut h1 N1 out1) (e : ∀ a b : Nat, (20 ≤ a ∧ a < 60 ∧ b % 8 = v) ∨ a = 0 → h1 (a, b) = h (a, b)) (e8 : ∀ x ∈ zuA S ++ zuB S, h1 (8, zeN x) = h (8, zeN x)) : zVi h1 N1 k1 k2 k3 v C (S, out1) := by
  have ks : ∀ K, (∀ x ∈ K, x ∈ zuA S ++ zuB S) → zKs h K → zKs h1 K := fun K hK hk x hx => ⟨(hk x hx).1, (e8 x (hK x hx)).trans (hk x hx).2⟩
  rcases hV with ⟨c, r, v1, v2, v3, ⟨fg, v4⟩, v5, ⟨fb, v6⟩, gn, gs, gg, v7⟩ | ⟨c, r, v1, v2, v3, ⟨fg, v4⟩, v5, ⟨jj, v6⟩, v7, ⟨fb, v8⟩, ⟨gn, gs, gg, v9⟩, v10⟩ | ⟨c, r, ⟨v1, v2, v3, v4, v5, fb, v6⟩, v7⟩ | ⟨c, r, ⟨v1, v2, v3, v4, v5, v6, ⟨fb, v7⟩, Ag, v8⟩, v9, v10⟩
  · exact Or.inl ⟨c, r, (e _ _ (by omega)).trans v1, v2.fr (fun a b z => e a b (by omega)), (e _ _ (by omega)).trans v3, ⟨fg, v4.fr (fun a b z => e a b (by omega))⟩, hO, ⟨fb, v6.fr (fun a b z => e a b (by omega))⟩, gn, gs, gg, v7.fr (fun a b z => e a b (by omega))⟩
  · exact Or.inr (Or.inl ⟨c, r, (e _ _ (by omega)).trans v1, v2.fr (fun a b z => e a b (by omega)), (e _ _ (by omega)).trans v3, ⟨fg, v4.fr (fun a b z => e a b (by omega))⟩, (e _ _ (by omega)).trans v5, ⟨jj, (e _ _ (by omega)).trans v6⟩, hO, ⟨fb, v8.fr (fun a b z => e a b (by omega))⟩, ⟨gn, gs, gg, v9.fr (fun a b z => e a b (by omega))⟩, v10⟩)
  · exact Or.inr (Or.inr (Or.inl ⟨c, r, ⟨(e _ _ (by omega)).trans v1, v2.fr (fun a b z => e a b (by omega)), (e _ _ (by omega)).trans v3, v4.fr (fun a b z => e a b (by omega)), hO, fb, v6.fr (fun a b z => e a b (by omega))⟩, ks _ (fun x hx => List.mem_append_left _ hx) v7⟩))
  · exact Or.inr (Or.inr (Or.inr ⟨c, r, ⟨(e _ _ (by omega)).trans v1, v2.fr (fun a b z => e a b (by omega)), (e _ _ (by omega)).trans v3, v4.fr (fun a b z => e a b (by omega)), v5.fr (fun a b z => e a b (by omega)), hO, ⟨fb, v7.fr (fun a b z => e a b (by omega))⟩, Ag, v8.fr (fun a b z => e a b (by omega))⟩, ks _ (fun x hx => List.mem_append_left _ hx) v9, ks _ (fun x hx => List.mem_append_right _ hx) v10⟩))
theorem zVa.mv8 {h h1 : xH} {N n : Nat} {K : zKp} {L : zVL} {out : List Int64} (hA : zVa h N K L out) (e : ∀ a b : Nat, (20 ≤ a ∧ a < 60) ∨ (2 ≤ a ∧ a < 4) ∨ a = 0 ∨ (a = 8 ∧ b ≠ n) → h1 (a, b) = h (a, b)) (e8 : ∀ (i : Nat) (C : zCf) (S : zSt), L[i]? = some (C, S) → ∀ x ∈ zuA S ++ zuB S, zeN x ≠ n) : zVa h1 N K L out := by
  have hO : zOut h1 N out := hA.1.fr (fun a b z => e a b (by omega))
  refine ⟨hO, hA.2.1, fun j C S hj => ?_⟩
  have hj5 : j < L.length := (List.getElem?_eq_some_iff.mp hj).1
  have hl := hA.2.1
  exact (hA.2.2 j C S hj).mv8 (by omega) hO (fun a b z => e a b (by omega)) (fun x hx => e _ _ (by have := e8 j C S hj x hx; omega))
theorem zlm_same {P P2 : Nat → zPT} (e : ∀ j, (P j).2.1 = (P2 j).2.1) : ∀ {n p : Nat} {a : Int}, zlm P n p a = zlm P2 n p a := by
  intro n
  induction n with
  | zero => intro p a; rfl
  | succ n ih =>
    intro p a
    show zlm P n (p + 1) (if (P p).2.1 < a then (P p).2.1 else a) = zlm P2 n (p + 1) (if (P2 p).2.1 < a then (P2 p).2.1 else a)
    rw [e p]
    exact ih
theorem zlm_ge {P : Nat → zPT} (e : ∀ j, j < 3 → -1 ≤ (P j).2.1) : -1 ≤ zlm P 3 0 1000 := by
  have h0 := e 0 (by omega)
  have h1 := e 1 (by omega)
  have h2 := e 2 (by omega)
  unfold zlm zlm zlm zlm
  repeat' split
  all_goals omega
/-- the world that entries change: parts, journal, views and outputs -/
abbrev zQd : Type := (Nat → zPT) × List zE × (zVL × List Int64)
/-- an entry as it is read -/
def zrE (P : Nat → zPT) (J : List zE) (p : Nat) (e : zE) : zE := (e.1, e.2.1, (J.length, zlm P 3 0 1000, (if zeR e = true then (zeT e : Int) - ((P p).2.2.1 : Int) else (zeT e : Int))))
/-- a log whose i-th entry is changed -/
def zrP (P : Nat → zPT) (p i : Nat) (e : zE) : Nat → zPT := fun j => if j = p then ((P p).1, (P p).2.1, (P p).2.2.1, (P p).2.2.2.1, (P p).2.2.2.2.set i e) else P j
noncomputable def zrS1 (p : Nat) (W : zQd) (e : zE) : zQd := (zaP (zrP W.1 p (W.1 p).1 (zrE W.1 W.2.1 p e)) (zrE W.1 W.2.1 p e), W.2.1 ++ [zrE W.1 W.2.1 p e], zaAp (zrE W.1 W.2.1 p e) (zrP W.1 p (W.1 p).1 (zrE W.1 W.2.1 p e)) W.2.2)
noncomputable def zrN (p : Nat) : Nat → zQd → zQd
  | 0, W => W
  | n + 1, W => match (W.1 p).2.2.2.2[(W.1 p).1]? with
    | some e => zrN p n (zrS1 p W e)
    | none => W
noncomputable def zrC (p : Nat) : Nat → zQd → Nat
  | 0, _ => 0
  | n + 1, W => match (W.1 p).2.2.2.2[(W.1 p).1]? with
    | some e => zrC p n (zrS1 p W e) + 1
    | none => 0
/-- what a read wants of the world -/
def zrOk (p : Nat) (W : zQd) (e : zE) : Prop := zeP e = p ∧ W.2.1.length < 72 ∧ (∀ x ∈ W.2.1, zeN x ≠ zeN e) ∧ (∀ (i : Nat) (C : zCf) (S : zSt), W.2.2.1[i]? = some (C, S) → ∀ x ∈ zuA S ++ zuB S, zeN x ≠ zeN e) ∧ (∀ p2 i x, p2 < 3 → (W.1 p2).2.2.2.2[i]? = some x → zeN x = zeN e → p2 = p ∧ i = (W.1 p).1) ∧
  (∀ j, j ≤ W.2.2.1.length → zaOk (zaT (zrE W.1 W.2.1 p e) j 0 W.2.2)) ∧ (∀ j, j ≤ W.2.2.1.length → zaOkD (zlm W.1 3 0 1000) (zlm (zaP (zrP W.1 p (W.1 p).1 (zrE W.1 W.2.1 p e)) (zrE W.1 W.2.1 p e)) 3 0 1000) (zaD (zlm W.1 3 0 1000) (zlm (zaP (zrP W.1 p (W.1 p).1 (zrE W.1 W.2.1 p e)) (zrE W.1 W.2.1 p e)) 3 0 1000) j 0 (zaT (zrE W.1 W.2.1 p e) W.2.2.1.length 0 W.2.2)))
theorem zKs.el6 {ro : Nat} {h : xH} {K : List zE} (hk : zKs h K) (hr : ro ≠ 8 ∧ ro + 1 ≠ 8) : zEl h ro (zNm K) := by
  intro x hx
  obtain ⟨e, he, rfl⟩ := List.mem_map.mp hx
  exact ⟨⟨fun z => hr.1 z.symm, fun z => hr.2 z.symm⟩, 1, _, (hk e he).2, rfl⟩
set_option maxHeartbeats 4000000 in
theorem l_read {m p : Nat} {I : zQd → Prop} (hp : p < 3) (hm : m ≤ 20) (hI : ∀ W e, I W → (W.1 p).2.2.2.2[(W.1 p).1]? = some e → zrOk p W e ∧ I (zrS1 p W e)) {capv cu pj cj pr : Nat} {ct uw : Bool} : ∀ (n k : Nat) (W : zQd) (rd : Bool) (h : xH) (N capj : Nat) (K : zKp) (c s : Nat), k + n = m → I W → h (10, 0) = some (.inl (10, zFn (zFf rd ct uw pr cu pj cj))) → zAL h 13 0 capv (zVn W.2.2.1) → zVa h N K W.2.2.1 W.2.2.2 → zPs h W.1 → zJr h capj W.2.1 →
    (∀ h1 N1 K1 capj1 rd1 c1 s1, h1 (10, 0) = some (.inl (10, zFn (zFf rd1 ct uw pr cu pj cj))) → zAL h1 13 0 capv (zVn (zrN p n W).2.2.1) → zVa h1 N1 K1 (zrN p n W).2.2.1 (zrN p n W).2.2.2 → (zrN p n W).2.2.1.length = W.2.2.1.length → zPs h1 (zrN p n W).1 → zJr h1 capj1 (zrN p n W).2.1 → I (zrN p n W) → (rd1 = true ∨ rd1 = rd ∧ zrN p n W = W ∧ h1 = h) → (∀ a b : Nat, ¬ ((20 ≤ a ∧ a < 60) ∨ (2 ≤ a ∧ a < 4) ∨ a = 5 ∨ a = 10 ∨ (15 ≤ a ∧ a < 17) ∨ a = 8) → h1 (a, b) = h (a, b)) → (∀ b : Nat, h (8, b) = none → h1 (8, b) = none) → zCo (N + zKm K 5 + capj) c s (N1 + zKm K1 5 + capj1) c1 s1 → Q (.inl (some (zi ((k + zrC p n W : Nat) : Int)))) c1 s1 h1) → zX (d + 9) 105 30 [(0, .inr (10, 0)), (1, zi (p : Int)), (2, zi (m : Int)), (3, .inr (5, p)), (4, zi (k : Int))] [] c s h Q := by
  intro n
  induction n with
  | zero =>
    intro k W rd h N capj K c s hk hW hf hA hV hP hJ q
    refine zX.sn 1 (pc2 := 32) (l2 := [(0, .inr (10, 0)), (1, zi (p : Int)), (2, zi (m : Int)), (3, .inr (5, p)), (4, zi (k : Int))]) (st2 := [zi (k : Int)]) rfl ?_
    refine zX.sn 1 (pc2 := 33) (l2 := [(0, .inr (10, 0)), (1, zi (p : Int)), (2, zi (m : Int)), (3, .inr (5, p)), (4, zi (k : Int))]) (st2 := [zi (m : Int), zi (k : Int)]) rfl ?_
    refine zX.icmp (tgt := 152) ⟨rfl, rfl⟩ rfl (by omega) (by omega) (fun _ => ?_) (fun (zz : (k : Int) < (m : Int)) => absurd zz (by omega))
    refine zX.sn 1 (pc2 := 154) (l2 := [(0, .inr (10, 0)), (1, zi (p : Int)), (2, zi (m : Int)), (3, .inr (5, p)), (4, zi (k : Int))]) (st2 := [zi (k : Int)]) rfl ?_
    refine zX.ret rfl rfl ?_
    exact q h N K capj rd c s hf hA hV rfl hP hJ hW (Or.inr ⟨rfl, rfl, rfl⟩) (fun _ _ _ => rfl) (fun _ z => z) zCo.rf
  | succ n ih =>
    intro k W rd h N capj K c s hk hW hf hA hV hP hJ q
    obtain ⟨⟨capp, hq⟩, hPt⟩ := id hP
    obtain ⟨b1, b2, b3, b4, b5, b6, b7⟩ := hPt p hp
    have hnl : (zNm (W.1 p).2.2.2.2).length = (W.1 p).2.2.2.2.length := List.length_map _
    refine zX.sn 1 (pc2 := 32) (l2 := [(0, .inr (10, 0)), (1, zi (p : Int)), (2, zi (m : Int)), (3, .inr (5, p)), (4, zi (k : Int))]) (st2 := [zi (k : Int)]) rfl ?_
    refine zX.sn 1 (pc2 := 33) (l2 := [(0, .inr (10, 0)), (1, zi (p : Int)), (2, zi (m : Int)), (3, .inr (5, p)), (4, zi (k : Int))]) (st2 := [zi (m : Int), zi (k : Int)]) rfl ?_
    refine zX.icmp (tgt := 152) ⟨rfl, rfl⟩ rfl (by omega) (by omega) (fun (zz : (m : Int) ≤ (k : Int)) => absurd zz (by omega)) (fun _ => ?_)
    refine zX.sn 1 (pc2 := 37) (l2 := [(0, .inr (10, 0)), (1, zi (p : Int)), (2, zi (m : Int)), (3, .inr (5, p)), (4, zi (k : Int))]) (st2 := [.inr (5, p)]) rfl ?_
    refine zX.getf ⟨rfl, rfl⟩ b1 rfl rfl ?_
    refine zX.icmp0 (tgt := 152) ⟨rfl, rfl⟩ rfl (by omega) (fun (zz : ((W.1 p).1 : Int) < 0) => absurd zz (by omega)) (fun _ => ?_)
    refine zX.sn 1 (pc2 := 44) (l2 := [(0, .inr (10, 0)), (1, zi (p : Int)), (2, zi (m : Int)), (3, .inr (5, p)), (4, zi (k : Int))]) (st2 := [.inr (5, p)]) rfl ?_
    refine zX.getf ⟨rfl, rfl⟩ b1 rfl rfl ?_
    refine zX.sn 1 (pc2 := 48) (l2 := [(0, .inr (10, 0)), (1, zi (p : Int)), (2, zi (m : Int)), (3, .inr (5, p)), (4, zi (k : Int))]) (st2 := [.inr (5, p), zi ((W.1 p).1 : Int)]) rfl ?_
    refine zX.getf ⟨rfl, rfl⟩ b1 rfl rfl ?_
    refine zX.call (mid2 := 150) (as := [.inr (6, p)]) (rest := [zi ((W.1 p).1 : Int)]) ⟨rfl, rfl⟩ (fun _ => rfl) (zX.invA rfl b2 rfl rfl) ⟨Nat.le_of_ble_eq_true rfl, Nat.le_of_ble_eq_true rfl⟩ ?_
    refine s_size b2 ?_
    show zX _ 105 54 [(0, .inr (10, 0)), (1, zi (p : Int)), (2, zi (m : Int)), (3, .inr (5, p)), (4, zi (k : Int))] [zi ((zNm (W.1 p).2.2.2.2).length : Int), zi ((W.1 p).1 : Int)] c s _ _
    refine zX.icmp (tgt := 152) ⟨rfl, rfl⟩ rfl (by omega) (by omega) (fun (zp : ((zNm (W.1 p).2.2.2.2).length : Int) ≤ ((W.1 p).1 : Int)) => ?_) (fun (zp : ((W.1 p).1 : Int) < ((zNm (W.1 p).2.2.2.2).length : Int)) => ?_)
    · refine zX.sn 1 (pc2 := 154) (l2 := [(0, .inr (10, 0)), (1, zi (p : Int)), (2, zi (m : Int)), (3, .inr (5, p)), (4, zi (k : Int))]) (st2 := [zi (k : Int)]) rfl ?_
      refine zX.ret rfl rfl ?_
      have hno : (W.1 p).2.2.2.2[(W.1 p).1]? = none := List.getElem?_eq_none (by omega)
      have hN : zrN p (n + 1) W = W := by
        show (match (W.1 p).2.2.2.2[(W.1 p).1]? with
          | some e => zrN p n (zrS1 p W e)
          | none => W) = W
        rw [hno]
      have hC : zrC p (n + 1) W = 0 := by
        show (match (W.1 p).2.2.2.2[(W.1 p).1]? with
          | some e => zrC p n (zrS1 p W e) + 1
          | none => 0) = 0
        rw [hno]
      have q := q h N K capj rd c s
      rw [hN, hC] at q
      exact q hf hA hV rfl hP hJ hW (Or.inr ⟨rfl, rfl, rfl⟩) (fun _ _ _ => rfl) (fun _ z => z) zCo.rf
    · have hlt : (W.1 p).1 < (W.1 p).2.2.2.2.length := by omega
      have hx := List.getElem?_eq_getElem hlt
      generalize hee : (W.1 p).2.2.2.2[(W.1 p).1] = e at hx
      have hmem : e ∈ (W.1 p).2.2.2.2 := List.mem_of_getElem? hx
      have hE := (b3 e hmem).1
      have he := (b3 e hmem).2
      obtain ⟨ok, hW1⟩ := hI W e hW hx
      obtain ⟨o1, o2, o3, o4, o5, o6, o7⟩ := id ok
      obtain ⟨e1, e2, e3, e4, e5, e6⟩ := id hE
      have hN : zrN p (n + 1) W = zrN p n (zrS1 p W e) := by
        show (match (W.1 p).2.2.2.2[(W.1 p).1]? with
          | some e => zrN p n (zrS1 p W e)
          | none => W) = _
        rw [hx]
      have hC : zrC p (n + 1) W = zrC p n (zrS1 p W e) + 1 := by
        show (match (W.1 p).2.2.2.2[(W.1 p).1]? with
          | some e => zrC p n (zrS1 p W e) + 1
          | none => 0) = _
        rw [hx]
      rw [hN, hC] at q
      have hjl : (zNm W.2.1).length = W.2.1.length := List.length_map _
      refine zX.sn 1 (pc2 := 58) (l2 := [(0, .inr (10, 0)), (1, zi (p : Int)), (2, zi (m : Int)), (3, .inr (5, p)), (4, zi (k : Int))]) (st2 := [.inr (5, p)]) rfl ?_
      refine zX.getf ⟨rfl, rfl⟩ b1 rfl rfl ?_
      refine zX.sn 1 (pc2 := 62) (l2 := [(0, .inr (10, 0)), (1, zi (p : Int)), (2, zi (m : Int)), (3, .inr (5, p)), (4, zi (k : Int))]) (st2 := [.inr (5, p), .inr (6, p)]) rfl ?_
      refine zX.getf ⟨rfl, rfl⟩ b1 rfl rfl ?_
      refine zX.call (mid2 := 153) (as := [.inr (6, p), zi ((W.1 p).1 : Int)]) (rest := []) ⟨rfl, rfl⟩ (fun _ => rfl) (zX.invA rfl b2 rfl rfl) ⟨Nat.le_of_ble_eq_true rfl, Nat.le_of_ble_eq_true rfl⟩ ?_
      refine s_get (d := d + 6) (j := (W.1 p).1) (x := (8, zeN e)) rfl (by omega) b2 (zmap_at hx) ?_
      show zX _ 105 68 [(0, .inr (10, 0)), (1, zi (p : Int)), (2, zi (m : Int)), (3, .inr (5, p)), (4, zi (k : Int))] [.inr (8, zeN e)] c s _ _
      refine zX.cast ⟨rfl, rfl⟩ he rfl ?_
      refine zX.sn 1 (pc2 := 73) (l2 := [(5, .inr (8, zeN e)), (0, .inr (10, 0)), (1, zi (p : Int)), (2, zi (m : Int)), (3, .inr (5, p)), (4, zi (k : Int))]) (st2 := []) rfl ?_
      refine zX.sn 1 (pc2 := 75) (l2 := [(5, .inr (8, zeN e)), (0, .inr (10, 0)), (1, zi (p : Int)), (2, zi (m : Int)), (3, .inr (5, p)), (4, zi (k : Int))]) (st2 := [.inr (8, zeN e)]) rfl ?_
      refine zX.sn 1 (pc2 := 76) (l2 := [(5, .inr (8, zeN e)), (0, .inr (10, 0)), (1, zi (p : Int)), (2, zi (m : Int)), (3, .inr (5, p)), (4, zi (k : Int))]) (st2 := [.inr (10, 0), .inr (8, zeN e)]) rfl ?_
      refine zX.getf ⟨rfl, rfl⟩ hf rfl rfl ?_
      refine zX.call (mid2 := 150) (as := [.inr (15, 0)]) (rest := [.inr (8, zeN e)]) ⟨rfl, rfl⟩ (fun _ => rfl) (zX.invA rfl hJ.1 rfl rfl) ⟨Nat.le_of_ble_eq_true rfl, Nat.le_of_ble_eq_true rfl⟩ ?_
      refine s_size hJ.1 ?_
      show zX _ 105 82 [(5, .inr (8, zeN e)), (0, .inr (10, 0)), (1, zi (p : Int)), (2, zi (m : Int)), (3, .inr (5, p)), (4, zi (k : Int))] [zi ((zNm W.2.1).length : Int), .inr (8, zeN e)] c s _ _
      rw [hjl]
      refine zX.putf ⟨rfl, rfl⟩ he rfl (by omega) rfl ?_
      show zX _ 105 85 [(5, .inr (8, zeN e)), (0, .inr (10, 0)), (1, zi (p : Int)), (2, zi (m : Int)), (3, .inr (5, p)), (4, zi (k : Int))] [] c s (xup h (8, zeN e) (.inl (1, [zi (zeP e : Int), zi (zbi (zeR e)), zi (zbi (zeL e)), zi (zeK e : Int), zi (zeT e : Int), zi (zeV e), zi (W.2.1.length : Int), zi (zeA e), zi (zeB e)]))) _
      generalize hh1 : xup h (8, zeN e) (.inl (1, [zi (zeP e : Int), zi (zbi (zeR e)), zi (zbi (zeL e)), zi (zeK e : Int), zi (zeT e : Int), zi (zeV e), zi (W.2.1.length : Int), zi (zeA e), zi (zeB e)])) = h1
      have hs1 : h1 (8, zeN e) = some (.inl (1, [zi (zeP e : Int), zi (zbi (zeR e)), zi (zbi (zeL e)), zi (zeK e : Int), zi (zeT e : Int), zi (zeV e), zi (W.2.1.length : Int), zi (zeA e), zi (zeB e)])) := by
        rw [← hh1]
        exact zup_s
      have hn1 : ∀ a b : Nat, ¬ (a = 8 ∧ b = zeN e) → h1 (a, b) = h (a, b) := fun a b hn => by
        rw [← hh1]
        exact zup_n (zn (by omega)) rfl
      have hf1 := (hn1 10 0 (by omega)).trans hf
      have hP1p : ∀ j, j < 3 → h1 (5, j) = h (5, j) := fun j _ => hn1 5 j (by omega)
      have hE1 : zEr (zrE W.1 W.2.1 p e) := ?hE1z
      have hPa : ∀ (h2 : xH) (ex : zE), (∀ a b : Nat, ¬ (a = 8 ∧ b = zeN e) → h2 (a, b) = h (a, b)) → zEr ex → zeN ex = zeN e → zEn h2 ex → zPs h2 (zrP W.1 p (W.1 p).1 ex) := fun h2 ex hn hxr hxn hxe => by
        refine ⟨⟨capp, hq.fr (fun a b z => hn a b (by omega))⟩, fun j hj => ?_⟩
        obtain ⟨g1, g2, g3, g4, g5, g6, g7⟩ := hPt j hj
        by_cases hjp : j = p
        · subst hjp
          rw [show zrP W.1 j (W.1 j).1 ex j = ((W.1 j).1, (W.1 j).2.1, (W.1 j).2.2.1, (W.1 j).2.2.2.1, (W.1 j).2.2.2.2.set (W.1 j).1 ex) from if_pos rfl]
          have hnm : zNm ((W.1 j).2.2.2.2.set (W.1 j).1 ex) = zNm (W.1 j).2.2.2.2 := by
            show ((W.1 j).2.2.2.2.set (W.1 j).1 ex).map _ = (W.1 j).2.2.2.2.map _
            rw [List.map_set, hxn, ← hee]
            exact List.set_getElem_self (as := (W.1 j).2.2.2.2.map (fun e => ((8 : Nat), zeN e))) (by rw [List.length_map]; exact hlt) |> fun z => by rw [List.getElem_map] at z; exact z
          refine ⟨(hn _ _ (by omega)).trans g1, by rw [hnm]; exact g2.fr (fun a b z => hn a b (by omega)), fun x hx2 => ?_, g4, g5, by rw [List.length_set]; exact g6, by rw [List.length_set]; exact g7⟩
          obtain ⟨i2, hi2⟩ := List.getElem?_of_mem hx2
          by_cases hi3 : i2 = (W.1 j).1
          · subst hi3
            rw [List.getElem?_set_self hlt] at hi2
            cases hi2
            exact ⟨hxr, hxe⟩
          · rw [List.getElem?_set_ne (fun z => hi3 z.symm)] at hi2
            have hm2 := g3 x (List.mem_of_getElem? hi2)
            exact ⟨hm2.1, (hn _ _ (fun z => hi3 (o5 j i2 x hj hi2 z.2).2)).trans hm2.2⟩
        · rw [show zrP W.1 p (W.1 p).1 ex j = W.1 j from if_neg hjp]
          refine ⟨(hn _ _ (by omega)).trans g1, g2.fr (fun a b z => hn a b (by omega)), fun x hx2 => ?_, g4, g5, g6, g7⟩
          obtain ⟨i2, hi2⟩ := List.getElem?_of_mem hx2
          have hm2 := g3 x hx2
          exact ⟨hm2.1, (hn _ _ (fun z => hjp (o5 j i2 x hj hi2 z.2).1)).trans hm2.2⟩
      have hlm : ∀ ex, zlm (zrP W.1 p (W.1 p).1 ex) 3 0 1000 = zlm W.1 3 0 1000 := fun ex => zlm_same (fun j => by
        by_cases hjp : j = p
        · subst hjp
          rw [show zrP W.1 j (W.1 j).1 ex j = ((W.1 j).1, (W.1 j).2.1, (W.1 j).2.2.1, (W.1 j).2.2.2.1, (W.1 j).2.2.2.2.set (W.1 j).1 ex) from if_pos rfl]
        · rw [show zrP W.1 p (W.1 p).1 ex j = W.1 j from if_neg hjp])
      have hP1 : zPs h1 (zrP W.1 p (W.1 p).1 (e.1, e.2.1, (W.2.1.length, e.2.2.2))) := hPa h1 _ hn1 ⟨e1, e2, e3, e4, (by show W.2.1.length < 240; omega), e6⟩ rfl hs1
      refine zX.sn 1 (pc2 := 87) (l2 := [(5, .inr (8, zeN e)), (0, .inr (10, 0)), (1, zi (p : Int)), (2, zi (m : Int)), (3, .inr (5, p)), (4, zi (k : Int))]) (st2 := [.inr (8, zeN e)]) rfl ?_
      refine zX.sn 1 (pc2 := 88) (l2 := [(5, .inr (8, zeN e)), (0, .inr (10, 0)), (1, zi (p : Int)), (2, zi (m : Int)), (3, .inr (5, p)), (4, zi (k : Int))]) (st2 := [.inr (10, 0), .inr (8, zeN e)]) rfl ?_
      refine zX.call (mid2 := 138) (as := [.inr (10, 0)]) (rest := [.inr (8, zeN e)]) ⟨rfl, rfl⟩ (fun _ => rfl) (zX.inv rfl hf1 rfl rfl) ⟨Nat.le_of_ble_eq_true rfl, Nat.le_of_ble_eq_true rfl⟩ ?_
      refine s_lm (d := d + 5) hf1 hP1 (fun hml => ?_)
      rw [hlm] at hml ⊢
      show zX _ 105 91 [(5, .inr (8, zeN e)), (0, .inr (10, 0)), (1, zi (p : Int)), (2, zi (m : Int)), (3, .inr (5, p)), (4, zi (k : Int))] [zi (zlm W.1 3 0 1000), .inr (8, zeN e)] c s _ _
      refine zX.putf ⟨rfl, rfl⟩ hs1 rfl (by omega) rfl ?_
      show zX _ 105 94 [(5, .inr (8, zeN e)), (0, .inr (10, 0)), (1, zi (p : Int)), (2, zi (m : Int)), (3, .inr (5, p)), (4, zi (k : Int))] [] c s (xup h1 (8, zeN e) (.inl (1, [zi (zeP e : Int), zi (zbi (zeR e)), zi (zbi (zeL e)), zi (zeK e : Int), zi (zeT e : Int), zi (zeV e), zi (W.2.1.length : Int), zi (zlm W.1 3 0 1000), zi (zeB e)]))) _
      generalize hh2 : xup h1 (8, zeN e) (.inl (1, [zi (zeP e : Int), zi (zbi (zeR e)), zi (zbi (zeL e)), zi (zeK e : Int), zi (zeT e : Int), zi (zeV e), zi (W.2.1.length : Int), zi (zlm W.1 3 0 1000), zi (zeB e)])) = h2
      have hs2 : h2 (8, zeN e) = some (.inl (1, [zi (zeP e : Int), zi (zbi (zeR e)), zi (zbi (zeL e)), zi (zeK e : Int), zi (zeT e : Int), zi (zeV e), zi (W.2.1.length : Int), zi (zlm W.1 3 0 1000), zi (zeB e)])) := by
        rw [← hh2]
        exact zup_s
      have hn2 : ∀ a b : Nat, ¬ (a = 8 ∧ b = zeN e) → h2 (a, b) = h (a, b) := fun a b hn => by
        rw [← hh2]
        exact zup_n (zn (by omega)) (hn1 a b hn)
      have c1 := (hn2 5 p (by omega)).trans b1
      have hBd : zeB (zrE W.1 W.2.1 p e) = (if zeR e = true then (zeT e : Int) - ((W.1 p).2.2.1 : Int) else (zeT e : Int)) := rfl
      have hml2 : zlm W.1 3 0 1000 < 1000 := zlm_lt (hPt 0 (by omega)).2.2.2.1.2
      refine zX.sn 1 (pc2 := 96) (l2 := [(5, .inr (8, zeN e)), (0, .inr (10, 0)), (1, zi (p : Int)), (2, zi (m : Int)), (3, .inr (5, p)), (4, zi (k : Int))]) (st2 := [.inr (8, zeN e)]) rfl ?_
      refine zX.sn 1 (pc2 := 98) (l2 := [(5, .inr (8, zeN e)), (0, .inr (10, 0)), (1, zi (p : Int)), (2, zi (m : Int)), (3, .inr (5, p)), (4, zi (k : Int))]) (st2 := [.inr (8, zeN e), .inr (8, zeN e)]) rfl ?_
      refine zX.getf ⟨rfl, rfl⟩ hs2 rfl rfl ?_
      have hbr := zbi_r (zeR e)
      have rest : zX (d + 9) 105 122 [(5, .inr (8, zeN e)), (0, .inr (10, 0)), (1, zi (p : Int)), (2, zi (m : Int)), (3, .inr (5, p)), (4, zi (k : Int))] [zi (zeB (zrE W.1 W.2.1 p e)), .inr (8, zeN e)] c s h2 Q := ?restz
      refine zX.icmp0 (tgt := 117) ⟨rfl, rfl⟩ rfl (by omega) (fun (zb : (zbi (zeR e)) = 0) => ?_) (fun (zb : ¬ (zbi (zeR e)) = 0) => ?_)
      · refine zX.sn 1 (pc2 := 119) (l2 := [(5, .inr (8, zeN e)), (0, .inr (10, 0)), (1, zi (p : Int)), (2, zi (m : Int)), (3, .inr (5, p)), (4, zi (k : Int))]) (st2 := [.inr (8, zeN e), .inr (8, zeN e)]) rfl ?_
        refine zX.getf ⟨rfl, rfl⟩ hs2 rfl rfl ?_
        rw [zbi_0] at zb
        rw [hBd, if_neg (by rw [zb]; decide)] at rest
        exact rest
      · refine zX.sn 1 (pc2 := 106) (l2 := [(5, .inr (8, zeN e)), (0, .inr (10, 0)), (1, zi (p : Int)), (2, zi (m : Int)), (3, .inr (5, p)), (4, zi (k : Int))]) (st2 := [.inr (8, zeN e), .inr (8, zeN e)]) rfl ?_
        refine zX.getf ⟨rfl, rfl⟩ hs2 rfl rfl ?_
        refine zX.sn 1 (pc2 := 110) (l2 := [(5, .inr (8, zeN e)), (0, .inr (10, 0)), (1, zi (p : Int)), (2, zi (m : Int)), (3, .inr (5, p)), (4, zi (k : Int))]) (st2 := [.inr (5, p), zi (zeT e : Int), .inr (8, zeN e)]) rfl ?_
        refine zX.getf ⟨rfl, rfl⟩ c1 rfl rfl ?_
        refine zX.isub ⟨rfl, rfl⟩ ?_
        refine zX.sn 1 (pc2 := 122) (l2 := [(5, .inr (8, zeN e)), (0, .inr (10, 0)), (1, zi (p : Int)), (2, zi (m : Int)), (3, .inr (5, p)), (4, zi (k : Int))]) (st2 := [zi ((zeT e : Int) - ((W.1 p).2.2.1 : Int)), .inr (8, zeN e)]) rfl ?_
        rw [zbi_1] at zb
        rw [hBd, if_pos zb] at rest
        exact rest
      case hE1z =>
        exact ⟨e1, e2, e3, e4, (by show W.2.1.length < 240; omega), (by have h0 := hPt 0 (by omega); have h1 := hPt 1 (by omega); have h2 := hPt 2 (by omega); exact ⟨zlm_ge (fun j hj => (hPt j hj).2.2.2.1.1), zlm_lt h0.2.2.2.1.2⟩)⟩
      case restz =>
        refine zX.putf ⟨rfl, rfl⟩ hs2 rfl (by omega) rfl ?_
        show zX _ 105 125 [(5, .inr (8, zeN e)), (0, .inr (10, 0)), (1, zi (p : Int)), (2, zi (m : Int)), (3, .inr (5, p)), (4, zi (k : Int))] [] c s (xup h2 (8, zeN e) (.inl (1, [zi (zeP e : Int), zi (zbi (zeR e)), zi (zbi (zeL e)), zi (zeK e : Int), zi (zeT e : Int), zi (zeV e), zi (W.2.1.length : Int), zi (zlm W.1 3 0 1000), zi (zeB (zrE W.1 W.2.1 p e))]))) _
        generalize hh3 : xup h2 (8, zeN e) (.inl (1, [zi (zeP e : Int), zi (zbi (zeR e)), zi (zbi (zeL e)), zi (zeK e : Int), zi (zeT e : Int), zi (zeV e), zi (W.2.1.length : Int), zi (zlm W.1 3 0 1000), zi (zeB (zrE W.1 W.2.1 p e))])) = h3
        have hs3 : zEn h3 (zrE W.1 W.2.1 p e) := by
          rw [← hh3]
          exact zup_s
        have hn3 : ∀ a b : Nat, ¬ (a = 8 ∧ b = zeN e) → h3 (a, b) = h (a, b) := fun a b hn => by
          rw [← hh3]
          exact zup_n (zn (by omega)) (hn2 a b hn)
        have hf3 := (hn3 10 0 (by omega)).trans hf
        have hJ3 : zJr h3 capj W.2.1 := ⟨hJ.1.fr (fun a b z => hn3 a b (by omega)), fun x hx => ⟨(hJ.2.1 x hx).1, (hn3 _ _ (fun z => o3 x hx z.2)).trans (hJ.2.1 x hx).2⟩, hJ.2.2⟩
        have hK3 : zKs h3 W.2.1 := hJ3.2.1
        refine zX.sn 1 (pc2 := 126) (l2 := [(5, .inr (8, zeN e)), (0, .inr (10, 0)), (1, zi (p : Int)), (2, zi (m : Int)), (3, .inr (5, p)), (4, zi (k : Int))]) (st2 := [.inr (10, 0)]) rfl ?_
        refine zX.getf ⟨rfl, rfl⟩ hf3 rfl rfl ?_
        refine zX.sn 1 (pc2 := 131) (l2 := [(5, .inr (8, zeN e)), (0, .inr (10, 0)), (1, zi (p : Int)), (2, zi (m : Int)), (3, .inr (5, p)), (4, zi (k : Int))]) (st2 := [.inr (8, zeN e), .inr (15, 0)]) rfl ?_
        refine zX.call (mid2 := 155) (as := [.inr (15, 0), .inr (8, zeN e)]) (rest := []) ⟨rfl, rfl⟩ (fun _ => rfl) (zX.invA rfl hJ3.1 rfl rfl) ⟨Nat.le_of_ble_eq_true rfl, Nat.le_of_ble_eq_true rfl⟩ ?_
        refine s_add (d := d + 2) (x := (8, zeN e)) (xs := zNm W.2.1) (by omega) (by omega) hJ3.1 (by omega) (hK3.el6 (by omega)) (by dsimp only; omega) hs3 rfl (fun h4 capj4 c4 s4 a1 a2 a3 => ?_)
        show zX _ 105 134 [(5, .inr (8, zeN e)), (0, .inr (10, 0)), (1, zi (p : Int)), (2, zi (m : Int)), (3, .inr (5, p)), (4, zi (k : Int))] [zi 1] c4 s4 _ _
        refine zX.sn 1 (pc2 := 135) (l2 := [(5, .inr (8, zeN e)), (0, .inr (10, 0)), (1, zi (p : Int)), (2, zi (m : Int)), (3, .inr (5, p)), (4, zi (k : Int))]) (st2 := []) rfl ?_
        refine zX.sn 1 (pc2 := 136) (l2 := [(5, .inr (8, zeN e)), (0, .inr (10, 0)), (1, zi (p : Int)), (2, zi (m : Int)), (3, .inr (5, p)), (4, zi (k : Int))]) (st2 := [.inr (10, 0)]) rfl ?_
        refine zX.sn 1 (pc2 := 137) (l2 := [(5, .inr (8, zeN e)), (0, .inr (10, 0)), (1, zi (p : Int)), (2, zi (m : Int)), (3, .inr (5, p)), (4, zi (k : Int))]) (st2 := [zi 1, .inr (10, 0)]) rfl ?_
        have hf4 := (a2 10 0 (by omega)).trans hf3
        refine zX.putf ⟨rfl, rfl⟩ hf4 rfl (by decide) rfl ?_
        show zX _ 105 140 [(5, .inr (8, zeN e)), (0, .inr (10, 0)), (1, zi (p : Int)), (2, zi (m : Int)), (3, .inr (5, p)), (4, zi (k : Int))] [] c4 s4 (xup h4 (10, 0) (.inl (10, zFn (zFf true ct uw pr cu pj cj)))) _
        generalize hh5 : xup h4 (10, 0) (.inl (10, zFn (zFf true ct uw pr cu pj cj))) = h5
        have hf5 : h5 (10, 0) = some (.inl (10, zFn (zFf true ct uw pr cu pj cj))) := by
          rw [← hh5]
          exact zup_s
        have hn5 : ∀ a b : Nat, ¬ (a = 10 ∧ b = 0 ∨ 15 ≤ a ∧ a < 17) → h5 (a, b) = h3 (a, b) := fun a b hn => by
          rw [← hh5]
          exact zup_n (zn (by omega)) (a2 a b (by omega))
        have hn54 : ∀ a b : Nat, ¬ (a = 10 ∧ b = 0) → h5 (a, b) = h4 (a, b) := fun a b hn => by
          rw [← hh5]
          exact zup_n (zn (by omega)) rfl
        have hn53 : ∀ a b : Nat, ¬ (a = 8 ∧ b = zeN e ∨ a = 10 ∧ b = 0 ∨ 15 ≤ a ∧ a < 17) → h5 (a, b) = h (a, b) := fun a b hn => (hn5 a b (by omega)).trans (hn3 a b (by omega))
        have he5 : zEn h5 (zrE W.1 W.2.1 p e) := (hn5 _ _ (by omega)).trans hs3
        have hP5 : zPs h5 (zrP W.1 p (W.1 p).1 (zrE W.1 W.2.1 p e)) := (hPa h3 _ hn3 hE1 rfl hs3).mv (fun a b z => hn5 a b (by omega))
        have hJ5 : zJr h5 capj4 (W.2.1 ++ [zrE W.1 W.2.1 p e]) := by
          refine ⟨?_, fun x hx => ?_, by rw [List.length_append]; show W.2.1.length + 1 ≤ 240; omega⟩
          · have hm : (W.2.1 ++ [zrE W.1 W.2.1 p e]).map (fun e => ((8 : Nat), zeN e)) = zNm W.2.1 ++ [(8, zeN e)] := List.map_append
            rw [hm]
            exact a1.fr (fun a b z => hn54 a b (by omega))
          · rcases List.mem_append.mp hx with hx | hx
            · exact ⟨(hJ3.2.1 x hx).1, (hn5 _ _ (by omega)).trans (hJ3.2.1 x hx).2⟩
            · obtain rfl := List.mem_singleton.mp hx
              exact ⟨hE1, he5⟩
        have hA5 : zAL h5 13 0 capv (zVn W.2.2.1) := hA.fr (fun a b z => hn53 a b (by omega))
        have hV5 : zVa h5 N K W.2.2.1 W.2.2.2 := hV.mv8 (n := zeN e) (fun a b z => hn53 a b (by omega)) o4
        have hpe : zeP (zrE W.1 W.2.1 p e) = p := o1
        have hrp : zrP W.1 p (W.1 p).1 (zrE W.1 W.2.1 p e) p = ((W.1 p).1, (W.1 p).2.1, (W.1 p).2.2.1, (W.1 p).2.2.2.1, (W.1 p).2.2.2.2.set (W.1 p).1 (zrE W.1 W.2.1 p e)) := if_pos rfl
        have hB : -1000 ≤ zeB (zrE W.1 W.2.1 p e) ∧ zeB (zrE W.1 W.2.1 p e) < 1000 := by
          rw [hBd]
          split <;> omega
        refine zX.sn 1 (pc2 := 141) (l2 := [(5, .inr (8, zeN e)), (0, .inr (10, 0)), (1, zi (p : Int)), (2, zi (m : Int)), (3, .inr (5, p)), (4, zi (k : Int))]) (st2 := [.inr (10, 0)]) rfl ?_
        refine zX.sn 1 (pc2 := 143) (l2 := [(5, .inr (8, zeN e)), (0, .inr (10, 0)), (1, zi (p : Int)), (2, zi (m : Int)), (3, .inr (5, p)), (4, zi (k : Int))]) (st2 := [.inr (8, zeN e), .inr (10, 0)]) rfl ?_
        refine zX.call (mid2 := 139) (as := [.inr (10, 0), .inr (8, zeN e)]) (rest := []) ⟨rfl, rfl⟩ (fun _ => rfl) (zX.inv rfl hf5 rfl rfl) ⟨Nat.le_of_ble_eq_true rfl, Nat.le_of_ble_eq_true rfl⟩ ?_
        refine s_apply (d := d) (e := zrE W.1 W.2.1 p e) hE1 hB hf5 hA5 hV5 he5 hP5 (by rw [hpe, hrp]; dsimp only; rw [List.length_set]; exact hlt) o6 o7 (fun h6 N6 K6 c6 s6 d1 d2 d3 d4 d5 => ?_)
        show zX _ 105 146 [(5, .inr (8, zeN e)), (0, .inr (10, 0)), (1, zi (p : Int)), (2, zi (m : Int)), (3, .inr (5, p)), (4, zi (k : Int))] [] c6 s6 _ _
        refine zX.s1 (pc2 := 149) (l2 := [(4, zi ((k : Int) + 1)), (5, .inr (8, zeN e)), (0, .inr (10, 0)), (1, zi (p : Int)), (2, zi (m : Int)), (3, .inr (5, p))]) (st2 := []) ⟨rfl, rfl⟩ (by rw [show (zi ((k : Int) + 1) : xV) = .inl (.int (Int32.ofInt (k : Int) + 1)) from congrArg (fun z => (.inl (.int z) : xV)) (Int32.ofInt_add _ _)]; rfl) ?_
        refine zX.sn 1 (pc2 := 30) (l2 := [(4, zi ((k : Int) + 1)), (5, .inr (8, zeN e)), (0, .inr (10, 0)), (1, zi (p : Int)), (2, zi (m : Int)), (3, .inr (5, p))]) (st2 := []) rfl ?_
        refine zX.re [(0, .inr (10, 0)), (1, zi (p : Int)), (2, zi (m : Int)), (3, .inr (5, p)), (4, zi ((k : Int) + 1))] [2, 3, 4, 5, 0] [4, 5, 0, 1, 2, 3] rfl rfl (by decide) ?_
        have hVn : zVn (zrS1 p W e).2.2.1 = zVn W.2.2.1 := by
          show (List.range (zrS1 p W e).2.2.1.length).map (fun i => ((20 : Nat), i)) = _
          rw [show (zrS1 p W e).2.2.1.length = W.2.2.1.length from d2]
        have hk1 : ((k : Int) + 1) = ((k + 1 : Nat) : Int) := rfl
        rw [hk1]
        refine ih (k + 1) (zrS1 p W e) true h6 N6 capj4 K6 c6 s6 (by omega) hW1 ((d4 _ _ (by omega)).trans hf5) (by rw [hVn]; exact hA5.fr (fun a b z => d4 a b (by omega))) d1 d3 ⟨hJ5.1.fr (fun a b z => d4 a b (by omega)), fun x hx => ⟨(hJ5.2.1 x hx).1, (d4 _ _ (by omega)).trans (hJ5.2.1 x hx).2⟩, hJ5.2.2⟩ (fun h7 N7 K7 capj7 rd7 c7 s7 g1 g2 g3 g4 g5 g6 g7 g8 g9 g10 g11 => ?_)
        have hcc : k + (zrC p n (zrS1 p W e) + 1) = k + 1 + zrC p n (zrS1 p W e) := by omega
        rw [hcc] at q
        have ha3 : capj ≤ capj4 := a3.1
        have ha4 : c4 + capj ≤ c + capj4 := a3.2.1
        have ha5 : s4 + 4 * capj ≤ s + 4 * capj4 := a3.2.2
        refine q h7 N7 K7 capj7 rd7 c7 s7 g1 g2 g3 (g4.trans d2) g5 g6 g7 (Or.inl (by rcases g8 with z | z; exact z; exact z.1)) (fun a b hn => (g9 a b hn).trans ((d4 a b (by omega)).trans (hn53 a b (by omega)))) (fun b hb => g10 b ?_) ⟨by have := d5.1; have := g11.1; omega, by have := d5.2.1; have := g11.2.1; omega, by have := d5.2.2; have := g11.2.2; omega⟩
        by_cases hbe : b = zeN e
        · subst hbe
          exact absurd (hb.symm.trans he) (by intro z; cases z)
        · exact (d4 _ _ (by omega)).trans ((hn53 _ _ (by omega)).trans hb)
end YD9d
