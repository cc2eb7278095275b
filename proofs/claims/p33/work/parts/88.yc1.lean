set_option maxRecDepth 100000
section YC88
variable {d : Nat} {Q : xR → Nat → Nat → xH → Prop}
theorem zVi.out {h : xH} {N k1 k2 k3 v : Nat} {C : zCf} {T : zSt × List Int64} (hV : zVi h N k1 k2 k3 v C T) : zOut h N T.2 := by
  rcases hV with ⟨c, r, v1, v2, v3, v4, v5, v6⟩ | ⟨c, r, v1, v2, v3, v4, v5, v6, v7, v8⟩ | ⟨c, r, ⟨v1, v2, v3, v4, v5, v6⟩, v7⟩ | ⟨c, r, ⟨v1, v2, v3, v4, v5, v6, v7⟩, v9, v10⟩
  · exact v5
  · exact v7
  · exact v5
  · exact v6
theorem zVi.ob {h : xH} {N k1 k2 k3 v : Nat} {C : zCf} {T : zSt × List Int64} (hV : zVi h N k1 k2 k3 v C T) : ∃ fs, h (20, v) = some (.inl (C.1, fs)) ∧ (C.1 = 2 ∨ C.1 = 6 ∨ C.1 = 8 ∨ C.1 = 9) := by
  rcases hV with ⟨c, r, v1, -⟩ | ⟨c, r, v1, -⟩ | ⟨c, r, ⟨v1, -⟩, -⟩ | ⟨c, r, ⟨v1, -⟩, -, -⟩
  · exact ⟨_, by rw [c.1]; exact v1, by omega⟩
  · exact ⟨_, by rw [c.1]; exact v1, by omega⟩
  · exact ⟨_, by rw [c.1]; exact v1, by omega⟩
  · exact ⟨_, by rw [c]; exact v1, by omega⟩
/-- the views' kinds and states -/
abbrev zVL : Type := List (zCf × zSt)
/-- room of the lists of the views -/
abbrev zKp : Type := Nat → Nat × Nat × Nat
def zKu (K : zKp) (i : Nat) (q : Nat × Nat × Nat) : zKp := fun j => if j = i then q else K j
def zK1 (q : Nat × Nat × Nat) : Nat := q.1 + q.2.1 + q.2.2
def zKm (K : zKp) : Nat → Nat
  | 0 => 0
  | n + 1 => zKm K n + zK1 (K n)
theorem zKm_ge {K : zKp} {i : Nat} {q : Nat × Nat × Nat} : ∀ n, n ≤ i → zKm (zKu K i q) n = zKm K n := by
  intro n
  induction n with
  | zero => intro _; rfl
  | succ n ih =>
    intro hn
    show zKm (zKu K i q) n + zK1 (zKu K i q n) = zKm K n + zK1 (K n)
    rw [ih (by omega), show zKu K i q n = K n from if_neg (by omega)]
theorem zKm_u {K : zKp} {i : Nat} {q : Nat × Nat × Nat} : ∀ n, i < n → zKm (zKu K i q) n + zK1 (K i) = zKm K n + zK1 q := by
  intro n
  induction n with
  | zero => intro hn; omega
  | succ n ih =>
    intro hn
    show zKm (zKu K i q) n + zK1 (zKu K i q n) + zK1 (K i) = zKm K n + zK1 (K n) + zK1 q
    by_cases hi : i = n
    · subst hi
      rw [zKm_ge i (Nat.le_refl _), show zKu K i q i = q from if_pos rfl]
      omega
    · rw [show zKu K i q n = K n from if_neg (by omega)]
      have := ih (by omega)
      omega
def zVa (h : xH) (N : Nat) (K : zKp) (L : zVL) (out : List Int64) : Prop := zOut h N out ∧ (L.length ≤ 5 ∧ ∀ j, L.length ≤ j → K j = (0, 0, 0)) ∧ ∀ (i : Nat) (C : zCf) (S : zSt), L[i]? = some (C, S) → zVi h N (K i).1 (K i).2.1 (K i).2.2 i C (S, out)
theorem zVa.upd {h h1 : xH} {N N1 i : Nat} {K : zKp} {q : Nat × Nat × Nat} {L : zVL} {out : List Int64} {C : zCf} {S : zSt} {T1 : zSt × List Int64} (hA : zVa h N K L out) (hi : L[i]? = some (C, S)) (hV : zVi h1 N1 q.1 q.2.1 q.2.2 i C T1) (hF : zFv i h h1) : zVa h1 N1 (zKu K i q) (L.set i (C, T1.1)) T1.2 := by
  have hilt : i < L.length := (List.getElem?_eq_some_iff.mp hi).1
  refine ⟨hV.out, by rw [List.length_set]; exact ⟨hA.2.1.1, fun j hj => (if_neg (by omega)).trans (hA.2.1.2 j hj)⟩, fun j C2 S2 hj => ?_⟩
  by_cases hij : j = i
  · subst hij
    have hlt : j < L.length := (List.getElem?_eq_some_iff.mp hi).1
    rw [List.getElem?_set_self hlt] at hj
    cases hj
    rw [show zKu K j q j = q from if_pos rfl]
    exact hV
  · rw [List.getElem?_set_ne (fun z => hij z.symm)] at hj
    have hj5 : j < L.length := (List.getElem?_eq_some_iff.mp hj).1
    have hi5 : i < L.length := (List.getElem?_eq_some_iff.mp hi).1
    have hl := hA.2.1
    rw [show zKu K i q j = K j from if_neg hij]
    exact (hA.2.2 j C2 S2 hj).mv (by omega) hV.out (fun a b z => hF a b (by omega))
/-- what stays as it is where a view works -/
theorem zVa.mv {h h1 : xH} {N : Nat} {K : zKp} {L : zVL} {out : List Int64} (hA : zVa h N K L out) (e : ∀ a b : Nat, (20 ≤ a ∧ a < 60) ∨ (2 ≤ a ∧ a < 4) ∨ a = 0 ∨ a = 8 → h1 (a, b) = h (a, b)) : zVa h1 N K L out := by
  have hO : zOut h1 N out := hA.1.fr (fun a b z => e a b (by omega))
  refine ⟨hO, hA.2.1, fun j C S hj => ?_⟩
  have hj5 : j < L.length := (List.getElem?_eq_some_iff.mp hj).1
  have hl := hA.2.1
  exact (hA.2.2 j C S hj).mv (by omega) hO (fun a b z => e a b (by omega))
/-- the names of the views -/
abbrev zVn (L : zVL) : List (Nat × Nat) := (List.range L.length).map (fun i => (20, i))
theorem zVn_at {L : zVL} {i : Nat} (h : i < L.length) : (zVn L)[i]? = some (20, i) := by
  rw [List.getElem?_map, List.getElem?_range h]
  rfl
theorem zVn_len {L : zVL} : (zVn L).length = L.length := by rw [List.length_map, List.length_range]
/-- what all views' work may touch -/
abbrev zFa (h h1 : xH) : Prop := ∀ a b : Nat, ¬ ((20 ≤ a ∧ a < 60) ∨ (2 ≤ a ∧ a < 4)) → h1 (a, b) = h (a, b)
theorem zFv.all {v : Nat} {h h1 : xH} (f : zFv v h h1) : zFa h h1 := fun a b hn => f a b (by omega)
theorem zFa.tr {h h1 h2 : xH} (a : zFa h h1) (b : zFa h1 h2) : zFa h h2 := fun x y z => (b x y z).trans (a x y z)
/-- a row goes to the i-th view -/
noncomputable def zaT1 (e : zE) (i : Nat) (G : zVL × List Int64) : zVL × List Int64 := match G.1[i]? with
  | some X => if zLet (zbs X.1) X.1.2.1 e = true then (G.1.set i (X.1, (zuTake i X.1 e (X.2, G.2)).1), (zuTake i X.1 e (X.2, G.2)).2) else G
  | none => G
noncomputable def zaT (e : zE) : Nat → Nat → zVL × List Int64 → zVL × List Int64
  | 0, _, G => G
  | n + 1, i, G => zaT e n (i + 1) (zaT1 e i G)
/-- every view's numbers allow that a row is taken -/
def zaOk (G : zVL × List Int64) : Prop := ∀ (i : Nat) (C : zCf) (S : zSt), G.1[i]? = some (C, S) → zuOk C (S, G.2)
/-- the foundry's fields that point to lists -/
abbrev zFn (fs : List xV) : List xV := .inr (11, 0) :: .inr (13, 0) :: .inr (15, 0) :: .inr (2, 0) :: .inr (17, 0) :: .inr (18, 0) :: fs
theorem l_ap1 {e : zE} {capv : Nat} {fs : List xV} (hE : zEr e) : ∀ (n i : Nat) (G : zVL × List Int64) (h : xH) (N : Nat) (K : zKp) (c s : Nat), i + n = G.1.length → (∀ j, j ≤ n → zaOk (zaT e j i G)) → h (10, 0) = some (.inl (10, zFn fs)) → zAL h 13 0 capv (zVn G.1) → zVa h N K G.1 G.2 → zEn h e →
    (∀ h1 N1 K1 c1 s1, zVa h1 N1 K1 (zaT e n i G).1 (zaT e n i G).2 → (zaT e n i G).1.length = G.1.length → zFa h h1 → zCo (N + zKm K 5) c s (N1 + zKm K1 5) c1 s1 → zX (d + 8) 139 44 [(0, .inr (10, 0)), (1, .inr (8, zeN e))] [] c1 s1 h1 Q) → zX (d + 8) 139 2 [(0, .inr (10, 0)), (1, .inr (8, zeN e)), (2, zi (i : Int))] [] c s h Q := by
  intro n
  induction n with
  | zero =>
    intro i G h N K c s hi hok hf hA hV he q
    have hl := hV.2.1
    have hnl : (zVn G.1).length = G.1.length := zVn_len
    refine zX.sn 1 (pc2 := 3) (l2 := [(0, .inr (10, 0)), (1, .inr (8, zeN e)), (2, zi (i : Int))]) (st2 := [zi (i : Int)]) rfl ?_
    refine zX.sn 1 (pc2 := 4) (l2 := [(0, .inr (10, 0)), (1, .inr (8, zeN e)), (2, zi (i : Int))]) (st2 := [.inr (10, 0), zi (i : Int)]) rfl ?_
    refine zX.getf ⟨rfl, rfl⟩ hf rfl rfl ?_
    refine zX.call (mid2 := 150) (as := [.inr (13, 0)]) (rest := [zi (i : Int)]) ⟨rfl, rfl⟩ (fun _ => rfl) (zX.invA rfl hA rfl rfl) ⟨Nat.le_of_ble_eq_true rfl, Nat.le_of_ble_eq_true rfl⟩ ?_
    refine s_size hA ?_
    show zX _ 139 10 [(0, .inr (10, 0)), (1, .inr (8, zeN e)), (2, zi (i : Int))] [zi ((zVn G.1).length : Int), zi (i : Int)] c s _ _
    refine zX.icmp (tgt := 44) ⟨rfl, rfl⟩ rfl (by omega) (by omega) (fun _ => ?_) (fun (zz : (i : Int) < ((zVn G.1).length : Int)) => absurd zz (by omega))
    refine zX.re [(0, .inr (10, 0)), (1, .inr (8, zeN e))] [0, 1] [0, 1, 2] rfl rfl (by decide) ?_
    exact q h N K c s hV rfl (fun _ _ _ => rfl) zCo.rf
  | succ n ih =>
    intro i G h N K c s hi hok hf hA hV he q
    have hl := hV.2.1
    have hlt : i < G.1.length := by omega
    have hnl : (zVn G.1).length = G.1.length := zVn_len
    have hx := List.getElem?_eq_getElem hlt
    have hVi := hV.2.2 i G.1[i].1 G.1[i].2 hx
    have hok0 := hok 0 (by omega) i G.1[i].1 G.1[i].2 hx
    obtain ⟨fs2, hob, hci⟩ := hVi.ob
    have hT1 : zaT1 e i G = if zLet (zbs G.1[i].1) G.1[i].1.2.1 e = true then (G.1.set i (G.1[i].1, (zuTake i G.1[i].1 e (G.1[i].2, G.2)).1), (zuTake i G.1[i].1 e (G.1[i].2, G.2)).2) else G := by
      unfold zaT1
      rw [hx]
    refine zX.sn 1 (pc2 := 3) (l2 := [(0, .inr (10, 0)), (1, .inr (8, zeN e)), (2, zi (i : Int))]) (st2 := [zi (i : Int)]) rfl ?_
    refine zX.sn 1 (pc2 := 4) (l2 := [(0, .inr (10, 0)), (1, .inr (8, zeN e)), (2, zi (i : Int))]) (st2 := [.inr (10, 0), zi (i : Int)]) rfl ?_
    refine zX.getf ⟨rfl, rfl⟩ hf rfl rfl ?_
    refine zX.call (mid2 := 150) (as := [.inr (13, 0)]) (rest := [zi (i : Int)]) ⟨rfl, rfl⟩ (fun _ => rfl) (zX.invA rfl hA rfl rfl) ⟨Nat.le_of_ble_eq_true rfl, Nat.le_of_ble_eq_true rfl⟩ ?_
    refine s_size hA ?_
    show zX _ 139 10 [(0, .inr (10, 0)), (1, .inr (8, zeN e)), (2, zi (i : Int))] [zi ((zVn G.1).length : Int), zi (i : Int)] c s _ _
    refine zX.icmp (tgt := 44) ⟨rfl, rfl⟩ rfl (by omega) (by omega) (fun (zz : ((zVn G.1).length : Int) ≤ (i : Int)) => absurd zz (by omega)) (fun _ => ?_)
    refine zX.sn 1 (pc2 := 14) (l2 := [(0, .inr (10, 0)), (1, .inr (8, zeN e)), (2, zi (i : Int))]) (st2 := [.inr (10, 0)]) rfl ?_
    refine zX.getf ⟨rfl, rfl⟩ hf rfl rfl ?_
    refine zX.sn 1 (pc2 := 18) (l2 := [(0, .inr (10, 0)), (1, .inr (8, zeN e)), (2, zi (i : Int))]) (st2 := [zi (i : Int), .inr (13, 0)]) rfl ?_
    refine zX.call (mid2 := 153) (as := [.inr (13, 0), zi (i : Int)]) (rest := []) ⟨rfl, rfl⟩ (fun _ => rfl) (zX.invA rfl hA rfl rfl) ⟨Nat.le_of_ble_eq_true rfl, Nat.le_of_ble_eq_true rfl⟩ ?_
    refine s_get (j := i) (x := (20, i)) rfl (by omega) hA (zVn_at hlt) ?_
    show zX _ 139 21 [(0, .inr (10, 0)), (1, .inr (8, zeN e)), (2, zi (i : Int))] [.inr (20, i)] c s _ _
    refine zX.cast ⟨rfl, rfl⟩ hob (by rcases hci with z | z | z | z <;> (rw [z]; rfl)) ?_
    refine zX.sn 1 (pc2 := 25) (l2 := [(3, .inr (20, i)), (0, .inr (10, 0)), (1, .inr (8, zeN e)), (2, zi (i : Int))]) (st2 := []) rfl ?_
    refine zX.sn 1 (pc2 := 26) (l2 := [(3, .inr (20, i)), (0, .inr (10, 0)), (1, .inr (8, zeN e)), (2, zi (i : Int))]) (st2 := [.inr (20, i)]) rfl ?_
    refine zX.sn 1 (pc2 := 27) (l2 := [(3, .inr (20, i)), (0, .inr (10, 0)), (1, .inr (8, zeN e)), (2, zi (i : Int))]) (st2 := [.inr (8, zeN e), .inr (20, i)]) rfl ?_
    refine u_lets hE he hVi (fun z => ?_) (fun z => ?_)
    · refine zX.icmp0 (tgt := 38) ⟨rfl, rfl⟩ rfl (by omega) (fun _ => ?_) (fun (zz : ¬ 0 = 0) => absurd zz (by omega))
      refine zX.s1 (pc2 := 41) (l2 := [(2, zi ((i : Int) + 1)), (3, .inr (20, i)), (0, .inr (10, 0)), (1, .inr (8, zeN e))]) (st2 := []) ⟨rfl, rfl⟩ (by rw [show (zi ((i : Int) + 1) : xV) = .inl (.int (Int32.ofInt (i : Int) + 1)) from congrArg (fun z => (.inl (.int z) : xV)) (Int32.ofInt_add _ _)]; rfl) ?_
      refine zX.sn 1 (pc2 := 2) (l2 := [(2, zi ((i : Int) + 1)), (3, .inr (20, i)), (0, .inr (10, 0)), (1, .inr (8, zeN e))]) (st2 := []) rfl ?_
      refine zX.re [(0, .inr (10, 0)), (1, .inr (8, zeN e)), (2, zi ((i : Int) + 1))] [2, 3, 0] [2, 3, 0, 1] rfl rfl (by decide) ?_
      have hT2 : zaT1 e i G = G := by rw [hT1, if_neg (by rw [z]; decide)]
      have hok1 : ∀ j, j ≤ n → zaOk (zaT e j (i + 1) G) := fun j hj => by
        have := hok (j + 1) (by omega)
        rw [show zaT e (j + 1) i G = zaT e j (i + 1) (zaT1 e i G) from rfl, hT2] at this
        exact this
      rw [show zaT e (n + 1) i G = zaT e n (i + 1) (zaT1 e i G) from rfl, hT2] at q
      exact ih (i + 1) G h N K c s (by omega) hok1 hf hA hV he q
    · refine zX.icmp0 (tgt := 38) ⟨rfl, rfl⟩ rfl (by omega) (fun (zz : 1 = 0) => absurd zz (by omega)) (fun _ => ?_)
      refine zX.sn 1 (pc2 := 34) (l2 := [(3, .inr (20, i)), (0, .inr (10, 0)), (1, .inr (8, zeN e)), (2, zi (i : Int))]) (st2 := [.inr (20, i)]) rfl ?_
      refine zX.sn 1 (pc2 := 35) (l2 := [(3, .inr (20, i)), (0, .inr (10, 0)), (1, .inr (8, zeN e)), (2, zi (i : Int))]) (st2 := [.inr (8, zeN e), .inr (20, i)]) rfl ?_
      refine u_take hE he hok0 hVi (fun h1 N1 q1 q2 q3 c1 s1 a1 a2 a3 => ?_)
      refine zX.s1 (pc2 := 41) (l2 := [(2, zi ((i : Int) + 1)), (3, .inr (20, i)), (0, .inr (10, 0)), (1, .inr (8, zeN e))]) (st2 := []) ⟨rfl, rfl⟩ (by rw [show (zi ((i : Int) + 1) : xV) = .inl (.int (Int32.ofInt (i : Int) + 1)) from congrArg (fun z => (.inl (.int z) : xV)) (Int32.ofInt_add _ _)]; rfl) ?_
      refine zX.sn 1 (pc2 := 2) (l2 := [(2, zi ((i : Int) + 1)), (3, .inr (20, i)), (0, .inr (10, 0)), (1, .inr (8, zeN e))]) (st2 := []) rfl ?_
      refine zX.re [(0, .inr (10, 0)), (1, .inr (8, zeN e)), (2, zi ((i : Int) + 1))] [2, 3, 0] [2, 3, 0, 1] rfl rfl (by decide) ?_
      have hT2 : zaT1 e i G = (G.1.set i (G.1[i].1, (zuTake i G.1[i].1 e (G.1[i].2, G.2)).1), (zuTake i G.1[i].1 e (G.1[i].2, G.2)).2) := by rw [hT1, if_pos z]
      have hok1 : ∀ j, j ≤ n → zaOk (zaT e j (i + 1) (zaT1 e i G)) := fun j hj => hok (j + 1) (by omega)
      have hln : (zaT1 e i G).1.length = G.1.length := by rw [hT2]; exact List.length_set
      have hVn : zVn (zaT1 e i G).1 = zVn G.1 := by
        show (List.range (zaT1 e i G).1.length).map (fun i => ((20 : Nat), i)) = _
        rw [hln]
      have hV1 : zVa h1 N1 (zKu K i (q1, q2, q3)) (zaT1 e i G).1 (zaT1 e i G).2 := by
        rw [hT2]
        exact hV.upd hx (q := (q1, q2, q3)) a1 a2
      have hu := zKm_u (K := K) (i := i) (q := (q1, q2, q3)) 5 (by omega)
      have hu1 : zK1 (q1, q2, q3) = q1 + q2 + q3 := rfl
      have hu2 : zK1 (K i) = (K i).1 + (K i).2.1 + (K i).2.2 := rfl
      refine ih (i + 1) (zaT1 e i G) h1 N1 (zKu K i (q1, q2, q3)) c1 s1 (by omega) hok1 ((a2 _ _ (by omega)).trans hf) (by rw [hVn]; exact hA.fr (fun a b z => a2 a b (by omega))) hV1 (he.fr a2) (fun h2 N2 K2 c2 s2 b1 b2 b3 b4 => ?_)
      exact q h2 N2 K2 c2 s2 b1 (b2.trans hln) (zFa.tr (zFv.all a2) b3) ⟨by have := a3.1; have := b4.1; omega, by have := a3.2.1; have := b4.2.1; omega, by have := a3.2.2; have := b4.2.2; omega⟩
end YC88
