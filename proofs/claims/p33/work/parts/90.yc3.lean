set_option maxRecDepth 100000
section YC90
variable {d : Nat} {Q : xR → Nat → Nat → xH → Prop}
theorem zlm_le {P : Nat → zPT} : ∀ (n p : Nat) (a : Int), zlm P n p a ≤ a := by
  intro n
  induction n with
  | zero => intro p a; exact Int.le_refl _
  | succ n ih =>
    intro p a
    have h1 := ih (p + 1) (if (P p).2.1 < a then (P p).2.1 else a)
    show zlm P n (p + 1) (if (P p).2.1 < a then (P p).2.1 else a) ≤ a
    split at h1
    · rw [if_pos (by assumption)]; omega
    · rw [if_neg (by assumption)]; exact h1
theorem zlm_lt {P : Nat → zPT} (h : (P 0).2.1 < 1000) : zlm P 3 0 1000 < 1000 := by
  have h1 := zlm_le (P := P) 2 1 (if (P 0).2.1 < 1000 then (P 0).2.1 else 1000)
  rw [if_pos h] at h1
  show zlm P 2 1 (if (P 0).2.1 < 1000 then (P 0).2.1 else 1000) < 1000
  rw [if_pos h]
  omega
/-- the i-th view tells what is due, and lets go -/
noncomputable def zaD1 (b m : Int) (i : Nat) (G : zVL × List Int64) : zVL × List Int64 := match G.1[i]? with
  | some X => (G.1.set i (X.1, (zuGo X.1 b m (zuDue i X.1 b m (X.2, G.2))).1), (zuGo X.1 b m (zuDue i X.1 b m (X.2, G.2))).2)
  | none => G
noncomputable def zaD (b m : Int) : Nat → Nat → zVL × List Int64 → zVL × List Int64
  | 0, _, G => G
  | n + 1, i, G => zaD b m n (i + 1) (zaD1 b m i G)
def zaOkD (b m : Int) (G : zVL × List Int64) : Prop := ∀ (i : Nat) (C : zCf) (S : zSt), G.1[i]? = some (C, S) → zuOk C (S, G.2) ∧ zuOk C (zuDue i C b m (S, G.2))
set_option maxHeartbeats 4000000 in
theorem l_ap2 {e : zE} {capv : Nat} {fs : List xV} {m : Int} (hE : zEr e) (hm : -1 ≤ m ∧ m < 1000) : ∀ (n i : Nat) (G : zVL × List Int64) (h : xH) (N : Nat) (K : zKp) (c s : Nat), i + n = G.1.length → (∀ j, j ≤ n → zaOkD (zeA e) m (zaD (zeA e) m j i G)) → h (10, 0) = some (.inl (10, zFn fs)) → zAL h 13 0 capv (zVn G.1) → zVa h N K G.1 G.2 → zEn h e →
    (∀ h1 N1 K1 c1 s1, zVa h1 N1 K1 (zaD (zeA e) m n i G).1 (zaD (zeA e) m n i G).2 → (zaD (zeA e) m n i G).1.length = G.1.length → zFa h h1 → zCo (N + zKm K 5) c s (N1 + zKm K1 5) c1 s1 → Q (.inl none) c1 s1 h1) → zX (d + 8) 139 94 [(0, .inr (10, 0)), (1, .inr (8, zeN e)), (3, zi m), (4, zi (i : Int))] [] c s h Q := by
  obtain ⟨e1, e2, e3, e4, e5, e6⟩ := id hE
  intro n
  induction n with
  | zero =>
    intro i G h N K c s hi hok hf hA hV he q
    have hl := hV.2.1
    have hnl : (zVn G.1).length = G.1.length := zVn_len
    refine zX.sn 1 (pc2 := 96) (l2 := [(0, .inr (10, 0)), (1, .inr (8, zeN e)), (3, zi m), (4, zi (i : Int))]) (st2 := [zi (i : Int)]) rfl ?_
    refine zX.sn 1 (pc2 := 97) (l2 := [(0, .inr (10, 0)), (1, .inr (8, zeN e)), (3, zi m), (4, zi (i : Int))]) (st2 := [.inr (10, 0), zi (i : Int)]) rfl ?_
    refine zX.getf ⟨rfl, rfl⟩ hf rfl rfl ?_
    refine zX.call (mid2 := 150) (as := [.inr (13, 0)]) (rest := [zi (i : Int)]) ⟨rfl, rfl⟩ (fun _ => rfl) (zX.invA rfl hA rfl rfl) ⟨Nat.le_of_ble_eq_true rfl, Nat.le_of_ble_eq_true rfl⟩ ?_
    refine s_size hA ?_
    show zX _ 139 103 [(0, .inr (10, 0)), (1, .inr (8, zeN e)), (3, zi m), (4, zi (i : Int))] [zi ((zVn G.1).length : Int), zi (i : Int)] c s _ _
    refine zX.icmp (tgt := 146) ⟨rfl, rfl⟩ rfl (by omega) (by omega) (fun _ => ?_) (fun (zz : (i : Int) < ((zVn G.1).length : Int)) => absurd zz (by omega))
    refine zX.ret rfl rfl ?_
    exact q h N K c s hV rfl (fun _ _ _ => rfl) zCo.rf
  | succ n ih =>
    intro i G h N K c s hi hok hf hA hV he q
    have hl := hV.2.1
    have hlt : i < G.1.length := by omega
    have hnl : (zVn G.1).length = G.1.length := zVn_len
    have hx := List.getElem?_eq_getElem hlt
    have hVi := hV.2.2 i G.1[i].1 G.1[i].2 hx
    have hok0 := hok 0 (by omega) i G.1[i].1 G.1[i].2 hx
    obtain ⟨fs2, hob, hci⟩ := hVi.ob
    refine zX.sn 1 (pc2 := 96) (l2 := [(0, .inr (10, 0)), (1, .inr (8, zeN e)), (3, zi m), (4, zi (i : Int))]) (st2 := [zi (i : Int)]) rfl ?_
    refine zX.sn 1 (pc2 := 97) (l2 := [(0, .inr (10, 0)), (1, .inr (8, zeN e)), (3, zi m), (4, zi (i : Int))]) (st2 := [.inr (10, 0), zi (i : Int)]) rfl ?_
    refine zX.getf ⟨rfl, rfl⟩ hf rfl rfl ?_
    refine zX.call (mid2 := 150) (as := [.inr (13, 0)]) (rest := [zi (i : Int)]) ⟨rfl, rfl⟩ (fun _ => rfl) (zX.invA rfl hA rfl rfl) ⟨Nat.le_of_ble_eq_true rfl, Nat.le_of_ble_eq_true rfl⟩ ?_
    refine s_size hA ?_
    show zX _ 139 103 [(0, .inr (10, 0)), (1, .inr (8, zeN e)), (3, zi m), (4, zi (i : Int))] [zi ((zVn G.1).length : Int), zi (i : Int)] c s _ _
    refine zX.icmp (tgt := 146) ⟨rfl, rfl⟩ rfl (by omega) (by omega) (fun (zz : ((zVn G.1).length : Int) ≤ (i : Int)) => absurd zz (by omega)) (fun _ => ?_)
    refine zX.sn 1 (pc2 := 107) (l2 := [(0, .inr (10, 0)), (1, .inr (8, zeN e)), (3, zi m), (4, zi (i : Int))]) (st2 := [.inr (10, 0)]) rfl ?_
    refine zX.getf ⟨rfl, rfl⟩ hf rfl rfl ?_
    refine zX.sn 1 (pc2 := 112) (l2 := [(0, .inr (10, 0)), (1, .inr (8, zeN e)), (3, zi m), (4, zi (i : Int))]) (st2 := [zi (i : Int), .inr (13, 0)]) rfl ?_
    refine zX.call (mid2 := 153) (as := [.inr (13, 0), zi (i : Int)]) (rest := []) ⟨rfl, rfl⟩ (fun _ => rfl) (zX.invA rfl hA rfl rfl) ⟨Nat.le_of_ble_eq_true rfl, Nat.le_of_ble_eq_true rfl⟩ ?_
    refine s_get (j := i) (x := (20, i)) rfl (by omega) hA (zVn_at hlt) ?_
    show zX _ 139 115 [(0, .inr (10, 0)), (1, .inr (8, zeN e)), (3, zi m), (4, zi (i : Int))] [.inr (20, i)] c s _ _
    refine zX.cast ⟨rfl, rfl⟩ hob (by rcases hci with z | z | z | z <;> (rw [z]; rfl)) ?_
    refine zX.sn 1 (pc2 := 120) (l2 := [(5, .inr (20, i)), (0, .inr (10, 0)), (1, .inr (8, zeN e)), (3, zi m), (4, zi (i : Int))]) (st2 := []) rfl ?_
    refine zX.sn 1 (pc2 := 122) (l2 := [(5, .inr (20, i)), (0, .inr (10, 0)), (1, .inr (8, zeN e)), (3, zi m), (4, zi (i : Int))]) (st2 := [.inr (20, i)]) rfl ?_
    refine zX.sn 1 (pc2 := 123) (l2 := [(5, .inr (20, i)), (0, .inr (10, 0)), (1, .inr (8, zeN e)), (3, zi m), (4, zi (i : Int))]) (st2 := [.inr (8, zeN e), .inr (20, i)]) rfl ?_
    refine zX.getf ⟨rfl, rfl⟩ he rfl rfl ?_
    refine zX.sn 1 (pc2 := 127) (l2 := [(5, .inr (20, i)), (0, .inr (10, 0)), (1, .inr (8, zeN e)), (3, zi m), (4, zi (i : Int))]) (st2 := [zi m, zi (zeA e), .inr (20, i)]) rfl ?_
    refine u_due e6 hm hok0.1 hVi (fun h1 N1 q1 q2 q3 c1 s1 a1 a2 a3 => ?_)
    have he1 : zEn h1 e := he.fr a2
    refine zX.sn 1 (pc2 := 132) (l2 := [(5, .inr (20, i)), (0, .inr (10, 0)), (1, .inr (8, zeN e)), (3, zi m), (4, zi (i : Int))]) (st2 := [.inr (20, i)]) rfl ?_
    refine zX.sn 1 (pc2 := 133) (l2 := [(5, .inr (20, i)), (0, .inr (10, 0)), (1, .inr (8, zeN e)), (3, zi m), (4, zi (i : Int))]) (st2 := [.inr (8, zeN e), .inr (20, i)]) rfl ?_
    refine zX.getf ⟨rfl, rfl⟩ he1 rfl rfl ?_
    refine zX.sn 1 (pc2 := 137) (l2 := [(5, .inr (20, i)), (0, .inr (10, 0)), (1, .inr (8, zeN e)), (3, zi m), (4, zi (i : Int))]) (st2 := [zi m, zi (zeA e), .inr (20, i)]) rfl ?_
    refine u_go e6 hm hok0.2 a1 (fun h2 b1 b2 => ?_)
    have hF : zFv i h h2 := a2.tr b2
    refine zX.s1 (pc2 := 143) (l2 := [(4, zi ((i : Int) + 1)), (5, .inr (20, i)), (0, .inr (10, 0)), (1, .inr (8, zeN e)), (3, zi m)]) (st2 := []) ⟨rfl, rfl⟩ (by rw [show (zi ((i : Int) + 1) : xV) = .inl (.int (Int32.ofInt (i : Int) + 1)) from congrArg (fun z => (.inl (.int z) : xV)) (Int32.ofInt_add _ _)]; rfl) ?_
    refine zX.sn 1 (pc2 := 94) (l2 := [(4, zi ((i : Int) + 1)), (5, .inr (20, i)), (0, .inr (10, 0)), (1, .inr (8, zeN e)), (3, zi m)]) (st2 := []) rfl ?_
    refine zX.re [(0, .inr (10, 0)), (1, .inr (8, zeN e)), (3, zi m), (4, zi ((i : Int) + 1))] [2, 3, 4, 0] [4, 5, 0, 1, 3] rfl rfl (by decide) ?_
    have hT2 : zaD1 (zeA e) m i G = (G.1.set i (G.1[i].1, (zuGo G.1[i].1 (zeA e) m (zuDue i G.1[i].1 (zeA e) m (G.1[i].2, G.2))).1), (zuGo G.1[i].1 (zeA e) m (zuDue i G.1[i].1 (zeA e) m (G.1[i].2, G.2))).2) := by
      unfold zaD1
      rw [hx]
    have hln : (zaD1 (zeA e) m i G).1.length = G.1.length := by rw [hT2]; exact List.length_set
    have hVn : zVn (zaD1 (zeA e) m i G).1 = zVn G.1 := by
      show (List.range (zaD1 (zeA e) m i G).1.length).map (fun i => ((20 : Nat), i)) = _
      rw [hln]
    have hV1 : zVa h2 N1 (zKu K i (q1, q2, q3)) (zaD1 (zeA e) m i G).1 (zaD1 (zeA e) m i G).2 := by
      rw [hT2]
      exact hV.upd hx (q := (q1, q2, q3)) b1 hF
    have hu := zKm_u (K := K) (i := i) (q := (q1, q2, q3)) 5 (by omega)
    have hu1 : zK1 (q1, q2, q3) = q1 + q2 + q3 := rfl
    have hu2 : zK1 (K i) = (K i).1 + (K i).2.1 + (K i).2.2 := rfl
    refine ih (i + 1) (zaD1 (zeA e) m i G) h2 N1 (zKu K i (q1, q2, q3)) c1 s1 (by omega) (fun j hj => hok (j + 1) (by omega)) ((hF _ _ (by omega)).trans hf) (by rw [hVn]; exact hA.fr (fun a b z => hF a b (by omega))) hV1 (he.fr hF) (fun h3 N2 K2 c2 s2 d1 d2 d3 d4 => ?_)
    exact q h3 N2 K2 c2 s2 d1 (d2.trans hln) (zFa.tr (zFv.all hF) d3) ⟨by have := a3.1; have := d4.1; omega, by have := a3.2.1; have := d4.2.1; omega, by have := a3.2.2; have := d4.2.2; omega⟩
end YC90
