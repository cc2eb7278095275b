set_option maxRecDepth 100000
section YC92
variable {d : Nat} {Q : xR → Nat → Nat → xH → Prop}
theorem zwi_big {sp : Nat} (h : 1 ≤ sp) : zwi sp * 8 ≤ 67108864 := by
  have := zwi_le h
  omega
theorem zVi.big {h : xH} {N k1 k2 k3 v : Nat} {C : zCf} {T : zSt × List Int64} (hV : zVi h N k1 k2 k3 v C T) : zuL C ≤ 67108864 := by
  unfold zuL
  rcases hV with ⟨c, r, -⟩ | ⟨c, -⟩ | ⟨c, -⟩ | ⟨c, -⟩
  · rw [if_pos c.1]
    exact zwi_big r.2.2.1
  · rw [if_neg (by omega), if_pos c.1]; omega
  · rw [if_neg (by omega), if_neg (by omega), if_pos c.1]; omega
  · rw [if_neg (by omega), if_neg (by omega), if_neg (by omega)]; omega
theorem zVi.of {h : xH} {N k1 k2 k3 v : Nat} {C : zCf} {T : zSt × List Int64} (hV : zVi h N k1 k2 k3 v C T) : ∃ fs, h (20, v) = some (.inl (C.1, fs)) ∧ (C.1 = 2 ∨ C.1 = 6 ∨ C.1 = 8 ∨ C.1 = 9) ∧ fs[6]? = some (.inr (21, v)) ∧ fs[7]? = some (.inr (23, v)) := by
  rcases hV with ⟨c, r, v1, -⟩ | ⟨c, r, v1, -⟩ | ⟨c, r, ⟨v1, -⟩, -⟩ | ⟨c, r, ⟨v1, -⟩, -, -⟩
  · exact ⟨_, by rw [c.1]; exact v1, by omega, rfl, rfl⟩
  · exact ⟨_, by rw [c.1]; exact v1, by omega, rfl, rfl⟩
  · exact ⟨_, by rw [c.1]; exact v1, by omega, rfl, rfl⟩
  · exact ⟨_, by rw [c]; exact v1, by omega, rfl, rfl⟩
/-- a view's work seen by the others: nothing of theirs -/
theorem zVa.upd0 {h h1 : xH} {N i : Nat} {K : zKp} {q : Nat × Nat × Nat} {L : zVL} {out : List Int64} {C : zCf} {S : zSt} (hA : zVa h N K L out) (hi : L[i]? = some (C, S)) (hV : zVi h1 N q.1 q.2.1 q.2.2 i C (S, out)) (hF : zFv i h h1) : zVa h1 N (zKu K i q) L out := by
  have h1 := hA.upd hi hV hF
  have hlt : i < L.length := (List.getElem?_eq_some_iff.mp hi).1
  have e : L.set i (C, S) = L := by
    have hx : L[i] = (C, S) := (List.getElem?_eq_some_iff.mp hi).2
    rw [← hx]
    exact List.set_getElem_self hlt
  rw [e] at h1
  exact h1
set_option maxHeartbeats 4000000 in
theorem l_sd {N cap capv : Nat} {fs : List xV} {m : Int} {J : List zE} {G : zVL × List Int64} (hm : -1 ≤ m ∧ m < 1000) (hJ72 : J.length ≤ 72) (hsame : ∀ (i : Nat) (C : zCf) (S : zSt), G.1[i]? = some (C, S) → zuFo i C J m = S.1) : ∀ (n i : Nat) (h : xH) (K : zKp) (c s : Nat), i + n = G.1.length → h (10, 0) = some (.inl (10, zFn fs)) → zAL h 13 0 capv (zVn G.1) → zVa h N K G.1 G.2 → zJr h cap J →
    (∀ h1 K1 c1 s1, zVa h1 N K1 G.1 G.2 → (∀ a b : Nat, ¬ (20 ≤ a ∧ a < 60 ∧ b % 8 < G.1.length) → h1 (a, b) = h (a, b)) → zCo (zKm K 5) c s (zKm K1 5) c1 s1 → Q (.inl (some (zi 1))) c1 s1 h1) → zX (d + 9) 128 9 [(0, .inr (10, 0)), (1, zi m), (2, zi 1), (3, zi (i : Int))] [] c s h Q := by
  intro n
  induction n with
  | zero =>
    intro i h K c s hi hf hA hV hJ q
    have hl := hV.2.1
    have hnl : (zVn G.1).length = G.1.length := zVn_len
    refine zX.sn 1 (pc2 := 10) (l2 := [(0, .inr (10, 0)), (1, zi m), (2, zi 1), (3, zi (i : Int))]) (st2 := [zi (i : Int)]) rfl ?_
    refine zX.sn 1 (pc2 := 11) (l2 := [(0, .inr (10, 0)), (1, zi m), (2, zi 1), (3, zi (i : Int))]) (st2 := [.inr (10, 0), zi (i : Int)]) rfl ?_
    refine zX.getf ⟨rfl, rfl⟩ hf rfl rfl ?_
    refine zX.call (mid2 := 150) (as := [.inr (13, 0)]) (rest := [zi (i : Int)]) ⟨rfl, rfl⟩ (fun _ => rfl) (zX.invA rfl hA rfl rfl) ⟨Nat.le_of_ble_eq_true rfl, Nat.le_of_ble_eq_true rfl⟩ ?_
    refine s_size hA ?_
    show zX _ 128 17 [(0, .inr (10, 0)), (1, zi m), (2, zi 1), (3, zi (i : Int))] [zi ((zVn G.1).length : Int), zi (i : Int)] c s _ _
    refine zX.icmp (tgt := 67) ⟨rfl, rfl⟩ rfl (by omega) (by omega) (fun _ => ?_) (fun (zz : (i : Int) < ((zVn G.1).length : Int)) => absurd zz (by omega))
    refine zX.sn 1 (pc2 := 68) (l2 := [(0, .inr (10, 0)), (1, zi m), (2, zi 1), (3, zi (i : Int))]) (st2 := [zi 1]) rfl ?_
    refine zX.ret rfl (zret_z rfl (by decide)) ?_
    exact q h K c s hV (fun _ _ _ => rfl) zCo.rf
  | succ n ih =>
    intro i h K c s hi hf hA hV hJ q
    have hl := hV.2.1
    have hlt : i < G.1.length := by omega
    have hnl : (zVn G.1).length = G.1.length := zVn_len
    have hx := List.getElem?_eq_getElem hlt
    have hVi := hV.2.2 i G.1[i].1 G.1[i].2 hx
    obtain ⟨fs2, hob, hci⟩ := hVi.ob
    refine zX.sn 1 (pc2 := 10) (l2 := [(0, .inr (10, 0)), (1, zi m), (2, zi 1), (3, zi (i : Int))]) (st2 := [zi (i : Int)]) rfl ?_
    refine zX.sn 1 (pc2 := 11) (l2 := [(0, .inr (10, 0)), (1, zi m), (2, zi 1), (3, zi (i : Int))]) (st2 := [.inr (10, 0), zi (i : Int)]) rfl ?_
    refine zX.getf ⟨rfl, rfl⟩ hf rfl rfl ?_
    refine zX.call (mid2 := 150) (as := [.inr (13, 0)]) (rest := [zi (i : Int)]) ⟨rfl, rfl⟩ (fun _ => rfl) (zX.invA rfl hA rfl rfl) ⟨Nat.le_of_ble_eq_true rfl, Nat.le_of_ble_eq_true rfl⟩ ?_
    refine s_size hA ?_
    show zX _ 128 17 [(0, .inr (10, 0)), (1, zi m), (2, zi 1), (3, zi (i : Int))] [zi ((zVn G.1).length : Int), zi (i : Int)] c s _ _
    refine zX.icmp (tgt := 67) ⟨rfl, rfl⟩ rfl (by omega) (by omega) (fun (zz : ((zVn G.1).length : Int) ≤ (i : Int)) => absurd zz (by omega)) (fun _ => ?_)
    refine zX.sn 1 (pc2 := 21) (l2 := [(0, .inr (10, 0)), (1, zi m), (2, zi 1), (3, zi (i : Int))]) (st2 := [zi 1]) rfl ?_
    refine zX.icmp0 (tgt := 67) ⟨rfl, rfl⟩ rfl (by omega) (fun (zz : 1 = 0) => absurd zz (by omega)) (fun _ => ?_)
    refine zX.sn 1 (pc2 := 25) (l2 := [(0, .inr (10, 0)), (1, zi m), (2, zi 1), (3, zi (i : Int))]) (st2 := [.inr (10, 0)]) rfl ?_
    refine zX.getf ⟨rfl, rfl⟩ hf rfl rfl ?_
    refine zX.sn 1 (pc2 := 29) (l2 := [(0, .inr (10, 0)), (1, zi m), (2, zi 1), (3, zi (i : Int))]) (st2 := [zi (i : Int), .inr (13, 0)]) rfl ?_
    refine zX.call (mid2 := 153) (as := [.inr (13, 0), zi (i : Int)]) (rest := []) ⟨rfl, rfl⟩ (fun _ => rfl) (zX.invA rfl hA rfl rfl) ⟨Nat.le_of_ble_eq_true rfl, Nat.le_of_ble_eq_true rfl⟩ ?_
    refine s_get (j := i) (x := (20, i)) rfl (by omega) hA (zVn_at hlt) ?_
    show zX _ 128 32 [(0, .inr (10, 0)), (1, zi m), (2, zi 1), (3, zi (i : Int))] [.inr (20, i)] c s _ _
    refine zX.cast ⟨rfl, rfl⟩ hob (by rcases hci with z | z | z | z <;> (rw [z]; rfl)) ?_
    refine zX.sn 1 (pc2 := 37) (l2 := [(4, .inr (20, i)), (0, .inr (10, 0)), (1, zi m), (2, zi 1), (3, zi (i : Int))]) (st2 := []) rfl ?_
    refine zX.sn 1 (pc2 := 39) (l2 := [(4, .inr (20, i)), (0, .inr (10, 0)), (1, zi m), (2, zi 1), (3, zi (i : Int))]) (st2 := [.inr (20, i)]) rfl ?_
    refine zX.sn 1 (pc2 := 40) (l2 := [(4, .inr (20, i)), (0, .inr (10, 0)), (1, zi m), (2, zi 1), (3, zi (i : Int))]) (st2 := [.inr (10, 0), .inr (20, i)]) rfl ?_
    refine zX.getf ⟨rfl, rfl⟩ hf rfl rfl ?_
    refine zX.sn 1 (pc2 := 44) (l2 := [(4, .inr (20, i)), (0, .inr (10, 0)), (1, zi m), (2, zi 1), (3, zi (i : Int))]) (st2 := [zi m, .inr (15, 0), .inr (20, i)]) rfl ?_
    refine u_fag hm hJ72 hJ hVi (fun h1 q3 c1 s1 a1 a2 a3 a4 => ?_)
    rw [hsame i G.1[i].1 G.1[i].2 hx] at a2
    have ht := a1.told
    have hb := a1.big
    have hF : zFv i h h1 := fun a b hn => a3 a b (by omega)
    obtain ⟨fs3, hob1, -, hg6, hg7⟩ := a1.of
    refine zX.sn 1 (pc2 := 49) (l2 := [(4, .inr (20, i)), (0, .inr (10, 0)), (1, zi m), (2, zi 1), (3, zi (i : Int))]) (st2 := [.inr (20, i)]) rfl ?_
    refine zX.getf ⟨rfl, rfl⟩ hob1 (by rcases hci with z | z | z | z <;> (rw [z]; rfl)) hg7 ?_
    refine zX.sn 1 (pc2 := 54) (l2 := [(4, .inr (20, i)), (0, .inr (10, 0)), (1, zi m), (2, zi 1), (3, zi (i : Int))]) (st2 := [.inr (20, i), .inr (23, i)]) rfl ?_
    refine zX.getf ⟨rfl, rfl⟩ hob1 (by rcases hci with z | z | z | z <;> (rw [z]; rfl)) hg6 ?_
    refine zX.call (mid2 := 32) (as := [.inr (23, i), .inr (21, i)]) (rest := []) ⟨rfl, rfl⟩ (fun _ => rfl) (zX.inv rfl a2.1 rfl rfl) ⟨Nat.le_of_ble_eq_true rfl, Nat.le_of_ble_eq_true rfl⟩ ?_
    refine s_same (d := d + 7) hb ht a2 ?_
    show zX _ 128 60 [(4, .inr (20, i)), (0, .inr (10, 0)), (1, zi m), (2, zi 1), (3, zi (i : Int))] [zi 1] c1 s1 _ _
    refine zX.sn 1 (pc2 := 61) (l2 := [(2, zi 1), (4, .inr (20, i)), (0, .inr (10, 0)), (1, zi m), (3, zi (i : Int))]) (st2 := []) rfl ?_
    refine zX.s1 (pc2 := 64) (l2 := [(3, zi ((i : Int) + 1)), (2, zi 1), (4, .inr (20, i)), (0, .inr (10, 0)), (1, zi m)]) (st2 := []) ⟨rfl, rfl⟩ (by rw [show (zi ((i : Int) + 1) : xV) = .inl (.int (Int32.ofInt (i : Int) + 1)) from congrArg (fun z => (.inl (.int z) : xV)) (Int32.ofInt_add _ _)]; rfl) ?_
    refine zX.sn 1 (pc2 := 9) (l2 := [(3, zi ((i : Int) + 1)), (2, zi 1), (4, .inr (20, i)), (0, .inr (10, 0)), (1, zi m)]) (st2 := []) rfl ?_
    refine zX.re [(0, .inr (10, 0)), (1, zi m), (2, zi 1), (3, zi ((i : Int) + 1))] [3, 4, 1, 0] [3, 2, 4, 0, 1] rfl rfl (by decide) ?_
    have hV1 : zVa h1 N (zKu K i ((K i).1, (K i).2.1, q3)) G.1 G.2 := hV.upd0 hx (q := ((K i).1, (K i).2.1, q3)) a1 hF
    have hu := zKm_u (K := K) (i := i) (q := ((K i).1, (K i).2.1, q3)) 5 (by omega)
    have hu1 : zK1 ((K i).1, (K i).2.1, q3) = (K i).1 + (K i).2.1 + q3 := rfl
    have hu2 : zK1 (K i) = (K i).1 + (K i).2.1 + (K i).2.2 := rfl
    exact ih (i + 1) h1 _ c1 s1 (by omega) ((a3 _ _ (by omega)).trans hf) (hA.fr (fun a b z => a3 a b (by omega))) hV1 (hJ.fr (fun a b _ _ => a3 a b (by omega))) (fun h2 K2 c2 s2 d1 d2 d3 => q h2 K2 c2 s2 d1 (fun a b hn => (d2 a b hn).trans (a3 a b (by omega))) ⟨by have := a4.1; have := d3.1; omega, by have := a4.2.1; have := d3.2.1; omega, by have := a4.2.2; have := d3.2.2; omega⟩)
theorem s_sound {N cap capv c s : Nat} {fs : List xV} {P : Nat → zPT} {J : List zE} {G : zVL × List Int64} {K : zKp} {h : xH} (hJ72 : J.length ≤ 72) (hP : zPs h P) (hsame : ∀ (i : Nat) (C : zCf) (S : zSt), G.1[i]? = some (C, S) → zuFo i C J (zlm P 3 0 1000) = S.1) (hf : h (10, 0) = some (.inl (10, zFn fs))) (hA : zAL h 13 0 capv (zVn G.1)) (hV : zVa h N K G.1 G.2) (hJ : zJr h cap J)
    (q : ∀ h1 K1 c1 s1, zVa h1 N K1 G.1 G.2 → (∀ a b : Nat, ¬ (20 ≤ a ∧ a < 60 ∧ b % 8 < G.1.length) → h1 (a, b) = h (a, b)) → zCo (zKm K 5) c s (zKm K1 5) c1 s1 → Q (.inl (some (zi 1))) c1 s1 h1) : zX (d + 9) 128 0 [(0, .inr (10, 0))] [] c s h Q := by
  refine zX.sn 1 (pc2 := 1) (l2 := [(0, .inr (10, 0))]) (st2 := [.inr (10, 0)]) rfl ?_
  refine zX.call (mid2 := 138) (as := [.inr (10, 0)]) (rest := []) ⟨rfl, rfl⟩ (fun _ => rfl) (zX.inv rfl hf rfl rfl) ⟨Nat.le_of_ble_eq_true rfl, Nat.le_of_ble_eq_true rfl⟩ ?_
  refine s_lm (d := d + 5) hf hP (fun hml => ?_)
  have hml2 : zlm P 3 0 1000 < 1000 := zlm_lt (hP.2 0 (by omega)).2.2.2.1.2
  show zX _ 128 4 [(0, .inr (10, 0))] [zi (zlm P 3 0 1000)] c s _ _
  refine zX.sn 1 (pc2 := 5) (l2 := [(1, zi (zlm P 3 0 1000)), (0, .inr (10, 0))]) (st2 := []) rfl ?_
  refine zX.sn 1 (pc2 := 6) (l2 := [(1, zi (zlm P 3 0 1000)), (0, .inr (10, 0))]) (st2 := [zi 1]) rfl ?_
  refine zX.sn 1 (pc2 := 7) (l2 := [(2, zi 1), (1, zi (zlm P 3 0 1000)), (0, .inr (10, 0))]) (st2 := []) rfl ?_
  refine zX.sn 1 (pc2 := 8) (l2 := [(2, zi 1), (1, zi (zlm P 3 0 1000)), (0, .inr (10, 0))]) (st2 := [zi 0]) rfl ?_
  refine zX.sn 1 (pc2 := 9) (l2 := [(3, zi 0), (2, zi 1), (1, zi (zlm P 3 0 1000)), (0, .inr (10, 0))]) (st2 := []) rfl ?_
  refine zX.re [(0, .inr (10, 0)), (1, zi (zlm P 3 0 1000)), (2, zi 1), (3, zi 0)] [3, 2, 1, 0] [3, 2, 1, 0] rfl rfl (by decide) ?_
  exact l_sd (d := d) ⟨hml.1, hml2⟩ hJ72 hsame G.1.length 0 h K c s (by omega) hf hA hV hJ q
end YC92
