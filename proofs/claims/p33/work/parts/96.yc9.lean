set_option maxRecDepth 100000
section YC96
variable {d : Nat} {Q : xR → Nat → Nat → xH → Prop}
theorem zVi.hd {h : xH} {N k1 k2 k3 v : Nat} {C : zCf} {T : zSt × List Int64} (hV : zVi h N k1 k2 k3 v C T) : ∃ bs dr tl, zVo h C.1 v bs C.2.1 C.2.2.1 C.2.2.2.1 dr tl ∧ zVr v C.2.1 C.2.2.1 C.2.2.2.1 ∧ (C.1 = 2 ∨ C.1 = 6 ∨ C.1 = 8 ∨ C.1 = 9) ∧ h (25, v) = some (.inr (0, 8, zI T.1.2.1)) := by
  rcases hV with ⟨c, r, v1, v2, v3, -⟩ | ⟨c, r, v1, v2, v3, -⟩ | ⟨c, r, ⟨v1, v2, v3, -⟩, -⟩ | ⟨c, r, ⟨v1, v2, v3, -⟩, -, -⟩
  · exact ⟨_, _, _, by rw [c.1]; exact v1, r.1, by omega, v3⟩
  · exact ⟨_, _, _, by rw [c.1]; exact v1, r.1, by omega, v3⟩
  · exact ⟨_, _, _, by rw [c.1]; exact v1, r, by omega, v3⟩
  · exact ⟨_, _, _, by rw [c]; exact v1, r, by omega, v3⟩
/-- what all views hold of a key, from the i-th on -/
def zhk (k : Nat) : zVL → Int32 → Int32
  | [], a => a
  | X :: r, a => zhk k r (a + X.2.2.1 k)
theorem l_hok {N capv k c s : Nat} {fs : List xV} {L : zVL} {out : List Int64} {K : zKp} {h : xH} (hk : k < 8) (hf : h (10, 0) = some (.inl (10, zFn fs))) (hA : zAL h 13 0 capv (zVn L)) (hV : zVa h N K L out) : ∀ (n i : Nat) (a : Int32), i + n = L.length → Q (.inl (some (.inl (.int (zhk k (L.drop i) a))))) c s h → zX (d + 3) 144 4 [(0, .inr (10, 0)), (1, zi (k : Int)), (2, .inl (.int a)), (3, zi (i : Int))] [] c s h Q := by
  have hl := hV.2.1
  have hnl : (zVn L).length = L.length := zVn_len
  intro n
  induction n with
  | zero =>
    intro i a hi q
    rw [List.drop_of_length_le (by omega)] at q
    refine zX.sn 1 (pc2 := 5) (l2 := [(0, .inr (10, 0)), (1, zi (k : Int)), (2, .inl (.int a)), (3, zi (i : Int))]) (st2 := [zi (i : Int)]) rfl ?_
    refine zX.sn 1 (pc2 := 6) (l2 := [(0, .inr (10, 0)), (1, zi (k : Int)), (2, .inl (.int a)), (3, zi (i : Int))]) (st2 := [.inr (10, 0), zi (i : Int)]) rfl ?_
    refine zX.getf ⟨rfl, rfl⟩ hf rfl rfl ?_
    refine zX.call (mid2 := 150) (as := [.inr (13, 0)]) (rest := [zi (i : Int)]) ⟨rfl, rfl⟩ (fun _ => rfl) (zX.invA rfl hA rfl rfl) ⟨Nat.le_of_ble_eq_true rfl, Nat.le_of_ble_eq_true rfl⟩ ?_
    refine s_size hA ?_
    show zX _ 144 12 [(0, .inr (10, 0)), (1, zi (k : Int)), (2, .inl (.int a)), (3, zi (i : Int))] [zi ((zVn L).length : Int), zi (i : Int)] c s _ _
    refine zX.icmp (tgt := 39) ⟨rfl, rfl⟩ rfl (by omega) (by omega) (fun _ => ?_) (fun (zz : (i : Int) < ((zVn L).length : Int)) => absurd zz (by omega))
    refine zX.sn 1 (pc2 := 40) (l2 := [(0, .inr (10, 0)), (1, zi (k : Int)), (2, .inl (.int a)), (3, zi (i : Int))]) (st2 := [.inl (.int a)]) rfl ?_
    refine zX.ret rfl rfl ?_
    exact q
  | succ n ih =>
    intro i a hi q
    have hlt : i < L.length := by omega
    have hx := List.getElem?_eq_getElem hlt
    have hVi := hV.2.2 i L[i].1 L[i].2 hx
    obtain ⟨bs, dr, tl, o1, o2, o3, o4⟩ := hVi.hd
    refine zX.sn 1 (pc2 := 5) (l2 := [(0, .inr (10, 0)), (1, zi (k : Int)), (2, .inl (.int a)), (3, zi (i : Int))]) (st2 := [zi (i : Int)]) rfl ?_
    refine zX.sn 1 (pc2 := 6) (l2 := [(0, .inr (10, 0)), (1, zi (k : Int)), (2, .inl (.int a)), (3, zi (i : Int))]) (st2 := [.inr (10, 0), zi (i : Int)]) rfl ?_
    refine zX.getf ⟨rfl, rfl⟩ hf rfl rfl ?_
    refine zX.call (mid2 := 150) (as := [.inr (13, 0)]) (rest := [zi (i : Int)]) ⟨rfl, rfl⟩ (fun _ => rfl) (zX.invA rfl hA rfl rfl) ⟨Nat.le_of_ble_eq_true rfl, Nat.le_of_ble_eq_true rfl⟩ ?_
    refine s_size hA ?_
    show zX _ 144 12 [(0, .inr (10, 0)), (1, zi (k : Int)), (2, .inl (.int a)), (3, zi (i : Int))] [zi ((zVn L).length : Int), zi (i : Int)] c s _ _
    refine zX.icmp (tgt := 39) ⟨rfl, rfl⟩ rfl (by omega) (by omega) (fun (zz : ((zVn L).length : Int) ≤ (i : Int)) => absurd zz (by omega)) (fun _ => ?_)
    refine zX.sn 1 (pc2 := 16) (l2 := [(0, .inr (10, 0)), (1, zi (k : Int)), (2, .inl (.int a)), (3, zi (i : Int))]) (st2 := [.inl (.int a)]) rfl ?_
    refine zX.sn 1 (pc2 := 17) (l2 := [(0, .inr (10, 0)), (1, zi (k : Int)), (2, .inl (.int a)), (3, zi (i : Int))]) (st2 := [.inr (10, 0), .inl (.int a)]) rfl ?_
    refine zX.getf ⟨rfl, rfl⟩ hf rfl rfl ?_
    refine zX.sn 1 (pc2 := 21) (l2 := [(0, .inr (10, 0)), (1, zi (k : Int)), (2, .inl (.int a)), (3, zi (i : Int))]) (st2 := [zi (i : Int), .inr (13, 0), .inl (.int a)]) rfl ?_
    refine zX.call (mid2 := 153) (as := [.inr (13, 0), zi (i : Int)]) (rest := [.inl (.int a)]) ⟨rfl, rfl⟩ (fun _ => rfl) (zX.invA rfl hA rfl rfl) ⟨Nat.le_of_ble_eq_true rfl, Nat.le_of_ble_eq_true rfl⟩ ?_
    refine s_get (j := i) (x := (20, i)) rfl (by omega) hA (zVn_at hlt) ?_
    show zX _ 144 24 [(0, .inr (10, 0)), (1, zi (k : Int)), (2, .inl (.int a)), (3, zi (i : Int))] [.inr (20, i), .inl (.int a)] c s _ _
    refine zX.cast ⟨rfl, rfl⟩ o1 (by rcases o3 with z | z | z | z <;> (rw [z]; rfl)) ?_
    refine zX.sn 1 (pc2 := 28) (l2 := [(0, .inr (10, 0)), (1, zi (k : Int)), (2, .inl (.int a)), (3, zi (i : Int))]) (st2 := [zi (k : Int), .inr (20, i), .inl (.int a)]) rfl ?_
    refine zX.call (mid2 := 82) (as := [.inr (20, i), zi (k : Int)]) (rest := [.inl (.int a)]) ⟨rfl, rfl⟩ (fun _ => rfl) (zX.inv rfl o1 (by rcases o3 with z | z | z | z <;> (rw [z]; rfl)) rfl) ⟨Nat.le_of_ble_eq_true rfl, Nat.le_of_ble_eq_true rfl⟩ ?_
    refine s_heldOf rfl hk o2 o3 o1 o4 ?_
    show zX _ 144 31 [(0, .inr (10, 0)), (1, zi (k : Int)), (2, .inl (.int a)), (3, zi (i : Int))] [.inl (.int (L[i].2.2.1 k)), .inl (.int a)] c s _ _
    refine zX.sn 1 (pc2 := 32) (l2 := [(0, .inr (10, 0)), (1, zi (k : Int)), (2, .inl (.int a)), (3, zi (i : Int))]) (st2 := [.inl (.int (a + L[i].2.2.1 k))]) rfl ?_
    refine zX.sn 1 (pc2 := 33) (l2 := [(2, .inl (.int (a + L[i].2.2.1 k))), (0, .inr (10, 0)), (1, zi (k : Int)), (3, zi (i : Int))]) (st2 := []) rfl ?_
    refine zX.s1 (pc2 := 36) (l2 := [(3, zi ((i : Int) + 1)), (2, .inl (.int (a + L[i].2.2.1 k))), (0, .inr (10, 0)), (1, zi (k : Int))]) (st2 := []) ⟨rfl, rfl⟩ (by rw [show (zi ((i : Int) + 1) : xV) = .inl (.int (Int32.ofInt (i : Int) + 1)) from congrArg (fun z => (.inl (.int z) : xV)) (Int32.ofInt_add _ _)]; rfl) ?_
    refine zX.sn 1 (pc2 := 4) (l2 := [(3, zi ((i : Int) + 1)), (2, .inl (.int (a + L[i].2.2.1 k))), (0, .inr (10, 0)), (1, zi (k : Int))]) (st2 := []) rfl ?_
    refine zX.re [(0, .inr (10, 0)), (1, zi (k : Int)), (2, .inl (.int (a + L[i].2.2.1 k))), (3, zi ((i : Int) + 1))] [2, 3, 1, 0] [3, 2, 0, 1] rfl rfl (by decide) ?_
    refine ih (i + 1) _ (by omega) ?_
    rw [List.drop_eq_getElem_cons hlt] at q
    exact q
theorem s_hok {N capv k c s : Nat} {fs : List xV} {L : zVL} {out : List Int64} {K : zKp} {h : xH} (hk : k < 8) (hf : h (10, 0) = some (.inl (10, zFn fs))) (hA : zAL h 13 0 capv (zVn L)) (hV : zVa h N K L out) (q : Q (.inl (some (.inl (.int (zhk k L 0))))) c s h) : zX (d + 3) 144 0 [(0, .inr (10, 0)), (1, zi (k : Int))] [] c s h Q := by
  refine zX.sn 1 (pc2 := 1) (l2 := [(0, .inr (10, 0)), (1, zi (k : Int))]) (st2 := [zi 0]) rfl ?_
  refine zX.sn 1 (pc2 := 2) (l2 := [(2, zi 0), (0, .inr (10, 0)), (1, zi (k : Int))]) (st2 := []) rfl ?_
  refine zX.sn 1 (pc2 := 3) (l2 := [(2, zi 0), (0, .inr (10, 0)), (1, zi (k : Int))]) (st2 := [zi 0]) rfl ?_
  refine zX.sn 1 (pc2 := 4) (l2 := [(3, zi 0), (2, zi 0), (0, .inr (10, 0)), (1, zi (k : Int))]) (st2 := []) rfl ?_
  refine zX.re [(0, .inr (10, 0)), (1, zi (k : Int)), (2, zi 0), (3, zi 0)] [2, 3, 1, 0] [3, 2, 0, 1] rfl rfl (by decide) ?_
  exact l_hok (d := d) hk hf hA hV L.length 0 0 (by omega) (by rw [List.drop_zero]; exact q)
end YC96
