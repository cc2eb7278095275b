set_option maxRecDepth 100000
section YC94
variable {d : Nat} {Q : xR → Nat → Nat → xH → Prop}
/-- the first parts go back to their beginnings -/
def zaR (P : Nat → zPT) (n : Nat) : Nat → zPT := fun p => if p < n then (0, -1, (P p).2.2) else P p
theorem l_eb2 {c s : Nat} {fs : List xV} {P : Nat → zPT} : ∀ (n p : Nat) (h : xH), p + n = 3 → h (10, 0) = some (.inl (10, zFn fs)) → zPs h (zaR P p) →
    (∀ h1 : xH, zPs h1 (zaR P 3) → (∀ a b : Nat, ¬ (a = 5) → h1 (a, b) = h (a, b)) → zX (d + 3) 140 75 [(0, .inr (10, 0))] [] c s h1 Q) → zX (d + 3) 140 36 [(0, .inr (10, 0)), (2, zi (p : Int))] [] c s h Q := by
  intro n
  induction n with
  | zero =>
    intro p h hp hf hP q
    obtain ⟨⟨cap, hA⟩, hPt⟩ := id hP
    refine zX.sn 1 (pc2 := 37) (l2 := [(0, .inr (10, 0)), (2, zi (p : Int))]) (st2 := [zi (p : Int)]) rfl ?_
    refine zX.sn 1 (pc2 := 38) (l2 := [(0, .inr (10, 0)), (2, zi (p : Int))]) (st2 := [.inr (10, 0), zi (p : Int)]) rfl ?_
    refine zX.getf ⟨rfl, rfl⟩ hf rfl rfl ?_
    refine zX.call (mid2 := 150) (as := [.inr (11, 0)]) (rest := [zi (p : Int)]) ⟨rfl, rfl⟩ (fun _ => rfl) (zX.invA rfl hA rfl rfl) ⟨Nat.le_of_ble_eq_true rfl, Nat.le_of_ble_eq_true rfl⟩ ?_
    refine s_size hA ?_
    show zX _ 140 44 [(0, .inr (10, 0)), (2, zi (p : Int))] [zi 3, zi (p : Int)] c s _ _
    refine zX.icmp (tgt := 75) ⟨rfl, rfl⟩ rfl (by omega) (by omega) (fun _ => ?_) (fun (zz : (p : Int) < 3) => absurd zz (by omega))
    refine zX.re [(0, .inr (10, 0))] [0] [0, 2] rfl rfl (by decide) ?_
    obtain rfl : p = 3 := by omega
    exact q h hP (fun _ _ _ => rfl)
  | succ n ih =>
    intro p h hp hf hP q
    obtain ⟨⟨cap, hA⟩, hPt⟩ := id hP
    obtain ⟨b1, b2, b3, b4, b5, b6, b7⟩ := hPt p (by omega)
    refine zX.sn 1 (pc2 := 37) (l2 := [(0, .inr (10, 0)), (2, zi (p : Int))]) (st2 := [zi (p : Int)]) rfl ?_
    refine zX.sn 1 (pc2 := 38) (l2 := [(0, .inr (10, 0)), (2, zi (p : Int))]) (st2 := [.inr (10, 0), zi (p : Int)]) rfl ?_
    refine zX.getf ⟨rfl, rfl⟩ hf rfl rfl ?_
    refine zX.call (mid2 := 150) (as := [.inr (11, 0)]) (rest := [zi (p : Int)]) ⟨rfl, rfl⟩ (fun _ => rfl) (zX.invA rfl hA rfl rfl) ⟨Nat.le_of_ble_eq_true rfl, Nat.le_of_ble_eq_true rfl⟩ ?_
    refine s_size hA ?_
    show zX _ 140 44 [(0, .inr (10, 0)), (2, zi (p : Int))] [zi 3, zi (p : Int)] c s _ _
    refine zX.icmp (tgt := 75) ⟨rfl, rfl⟩ rfl (by omega) (by omega) (fun (zz : (3 : Int) ≤ (p : Int)) => absurd zz (by omega)) (fun _ => ?_)
    refine zX.sn 1 (pc2 := 48) (l2 := [(0, .inr (10, 0)), (2, zi (p : Int))]) (st2 := [.inr (10, 0)]) rfl ?_
    refine zX.getf ⟨rfl, rfl⟩ hf rfl rfl ?_
    refine zX.sn 1 (pc2 := 52) (l2 := [(0, .inr (10, 0)), (2, zi (p : Int))]) (st2 := [zi (p : Int), .inr (11, 0)]) rfl ?_
    refine zX.call (mid2 := 153) (as := [.inr (11, 0), zi (p : Int)]) (rest := []) ⟨rfl, rfl⟩ (fun _ => rfl) (zX.invA rfl hA rfl rfl) ⟨Nat.le_of_ble_eq_true rfl, Nat.le_of_ble_eq_true rfl⟩ ?_
    refine s_get (j := p) (x := (5, p)) rfl (by omega) hA (zPn_at (by omega)) ?_
    show zX _ 140 55 [(0, .inr (10, 0)), (2, zi (p : Int))] [.inr (5, p)] c s _ _
    refine zX.cast ⟨rfl, rfl⟩ b1 rfl ?_
    refine zX.sn 1 (pc2 := 59) (l2 := [(3, .inr (5, p)), (0, .inr (10, 0)), (2, zi (p : Int))]) (st2 := []) rfl ?_
    refine zX.sn 1 (pc2 := 60) (l2 := [(3, .inr (5, p)), (0, .inr (10, 0)), (2, zi (p : Int))]) (st2 := [.inr (5, p)]) rfl ?_
    refine zX.sn 1 (pc2 := 61) (l2 := [(3, .inr (5, p)), (0, .inr (10, 0)), (2, zi (p : Int))]) (st2 := [zi 0, .inr (5, p)]) rfl ?_
    refine zX.putf ⟨rfl, rfl⟩ b1 rfl (by omega) rfl ?_
    refine zX.sn 1 (pc2 := 65) (l2 := [(3, .inr (5, p)), (0, .inr (10, 0)), (2, zi (p : Int))]) (st2 := [.inr (5, p)]) rfl ?_
    refine zX.sn 1 (pc2 := 66) (l2 := [(3, .inr (5, p)), (0, .inr (10, 0)), (2, zi (p : Int))]) (st2 := [zi (-1), .inr (5, p)]) rfl ?_
    refine zX.putf ⟨rfl, rfl⟩ zup_s rfl (by omega) rfl ?_
    show zX _ 140 69 [(3, .inr (5, p)), (0, .inr (10, 0)), (2, zi (p : Int))] [] c s (xup (xup h (5, p) _) (5, p) (.inl (4, [.inr (6, p), zi 0, zi (-1), zi ((zaR P p p).2.2.1 : Int)]))) _
    generalize hh3 : xup (xup h (5, p) _) (5, p) (.inl (4, [.inr (6, p), zi 0, zi (-1), zi ((zaR P p p).2.2.1 : Int)])) = h3
    have hs : h3 (5, p) = some (.inl (4, [.inr (6, p), zi 0, zi (-1), zi ((zaR P p p).2.2.1 : Int)])) := by
      rw [← hh3]
      exact zup_s
    have hn3 : ∀ a b : Nat, ¬ (a = 5 ∧ b = p) → h3 (a, b) = h (a, b) := fun a b hn => by
      rw [← hh3]
      exact zup_n (zn (by omega)) (zup_n (zn (by omega)) rfl)
    have hpp : zaR P p p = P p := if_neg (by omega)
    rw [hpp] at hs b2 b3 b5 b7
    have hP3 : zPs h3 (zaR P (p + 1)) := by
      refine ⟨⟨cap, hA.fr (fun a b z => hn3 a b (by omega))⟩, fun j hj => ?_⟩
      by_cases hpe : j = p
      · subst hpe
        rw [show zaR P (j + 1) j = (0, -1, (P j).2.2) from if_pos (by omega)]
        exact ⟨hs, b2.fr (fun a b z => hn3 a b (by omega)), fun x hx => ⟨(b3 x hx).1, (hn3 _ _ (by omega)).trans (b3 x hx).2⟩, (by dsimp only; omega), b5, Nat.zero_le _, b7⟩
      · have hj2 : zaR P (p + 1) j = zaR P p j := by
          by_cases hjp : j < p
          · rw [show zaR P (p + 1) j = (0, -1, (P j).2.2) from if_pos (by omega)]
            exact (if_pos hjp).symm
          · rw [show zaR P (p + 1) j = P j from if_neg (by omega)]
            exact (if_neg hjp).symm
        rw [hj2]
        obtain ⟨g1, g2, g3, g4⟩ := hPt j hj
        exact ⟨(hn3 _ _ (by omega)).trans g1, g2.fr (fun a b z => hn3 a b (by omega)), fun x hx => ⟨(g3 x hx).1, (hn3 _ _ (by omega)).trans (g3 x hx).2⟩, g4⟩
    refine zX.s1 (pc2 := 72) (l2 := [(2, zi ((p : Int) + 1)), (3, .inr (5, p)), (0, .inr (10, 0))]) (st2 := []) ⟨rfl, rfl⟩ (by rw [show (zi ((p : Int) + 1) : xV) = .inl (.int (Int32.ofInt (p : Int) + 1)) from congrArg (fun z => (.inl (.int z) : xV)) (Int32.ofInt_add _ _)]; rfl) ?_
    refine zX.sn 1 (pc2 := 36) (l2 := [(2, zi ((p : Int) + 1)), (3, .inr (5, p)), (0, .inr (10, 0))]) (st2 := []) rfl ?_
    refine zX.re [(0, .inr (10, 0)), (2, zi ((p : Int) + 1))] [2, 0] [2, 3, 0] rfl rfl (by decide) ?_
    exact ih (p + 1) h3 (by omega) ((hn3 _ _ (by omega)).trans hf) hP3 (fun h4 d1 d2 => q h4 d1 (fun a b hn => (d2 a b hn).trans (hn3 a b (by omega))))
/-- all views begin anew, from the i-th on -/
def zaB1 (out : List Int64) (X : zCf × zSt) : zCf × zSt := (X.1, (zuBeg X.1 (X.2, out)).1)
def zaB (out : List Int64) : Nat → Nat → zVL → zVL
  | 0, _, L => L
  | n + 1, i, L => zaB out n (i + 1) (match L[i]? with
    | some X => L.set i (zaB1 out X)
    | none => L)
theorem zuBeg_out {C : zCf} {S : zSt} {out : List Int64} : (zuBeg C (S, out)).2 = out := by
  unfold zuBeg
  split
  · rfl
  · split
    · rfl
    · split
      · rfl
      · rfl
theorem l_eb3 {N capv : Nat} {K : zKp} {fs : List xV} {c s : Nat} {out : List Int64} : ∀ (n i : Nat) (L : zVL) (h : xH), i + n = L.length → (∀ (j : Nat) (C : zCf) (S : zSt), L[j]? = some (C, S) → i ≤ j → ∀ t, 8 ≤ t → S.2.1 t = 0) → h (10, 0) = some (.inl (10, zFn fs)) → zAL h 13 0 capv (zVn L) → zVa h N K L out →
    (∀ h1 : xH, zVa h1 N K (zaB out n i L) out → (zaB out n i L).length = L.length → (∀ a b : Nat, ¬ ((20 ≤ a ∧ a < 60) ∨ (2 ≤ a ∧ a < 4)) → h1 (a, b) = h (a, b)) → zX (d + 4) 140 108 [(0, .inr (10, 0))] [] c s h1 Q) → zX (d + 4) 140 77 [(0, .inr (10, 0)), (2, zi (i : Int))] [] c s h Q := by
  intro n
  induction n with
  | zero =>
    intro i L h hi hH hf hA hV q
    have hl := hV.2.1
    have hnl : (zVn L).length = L.length := zVn_len
    refine zX.sn 1 (pc2 := 78) (l2 := [(0, .inr (10, 0)), (2, zi (i : Int))]) (st2 := [zi (i : Int)]) rfl ?_
    refine zX.sn 1 (pc2 := 79) (l2 := [(0, .inr (10, 0)), (2, zi (i : Int))]) (st2 := [.inr (10, 0), zi (i : Int)]) rfl ?_
    refine zX.getf ⟨rfl, rfl⟩ hf rfl rfl ?_
    refine zX.call (mid2 := 150) (as := [.inr (13, 0)]) (rest := [zi (i : Int)]) ⟨rfl, rfl⟩ (fun _ => rfl) (zX.invA rfl hA rfl rfl) ⟨Nat.le_of_ble_eq_true rfl, Nat.le_of_ble_eq_true rfl⟩ ?_
    refine s_size hA ?_
    show zX _ 140 85 [(0, .inr (10, 0)), (2, zi (i : Int))] [zi ((zVn L).length : Int), zi (i : Int)] c s _ _
    refine zX.icmp (tgt := 108) ⟨rfl, rfl⟩ rfl (by omega) (by omega) (fun _ => ?_) (fun (zz : (i : Int) < ((zVn L).length : Int)) => absurd zz (by omega))
    refine zX.re [(0, .inr (10, 0))] [0] [0, 2] rfl rfl (by decide) ?_
    exact q h hV rfl (fun _ _ _ => rfl)
  | succ n ih =>
    intro i L h hi hH hf hA hV q
    have hl := hV.2.1
    have hlt : i < L.length := by omega
    have hnl : (zVn L).length = L.length := zVn_len
    have hx := List.getElem?_eq_getElem hlt
    have hVi := hV.2.2 i L[i].1 L[i].2 hx
    obtain ⟨fs2, hob, hci⟩ := hVi.ob
    refine zX.sn 1 (pc2 := 78) (l2 := [(0, .inr (10, 0)), (2, zi (i : Int))]) (st2 := [zi (i : Int)]) rfl ?_
    refine zX.sn 1 (pc2 := 79) (l2 := [(0, .inr (10, 0)), (2, zi (i : Int))]) (st2 := [.inr (10, 0), zi (i : Int)]) rfl ?_
    refine zX.getf ⟨rfl, rfl⟩ hf rfl rfl ?_
    refine zX.call (mid2 := 150) (as := [.inr (13, 0)]) (rest := [zi (i : Int)]) ⟨rfl, rfl⟩ (fun _ => rfl) (zX.invA rfl hA rfl rfl) ⟨Nat.le_of_ble_eq_true rfl, Nat.le_of_ble_eq_true rfl⟩ ?_
    refine s_size hA ?_
    show zX _ 140 85 [(0, .inr (10, 0)), (2, zi (i : Int))] [zi ((zVn L).length : Int), zi (i : Int)] c s _ _
    refine zX.icmp (tgt := 108) ⟨rfl, rfl⟩ rfl (by omega) (by omega) (fun (zz : ((zVn L).length : Int) ≤ (i : Int)) => absurd zz (by omega)) (fun _ => ?_)
    refine zX.sn 1 (pc2 := 89) (l2 := [(0, .inr (10, 0)), (2, zi (i : Int))]) (st2 := [.inr (10, 0)]) rfl ?_
    refine zX.getf ⟨rfl, rfl⟩ hf rfl rfl ?_
    refine zX.sn 1 (pc2 := 93) (l2 := [(0, .inr (10, 0)), (2, zi (i : Int))]) (st2 := [zi (i : Int), .inr (13, 0)]) rfl ?_
    refine zX.call (mid2 := 153) (as := [.inr (13, 0), zi (i : Int)]) (rest := []) ⟨rfl, rfl⟩ (fun _ => rfl) (zX.invA rfl hA rfl rfl) ⟨Nat.le_of_ble_eq_true rfl, Nat.le_of_ble_eq_true rfl⟩ ?_
    refine s_get (d := d + 1) (j := i) (x := (20, i)) rfl (by omega) hA (zVn_at hlt) ?_
    show zX _ 140 96 [(0, .inr (10, 0)), (2, zi (i : Int))] [.inr (20, i)] c s _ _
    refine zX.cast ⟨rfl, rfl⟩ hob (by rcases hci with z | z | z | z <;> (rw [z]; rfl)) ?_
    refine u_beg (d := d) (hH i L[i].1 L[i].2 hx (Nat.le_refl _)) hVi (fun h1 a1 a2 => ?_)
    refine zX.s1 (pc2 := 105) (l2 := [(2, zi ((i : Int) + 1)), (0, .inr (10, 0))]) (st2 := []) ⟨rfl, rfl⟩ (by rw [show (zi ((i : Int) + 1) : xV) = .inl (.int (Int32.ofInt (i : Int) + 1)) from congrArg (fun z => (.inl (.int z) : xV)) (Int32.ofInt_add _ _)]; rfl) ?_
    refine zX.sn 1 (pc2 := 77) (l2 := [(2, zi ((i : Int) + 1)), (0, .inr (10, 0))]) (st2 := []) rfl ?_
    refine zX.re [(0, .inr (10, 0)), (2, zi ((i : Int) + 1))] [1, 0] [2, 0] rfl rfl (by decide) ?_
    have hT : (match L[i]? with
      | some X => L.set i (zaB1 out X)
      | none => L) = L.set i (zaB1 out L[i]) := by rw [hx]
    have hln : (L.set i (zaB1 out L[i])).length = L.length := List.length_set
    have hVn : zVn (L.set i (zaB1 out L[i])) = zVn L := by
      show (List.range (L.set i (zaB1 out L[i])).length).map (fun i => ((20 : Nat), i)) = _
      rw [hln]
    have hV1 := hV.upd hx (q := K i) a1 a2
    rw [zuBeg_out] at hV1
    have hK : zKu K i (K i) = K := funext (fun j => by
      by_cases hj : j = i
      · subst hj; exact if_pos rfl
      · exact if_neg hj)
    rw [hK] at hV1
    have stp : zaB out (n + 1) i L = zaB out n (i + 1) (L.set i (zaB1 out L[i])) := by
      show zaB out n (i + 1) (match L[i]? with
        | some X => L.set i (zaB1 out X)
        | none => L) = _
      rw [hT]
    rw [stp] at q
    refine ih (i + 1) (L.set i (zaB1 out L[i])) h1 (by omega) (fun j C S hj hij => ?_) ((a2 _ _ (by omega)).trans hf) (by rw [hVn]; exact hA.fr (fun a b z => a2 a b (by omega))) hV1 (fun h2 b1 b2 b3 => q h2 b1 (b2.trans hln) (fun a b hn => (b3 a b hn).trans (a2 a b (by omega))))
    rw [List.getElem?_set_ne (by omega)] at hj
    exact hH j C S hj (by omega)
end YC94
