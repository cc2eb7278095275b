set_option maxRecDepth 100000
section YD9f
variable {d : Nat} {Q : xR → Nat → Nat → xH → Prop}
theorem zeL_ne {e : zE} (h : ¬ zeP e = 2) : zeL e = true := by
  show (!decide (zeP e = 2)) = true
  rw [decide_eq_false h]
  rfl
theorem zeL_eq {e : zE} (h : zeP e = 2) : zeL e = false := by
  show (!decide (zeP e = 2)) = false
  rw [decide_eq_true h]
  rfl
theorem s_entry {c s n p k t : Nat} {v : Int} {r : Bool} {h : xH} (hp : p < 3) (he : h (8, n) = some (.inl (1, [zi 0, zi 0, zi 0, zi 0, zi 0, zi 0, zi 0, zi 0, zi 0])))
    (q : ∀ h1 : xH, zEn h1 (n, (p, r, k, t, v), (0, 0, 0)) → (∀ a b : Nat, ¬ (a = 8 ∧ b = n) → h1 (a, b) = h (a, b)) → Q (.inl none) c s h1) : zX d 0 0 [(0, .inr (8, n)), (1, zi (p : Int)), (2, zi (zbi r)), (3, zi (k : Int)), (4, zi (t : Int)), (5, zi v)] [] c s h Q := by
  refine zX.sn 1 (pc2 := 1) (l2 := [(0, .inr (8, n)), (1, zi (p : Int)), (2, zi (zbi r)), (3, zi (k : Int)), (4, zi (t : Int)), (5, zi v)]) (st2 := [.inr (8, n)]) rfl ?_
  refine zX.obj ⟨rfl, rfl⟩ (Nat.le_of_ble_eq_true rfl) ?_
  refine zX.sn 1 (pc2 := 5) (l2 := [(0, .inr (8, n)), (1, zi (p : Int)), (2, zi (zbi r)), (3, zi (k : Int)), (4, zi (t : Int)), (5, zi v)]) (st2 := [.inr (8, n)]) rfl ?_
  refine zX.sn 1 (pc2 := 6) (l2 := [(0, .inr (8, n)), (1, zi (p : Int)), (2, zi (zbi r)), (3, zi (k : Int)), (4, zi (t : Int)), (5, zi v)]) (st2 := [zi (p : Int), .inr (8, n)]) rfl ?_
  refine zX.putf ⟨rfl, rfl⟩ he rfl (by omega) rfl ?_
  show zX _ 0 9 [(0, .inr (8, n)), (1, zi (p : Int)), (2, zi (zbi r)), (3, zi (k : Int)), (4, zi (t : Int)), (5, zi v)] [] c s (xup h (8, n) (.inl (1, [zi (p : Int), zi 0, zi 0, zi 0, zi 0, zi 0, zi 0, zi 0, zi 0]))) _
  generalize hh1 : xup h (8, n) (.inl (1, [zi (p : Int), zi 0, zi 0, zi 0, zi 0, zi 0, zi 0, zi 0, zi 0])) = h1
  have hs1 : h1 (8, n) = some (.inl (1, [zi (p : Int), zi 0, zi 0, zi 0, zi 0, zi 0, zi 0, zi 0, zi 0])) := by
    rw [← hh1]
    exact zup_s
  have hn1 : ∀ a b : Nat, ¬ (a = 8 ∧ b = n) → h1 (a, b) = h (a, b) := fun a b hn => by
    rw [← hh1]
    exact zup_n (zn (by omega)) rfl
  refine zX.sn 1 (pc2 := 10) (l2 := [(0, .inr (8, n)), (1, zi (p : Int)), (2, zi (zbi r)), (3, zi (k : Int)), (4, zi (t : Int)), (5, zi v)]) (st2 := [.inr (8, n)]) rfl ?_
  refine zX.sn 1 (pc2 := 11) (l2 := [(0, .inr (8, n)), (1, zi (p : Int)), (2, zi (zbi r)), (3, zi (k : Int)), (4, zi (t : Int)), (5, zi v)]) (st2 := [zi (zbi r), .inr (8, n)]) rfl ?_
  refine zX.putf ⟨rfl, rfl⟩ hs1 rfl (by omega) (by cases r <;> decide) ?_
  show zX _ 0 14 [(0, .inr (8, n)), (1, zi (p : Int)), (2, zi (zbi r)), (3, zi (k : Int)), (4, zi (t : Int)), (5, zi v)] [] c s (xup h1 (8, n) (.inl (1, [zi (p : Int), zi (zbi r), zi 0, zi 0, zi 0, zi 0, zi 0, zi 0, zi 0]))) _
  generalize hh2 : xup h1 (8, n) (.inl (1, [zi (p : Int), zi (zbi r), zi 0, zi 0, zi 0, zi 0, zi 0, zi 0, zi 0])) = h2
  have hs2 : h2 (8, n) = some (.inl (1, [zi (p : Int), zi (zbi r), zi 0, zi 0, zi 0, zi 0, zi 0, zi 0, zi 0])) := by
    rw [← hh2]
    exact zup_s
  have hn2 : ∀ a b : Nat, ¬ (a = 8 ∧ b = n) → h2 (a, b) = h (a, b) := fun a b hn => by
    rw [← hh2]
    exact zup_n (zn (by omega)) (hn1 a b hn)
  refine zX.sn 1 (pc2 := 15) (l2 := [(0, .inr (8, n)), (1, zi (p : Int)), (2, zi (zbi r)), (3, zi (k : Int)), (4, zi (t : Int)), (5, zi v)]) (st2 := [.inr (8, n)]) rfl ?_
  refine zX.sn 1 (pc2 := 16) (l2 := [(0, .inr (8, n)), (1, zi (p : Int)), (2, zi (zbi r)), (3, zi (k : Int)), (4, zi (t : Int)), (5, zi v)]) (st2 := [zi (p : Int), .inr (8, n)]) rfl ?_
  refine zX.sn 1 (pc2 := 17) (l2 := [(0, .inr (8, n)), (1, zi (p : Int)), (2, zi (zbi r)), (3, zi (k : Int)), (4, zi (t : Int)), (5, zi v)]) (st2 := [zi 2, zi (p : Int), .inr (8, n)]) rfl ?_
  have rest : zX d 0 25 [(0, .inr (8, n)), (1, zi (p : Int)), (2, zi (zbi r)), (3, zi (k : Int)), (4, zi (t : Int)), (5, zi v)] [zi (zbi (zeL ((n, (p, r, k, t, v), (0, 0, 0)) : zE))), .inr (8, n)] c s h2 Q := ?restz
  refine zX.icmp (tgt := 24) ⟨rfl, rfl⟩ rfl (by omega) (by omega) (fun (z : (p : Int) = 2) => ?_) (fun (z : ¬ (p : Int) = 2) => ?_)
  · refine zX.sn 1 (pc2 := 25) (l2 := [(0, .inr (8, n)), (1, zi (p : Int)), (2, zi (zbi r)), (3, zi (k : Int)), (4, zi (t : Int)), (5, zi v)]) (st2 := [zi 0, .inr (8, n)]) rfl ?_
    rw [zeL_eq (e := ((n, (p, r, k, t, v), (0, 0, 0)) : zE)) (by show p = 2; omega)] at rest
    exact rest
  · refine zX.sn 1 (pc2 := 21) (l2 := [(0, .inr (8, n)), (1, zi (p : Int)), (2, zi (zbi r)), (3, zi (k : Int)), (4, zi (t : Int)), (5, zi v)]) (st2 := [zi 1, .inr (8, n)]) rfl ?_
    refine zX.sn 1 (pc2 := 25) (l2 := [(0, .inr (8, n)), (1, zi (p : Int)), (2, zi (zbi r)), (3, zi (k : Int)), (4, zi (t : Int)), (5, zi v)]) (st2 := [zi 1, .inr (8, n)]) rfl ?_
    rw [zeL_ne (e := ((n, (p, r, k, t, v), (0, 0, 0)) : zE)) (by show ¬ p = 2; omega)] at rest
    exact rest
  case restz =>
    refine zX.putf ⟨rfl, rfl⟩ hs2 rfl (by omega) (by cases (zeL ((n, (p, r, k, t, v), (0, 0, 0)) : zE)) <;> decide) ?_
    show zX _ 0 28 [(0, .inr (8, n)), (1, zi (p : Int)), (2, zi (zbi r)), (3, zi (k : Int)), (4, zi (t : Int)), (5, zi v)] [] c s (xup h2 (8, n) (.inl (1, [zi (p : Int), zi (zbi r), zi (zbi (zeL ((n, (p, r, k, t, v), (0, 0, 0)) : zE))), zi 0, zi 0, zi 0, zi 0, zi 0, zi 0]))) _
    generalize hh3 : xup h2 (8, n) (.inl (1, [zi (p : Int), zi (zbi r), zi (zbi (zeL ((n, (p, r, k, t, v), (0, 0, 0)) : zE))), zi 0, zi 0, zi 0, zi 0, zi 0, zi 0])) = h3
    have hs3 : h3 (8, n) = some (.inl (1, [zi (p : Int), zi (zbi r), zi (zbi (zeL ((n, (p, r, k, t, v), (0, 0, 0)) : zE))), zi 0, zi 0, zi 0, zi 0, zi 0, zi 0])) := by
      rw [← hh3]
      exact zup_s
    have hn3 : ∀ a b : Nat, ¬ (a = 8 ∧ b = n) → h3 (a, b) = h (a, b) := fun a b hn => by
      rw [← hh3]
      exact zup_n (zn (by omega)) (hn2 a b hn)
    refine zX.sn 1 (pc2 := 29) (l2 := [(0, .inr (8, n)), (1, zi (p : Int)), (2, zi (zbi r)), (3, zi (k : Int)), (4, zi (t : Int)), (5, zi v)]) (st2 := [.inr (8, n)]) rfl ?_
    refine zX.sn 1 (pc2 := 30) (l2 := [(0, .inr (8, n)), (1, zi (p : Int)), (2, zi (zbi r)), (3, zi (k : Int)), (4, zi (t : Int)), (5, zi v)]) (st2 := [zi (k : Int), .inr (8, n)]) rfl ?_
    refine zX.putf ⟨rfl, rfl⟩ hs3 rfl (by omega) rfl ?_
    show zX _ 0 33 [(0, .inr (8, n)), (1, zi (p : Int)), (2, zi (zbi r)), (3, zi (k : Int)), (4, zi (t : Int)), (5, zi v)] [] c s (xup h3 (8, n) (.inl (1, [zi (p : Int), zi (zbi r), zi (zbi (zeL ((n, (p, r, k, t, v), (0, 0, 0)) : zE))), zi (k : Int), zi 0, zi 0, zi 0, zi 0, zi 0]))) _
    generalize hh4 : xup h3 (8, n) (.inl (1, [zi (p : Int), zi (zbi r), zi (zbi (zeL ((n, (p, r, k, t, v), (0, 0, 0)) : zE))), zi (k : Int), zi 0, zi 0, zi 0, zi 0, zi 0])) = h4
    have hs4 : h4 (8, n) = some (.inl (1, [zi (p : Int), zi (zbi r), zi (zbi (zeL ((n, (p, r, k, t, v), (0, 0, 0)) : zE))), zi (k : Int), zi 0, zi 0, zi 0, zi 0, zi 0])) := by
      rw [← hh4]
      exact zup_s
    have hn4 : ∀ a b : Nat, ¬ (a = 8 ∧ b = n) → h4 (a, b) = h (a, b) := fun a b hn => by
      rw [← hh4]
      exact zup_n (zn (by omega)) (hn3 a b hn)
    refine zX.sn 1 (pc2 := 34) (l2 := [(0, .inr (8, n)), (1, zi (p : Int)), (2, zi (zbi r)), (3, zi (k : Int)), (4, zi (t : Int)), (5, zi v)]) (st2 := [.inr (8, n)]) rfl ?_
    refine zX.sn 1 (pc2 := 36) (l2 := [(0, .inr (8, n)), (1, zi (p : Int)), (2, zi (zbi r)), (3, zi (k : Int)), (4, zi (t : Int)), (5, zi v)]) (st2 := [zi (t : Int), .inr (8, n)]) rfl ?_
    refine zX.putf ⟨rfl, rfl⟩ hs4 rfl (by omega) rfl ?_
    show zX _ 0 39 [(0, .inr (8, n)), (1, zi (p : Int)), (2, zi (zbi r)), (3, zi (k : Int)), (4, zi (t : Int)), (5, zi v)] [] c s (xup h4 (8, n) (.inl (1, [zi (p : Int), zi (zbi r), zi (zbi (zeL ((n, (p, r, k, t, v), (0, 0, 0)) : zE))), zi (k : Int), zi (t : Int), zi 0, zi 0, zi 0, zi 0]))) _
    generalize hh5 : xup h4 (8, n) (.inl (1, [zi (p : Int), zi (zbi r), zi (zbi (zeL ((n, (p, r, k, t, v), (0, 0, 0)) : zE))), zi (k : Int), zi (t : Int), zi 0, zi 0, zi 0, zi 0])) = h5
    have hs5 : h5 (8, n) = some (.inl (1, [zi (p : Int), zi (zbi r), zi (zbi (zeL ((n, (p, r, k, t, v), (0, 0, 0)) : zE))), zi (k : Int), zi (t : Int), zi 0, zi 0, zi 0, zi 0])) := by
      rw [← hh5]
      exact zup_s
    have hn5 : ∀ a b : Nat, ¬ (a = 8 ∧ b = n) → h5 (a, b) = h (a, b) := fun a b hn => by
      rw [← hh5]
      exact zup_n (zn (by omega)) (hn4 a b hn)
    refine zX.sn 1 (pc2 := 40) (l2 := [(0, .inr (8, n)), (1, zi (p : Int)), (2, zi (zbi r)), (3, zi (k : Int)), (4, zi (t : Int)), (5, zi v)]) (st2 := [.inr (8, n)]) rfl ?_
    refine zX.sn 1 (pc2 := 42) (l2 := [(0, .inr (8, n)), (1, zi (p : Int)), (2, zi (zbi r)), (3, zi (k : Int)), (4, zi (t : Int)), (5, zi v)]) (st2 := [zi v, .inr (8, n)]) rfl ?_
    refine zX.putf ⟨rfl, rfl⟩ hs5 rfl (by omega) rfl ?_
    show zX _ 0 45 [(0, .inr (8, n)), (1, zi (p : Int)), (2, zi (zbi r)), (3, zi (k : Int)), (4, zi (t : Int)), (5, zi v)] [] c s (xup h5 (8, n) (.inl (1, [zi (p : Int), zi (zbi r), zi (zbi (zeL ((n, (p, r, k, t, v), (0, 0, 0)) : zE))), zi (k : Int), zi (t : Int), zi v, zi 0, zi 0, zi 0]))) _
    generalize hh6 : xup h5 (8, n) (.inl (1, [zi (p : Int), zi (zbi r), zi (zbi (zeL ((n, (p, r, k, t, v), (0, 0, 0)) : zE))), zi (k : Int), zi (t : Int), zi v, zi 0, zi 0, zi 0])) = h6
    have hs6 : h6 (8, n) = some (.inl (1, [zi (p : Int), zi (zbi r), zi (zbi (zeL ((n, (p, r, k, t, v), (0, 0, 0)) : zE))), zi (k : Int), zi (t : Int), zi v, zi 0, zi 0, zi 0])) := by
      rw [← hh6]
      exact zup_s
    have hn6 : ∀ a b : Nat, ¬ (a = 8 ∧ b = n) → h6 (a, b) = h (a, b) := fun a b hn => by
      rw [← hh6]
      exact zup_n (zn (by omega)) (hn5 a b hn)
    refine zX.ret rfl rfl ?_
    exact q h6 hs6 hn6
/-- an entry is put behind a log -/
def zaQ (P : Nat → zPT) (p cap : Nat) (e : zE) : Nat → zPT := fun j => if j = p then ((P p).1, (P p).2.1, (P p).2.2.1, cap, (P p).2.2.2.2 ++ [e]) else P j
theorem zPs.put {h h1 : xH} {P : Nat → zPT} {p cap1 : Nat} {e : zE} (hp : p < 3) (hP : zPs h P) (hl : (P p).2.2.2.2.length < 72) (hE : zEr e) (he : zEn h1 e) (hfr : h (8, zeN e) = none) (hA : zAL h1 6 p cap1 (zNm (P p).2.2.2.2 ++ [(8, zeN e)])) (e1 : ∀ a b : Nat, ¬ (6 ≤ a ∧ a < 8 ∧ b % 8 = p ∨ a = 8 ∧ b = zeN e) → h1 (a, b) = h (a, b)) : zPs h1 (zaQ P p cap1 e) := by
  obtain ⟨⟨cap, hq⟩, hPt⟩ := hP
  refine ⟨⟨cap, hq.fr (fun a b z => e1 a b (by omega))⟩, fun j hj => ?_⟩
  obtain ⟨g1, g2, g3, g4, g5, g6, g7⟩ := hPt j hj
  have ks : zKs h1 (P j).2.2.2.2 := fun x hx => ⟨(g3 x hx).1, (e1 _ _ (fun z => by
    rcases z with z | z
    · omega
    · have hx2 := (g3 x hx).2
      have hx3 : h (8, zeN x) = none := by rw [z.2]; exact hfr
      exact absurd (hx3.symm.trans hx2) (by intro z; cases z))).trans (g3 x hx).2⟩
  by_cases hjp : j = p
  · subst hjp
    rw [show zaQ P j cap1 e j = ((P j).1, (P j).2.1, (P j).2.2.1, cap1, (P j).2.2.2.2 ++ [e]) from if_pos rfl]
    refine ⟨(e1 _ _ (by omega)).trans g1, ?_, fun x hx => ?_, g4, g5, by rw [List.length_append]; show _ ≤ _ + 1; omega, by rw [List.length_append]; show _ + 1 ≤ 72; omega⟩
    · have hm : zNm ((P j).2.2.2.2 ++ [e]) = zNm (P j).2.2.2.2 ++ [(8, zeN e)] := List.map_append
      show zAL h1 6 j cap1 (zNm ((P j).2.2.2.2 ++ [e]))
      rw [hm]
      exact hA
    · rcases List.mem_append.mp hx with hx | hx
      · exact ks x hx
      · obtain rfl := List.mem_singleton.mp hx
        exact ⟨hE, he⟩
  · rw [show zaQ P p cap1 e j = P j from if_neg hjp]
    exact ⟨(e1 _ _ (by omega)).trans g1, g2.fr (fun a b z => e1 a b (by omega)), ks, g4, g5, g6, g7⟩
theorem s_append {c s p : Nat} {P : Nat → zPT} {e : zE} {h : xH} (hp : p < 3) (hP : zPs h P) (hl : (P p).2.2.2.2.length < 72) (he : zEn h e)
    (q : ∀ h1 cap1 c1 s1, zAL h1 6 p cap1 (zNm (P p).2.2.2.2 ++ [(8, zeN e)]) → (∀ a b : Nat, ¬ (6 ≤ a ∧ a < 8 ∧ b % 8 = p) → h1 (a, b) = h (a, b)) → (P p).2.2.2.1 ≤ cap1 ∧ c1 + (P p).2.2.2.1 ≤ c + cap1 ∧ s1 + 4 * (P p).2.2.2.1 ≤ s + 4 * cap1 → Q (.inl (some (zi ((P p).2.2.2.2.length : Int)))) c1 s1 h1) : zX (d + 7) 137 0 [(0, .inr (10, 0)), (1, .inr (5, p)), (2, .inr (8, zeN e))] [] c s h Q := by
  obtain ⟨b1, b2, b3, b4, b5, b6, b7⟩ := hP.2 p hp
  have hnl : (zNm (P p).2.2.2.2).length = (P p).2.2.2.2.length := List.length_map _
  refine zX.sn 1 (pc2 := 1) (l2 := [(0, .inr (10, 0)), (1, .inr (5, p)), (2, .inr (8, zeN e))]) (st2 := [.inr (5, p)]) rfl ?_
  refine zX.getf ⟨rfl, rfl⟩ b1 rfl rfl ?_
  refine zX.call (mid2 := 150) (as := [.inr (6, p)]) (rest := []) ⟨rfl, rfl⟩ (fun _ => rfl) (zX.invA rfl b2 rfl rfl) ⟨Nat.le_of_ble_eq_true rfl, Nat.le_of_ble_eq_true rfl⟩ ?_
  refine s_size b2 ?_
  show zX _ 137 7 [(0, .inr (10, 0)), (1, .inr (5, p)), (2, .inr (8, zeN e))] [zi ((zNm (P p).2.2.2.2).length : Int)] c s _ _
  refine zX.sn 1 (pc2 := 9) (l2 := [(0, .inr (10, 0)), (1, .inr (5, p)), (2, .inr (8, zeN e))]) (st2 := [zi 80, zi ((zNm (P p).2.2.2.2).length : Int)]) rfl ?_
  refine zX.icmp (tgt := 23) ⟨rfl, rfl⟩ rfl (by omega) (by omega) (fun _ => ?_) (fun (zz : 80 ≤ ((zNm (P p).2.2.2.2).length : Int)) => absurd zz (by omega))
  refine zX.sn 1 (pc2 := 24) (l2 := [(0, .inr (10, 0)), (1, .inr (5, p)), (2, .inr (8, zeN e))]) (st2 := [.inr (5, p)]) rfl ?_
  refine zX.getf ⟨rfl, rfl⟩ b1 rfl rfl ?_
  refine zX.sn 1 (pc2 := 28) (l2 := [(0, .inr (10, 0)), (1, .inr (5, p)), (2, .inr (8, zeN e))]) (st2 := [.inr (8, zeN e), .inr (6, p)]) rfl ?_
  refine zX.call (mid2 := 155) (as := [.inr (6, p), .inr (8, zeN e)]) (rest := []) ⟨rfl, rfl⟩ (fun _ => rfl) (zX.invA rfl b2 rfl rfl) ⟨Nat.le_of_ble_eq_true rfl, Nat.le_of_ble_eq_true rfl⟩ ?_
  refine s_add (d := d) (x := (8, zeN e)) (by omega) (by omega) b2 (by omega) (b3.el6 (by omega)) (by dsimp only; omega) he rfl (fun h1 cap1 c1 s1 a1 a2 a3 => ?_)
  show zX _ 137 31 [(0, .inr (10, 0)), (1, .inr (5, p)), (2, .inr (8, zeN e))] [zi 1] c1 s1 _ _
  have b1b := (a2 5 p (by omega)).trans b1
  have hlen : ((zNm (P p).2.2.2.2 ++ [(8, zeN e)]).length : Int) = ((P p).2.2.2.2.length : Int) + 1 := by rw [List.length_append, hnl]; rfl
  refine zX.sn 1 (pc2 := 32) (l2 := [(0, .inr (10, 0)), (1, .inr (5, p)), (2, .inr (8, zeN e))]) (st2 := []) rfl ?_
  refine zX.sn 1 (pc2 := 33) (l2 := [(0, .inr (10, 0)), (1, .inr (5, p)), (2, .inr (8, zeN e))]) (st2 := [.inr (5, p)]) rfl ?_
  refine zX.getf ⟨rfl, rfl⟩ b1b rfl rfl ?_
  refine zX.call (mid2 := 150) (as := [.inr (6, p)]) (rest := []) ⟨rfl, rfl⟩ (fun _ => rfl) (zX.invA rfl a1 rfl rfl) ⟨Nat.le_of_ble_eq_true rfl, Nat.le_of_ble_eq_true rfl⟩ ?_
  refine s_size a1 ?_
  show zX _ 137 39 [(0, .inr (10, 0)), (1, .inr (5, p)), (2, .inr (8, zeN e))] [zi ((zNm (P p).2.2.2.2 ++ [(8, zeN e)]).length : Int)] c1 s1 _ _
  refine zX.sn 1 (pc2 := 40) (l2 := [(0, .inr (10, 0)), (1, .inr (5, p)), (2, .inr (8, zeN e))]) (st2 := [zi 1, zi ((zNm (P p).2.2.2.2 ++ [(8, zeN e)]).length : Int)]) rfl ?_
  refine zX.isub ⟨rfl, rfl⟩ ?_
  refine zX.ret rfl rfl ?_
  have hr : ((zNm (P p).2.2.2.2 ++ [(8, zeN e)]).length : Int) - 1 = ((P p).2.2.2.2.length : Int) := by omega
  rw [hr]
  exact q h1 cap1 c1 s1 a1 (fun a b hn => a2 a b (by omega)) a3
theorem s_needT {t c s : Nat} {h : xH} (ht : t < 1000) (q : Q (.inl none) c s h) : zX d 132 0 [(0, .inr (10, 0)), (1, zi (t : Int))] [] c s h Q := by
  refine zX.sn 1 (pc2 := 1) (l2 := [(0, .inr (10, 0)), (1, zi (t : Int))]) (st2 := [zi (t : Int)]) rfl ?_
  refine zX.icmp0 (tgt := 11) ⟨rfl, rfl⟩ rfl (by omega) (fun (zz : (t : Int) < 0) => absurd zz (by omega)) (fun _ => ?_)
  refine zX.sn 1 (pc2 := 5) (l2 := [(0, .inr (10, 0)), (1, zi (t : Int))]) (st2 := [zi (t : Int)]) rfl ?_
  refine zX.sn 1 (pc2 := 8) (l2 := [(0, .inr (10, 0)), (1, zi (t : Int))]) (st2 := [zi 1000, zi (t : Int)]) rfl ?_
  refine zX.icmp (tgt := 22) ⟨rfl, rfl⟩ rfl (by omega) (by omega) (fun _ => ?_) (fun (zz : 1000 ≤ (t : Int)) => absurd zz (by omega))
  refine zX.ret rfl rfl ?_
  exact q
set_option maxHeartbeats 1000000 in
theorem s_putRow {c s n p t : Nat} {k : Nat} {v : Int} {f : Nat → xV} {fs : List xV} {P : Nat → zPT} {h : xH} (hp : p < 3) (ht : t < 1000) (hk : k < 8) (hv : -99 ≤ v ∧ v ≤ 99) (hw : h (17, 0) = some (.inr (0, 8, f))) (hl : (P p).2.2.2.2.length < 72) (hfr : h (8, n) = none) (hf : h (10, 0) = some (.inl (10, zFn fs))) (hP : zPs h P)
    (q : ∀ h1 cap1 c1 s1, zPs h1 (zaQ P p cap1 ((n, (p, true, k, t, v), (0, 0, 0)) : zE)) → (∀ a b : Nat, ¬ (6 ≤ a ∧ a < 8 ∧ b % 8 = p ∨ a = 8 ∧ b = n) → h1 (a, b) = h (a, b)) → (P p).2.2.2.1 ≤ cap1 ∧ c1 + (P p).2.2.2.1 ≤ c + cap1 + 1 ∧ s1 + 4 * (P p).2.2.2.1 ≤ s + 4 * cap1 + 9 → Q (.inl (some (zi ((P p).2.2.2.2.length : Int)))) c1 s1 h1) : zX (d + 9) 100 0 [(0, .inr (10, 0)), (1, zi (p : Int)), (2, zi (k : Int)), (3, zi (t : Int)), (4, zi v)] [] c s h Q := by
  refine zX.sn 1 (pc2 := 1) (l2 := [(0, .inr (10, 0)), (1, zi (p : Int)), (2, zi (k : Int)), (3, zi (t : Int)), (4, zi v)]) (st2 := [.inr (10, 0)]) rfl ?_
  refine zX.sn 1 (pc2 := 2) (l2 := [(0, .inr (10, 0)), (1, zi (p : Int)), (2, zi (k : Int)), (3, zi (t : Int)), (4, zi v)]) (st2 := [zi (p : Int), .inr (10, 0)]) rfl ?_
  refine zX.call (mid2 := 129) (as := [.inr (10, 0), zi (p : Int)]) (rest := []) ⟨rfl, rfl⟩ (fun _ => rfl) (zX.inv rfl hf rfl rfl) ⟨Nat.le_of_ble_eq_true rfl, Nat.le_of_ble_eq_true rfl⟩ ?_
  refine s_part1 (d := d + 5) hf hP hp ?_
  show zX _ 100 5 [(0, .inr (10, 0)), (1, zi (p : Int)), (2, zi (k : Int)), (3, zi (t : Int)), (4, zi v)] [.inr (5, p)] c s _ _
  refine zX.sn 1 (pc2 := 7) (l2 := [(5, .inr (5, p)), (0, .inr (10, 0)), (1, zi (p : Int)), (2, zi (k : Int)), (3, zi (t : Int)), (4, zi v)]) (st2 := []) rfl ?_
  refine zX.sn 1 (pc2 := 8) (l2 := [(5, .inr (5, p)), (0, .inr (10, 0)), (1, zi (p : Int)), (2, zi (k : Int)), (3, zi (t : Int)), (4, zi v)]) (st2 := [.inr (10, 0)]) rfl ?_
  refine zX.sn 1 (pc2 := 9) (l2 := [(5, .inr (5, p)), (0, .inr (10, 0)), (1, zi (p : Int)), (2, zi (k : Int)), (3, zi (t : Int)), (4, zi v)]) (st2 := [zi (k : Int), .inr (10, 0)]) rfl ?_
  refine zX.call (mid2 := 131) (as := [.inr (10, 0), zi (k : Int)]) (rest := []) ⟨rfl, rfl⟩ (fun _ => rfl) (zX.inv rfl hf rfl rfl) ⟨Nat.le_of_ble_eq_true rfl, Nat.le_of_ble_eq_true rfl⟩ ?_
  refine s_needK hk hf hw ?_
  show zX _ 100 12 [(5, .inr (5, p)), (0, .inr (10, 0)), (1, zi (p : Int)), (2, zi (k : Int)), (3, zi (t : Int)), (4, zi v)] [] c s _ _
  refine zX.sn 1 (pc2 := 13) (l2 := [(5, .inr (5, p)), (0, .inr (10, 0)), (1, zi (p : Int)), (2, zi (k : Int)), (3, zi (t : Int)), (4, zi v)]) (st2 := [.inr (10, 0)]) rfl ?_
  refine zX.sn 1 (pc2 := 14) (l2 := [(5, .inr (5, p)), (0, .inr (10, 0)), (1, zi (p : Int)), (2, zi (k : Int)), (3, zi (t : Int)), (4, zi v)]) (st2 := [zi (t : Int), .inr (10, 0)]) rfl ?_
  refine zX.call (mid2 := 132) (as := [.inr (10, 0), zi (t : Int)]) (rest := []) ⟨rfl, rfl⟩ (fun _ => rfl) (zX.inv rfl hf rfl rfl) ⟨Nat.le_of_ble_eq_true rfl, Nat.le_of_ble_eq_true rfl⟩ ?_
  refine s_needT ht ?_
  show zX _ 100 17 [(5, .inr (5, p)), (0, .inr (10, 0)), (1, zi (p : Int)), (2, zi (k : Int)), (3, zi (t : Int)), (4, zi v)] [] c s _ _
  refine zX.sn 1 (pc2 := 19) (l2 := [(5, .inr (5, p)), (0, .inr (10, 0)), (1, zi (p : Int)), (2, zi (k : Int)), (3, zi (t : Int)), (4, zi v)]) (st2 := [zi v]) rfl ?_
  refine zX.sn 1 (pc2 := 21) (l2 := [(5, .inr (5, p)), (0, .inr (10, 0)), (1, zi (p : Int)), (2, zi (k : Int)), (3, zi (t : Int)), (4, zi v)]) (st2 := [zi (-99), zi v]) rfl ?_
  refine zX.icmp (tgt := 31) ⟨rfl, rfl⟩ rfl (by omega) (by omega) (fun (zz : v < (-99)) => absurd zz (by omega)) (fun _ => ?_)
  refine zX.sn 1 (pc2 := 26) (l2 := [(5, .inr (5, p)), (0, .inr (10, 0)), (1, zi (p : Int)), (2, zi (k : Int)), (3, zi (t : Int)), (4, zi v)]) (st2 := [zi v]) rfl ?_
  refine zX.sn 1 (pc2 := 28) (l2 := [(5, .inr (5, p)), (0, .inr (10, 0)), (1, zi (p : Int)), (2, zi (k : Int)), (3, zi (t : Int)), (4, zi v)]) (st2 := [zi 99, zi v]) rfl ?_
  refine zX.icmp (tgt := 41) ⟨rfl, rfl⟩ rfl (by omega) (by omega) (fun _ => ?_) (fun (zz : 99 < v) => absurd zz (by omega))
  refine zX.sn 1 (pc2 := 42) (l2 := [(5, .inr (5, p)), (0, .inr (10, 0)), (1, zi (p : Int)), (2, zi (k : Int)), (3, zi (t : Int)), (4, zi v)]) (st2 := [.inr (10, 0)]) rfl ?_
  refine zX.sn 1 (pc2 := 44) (l2 := [(5, .inr (5, p)), (0, .inr (10, 0)), (1, zi (p : Int)), (2, zi (k : Int)), (3, zi (t : Int)), (4, zi v)]) (st2 := [.inr (5, p), .inr (10, 0)]) rfl ?_
  refine zX.new (8, n) ⟨rfl, rfl⟩ hfr (by omega) ?_
  show zX _ 100 47 [(5, .inr (5, p)), (0, .inr (10, 0)), (1, zi (p : Int)), (2, zi (k : Int)), (3, zi (t : Int)), (4, zi v)] [.inr (8, n), .inr (5, p), .inr (10, 0)] (c + 1) (s + 9) (xup h (8, n) (.inl (1, [zi 0, zi 0, zi 0, zi 0, zi 0, zi 0, zi 0, zi 0, zi 0]))) _
  generalize hh1 : xup h (8, n) (.inl (1, [zi 0, zi 0, zi 0, zi 0, zi 0, zi 0, zi 0, zi 0, zi 0])) = h1
  have hs1 : h1 (8, n) = some (.inl (1, [zi 0, zi 0, zi 0, zi 0, zi 0, zi 0, zi 0, zi 0, zi 0])) := by
    rw [← hh1]
    exact zup_s
  have hn1 : ∀ a b : Nat, ¬ (a = 8 ∧ b = n) → h1 (a, b) = h (a, b) := fun a b hn => by
    rw [← hh1]
    exact zup_n (zn (by omega)) rfl
  refine zX.sn 1 (pc2 := 48) (l2 := [(5, .inr (5, p)), (0, .inr (10, 0)), (1, zi (p : Int)), (2, zi (k : Int)), (3, zi (t : Int)), (4, zi v)]) (st2 := [.inr (8, n), .inr (8, n), .inr (5, p), .inr (10, 0)]) rfl ?_
  refine zX.sn 1 (pc2 := 49) (l2 := [(5, .inr (5, p)), (0, .inr (10, 0)), (1, zi (p : Int)), (2, zi (k : Int)), (3, zi (t : Int)), (4, zi v)]) (st2 := [zi (p : Int), .inr (8, n), .inr (8, n), .inr (5, p), .inr (10, 0)]) rfl ?_
  refine zX.sn 1 (pc2 := 50) (l2 := [(5, .inr (5, p)), (0, .inr (10, 0)), (1, zi (p : Int)), (2, zi (k : Int)), (3, zi (t : Int)), (4, zi v)]) (st2 := [zi 1, zi (p : Int), .inr (8, n), .inr (8, n), .inr (5, p), .inr (10, 0)]) rfl ?_
  refine zX.sn 1 (pc2 := 51) (l2 := [(5, .inr (5, p)), (0, .inr (10, 0)), (1, zi (p : Int)), (2, zi (k : Int)), (3, zi (t : Int)), (4, zi v)]) (st2 := [zi (k : Int), zi 1, zi (p : Int), .inr (8, n), .inr (8, n), .inr (5, p), .inr (10, 0)]) rfl ?_
  refine zX.sn 1 (pc2 := 52) (l2 := [(5, .inr (5, p)), (0, .inr (10, 0)), (1, zi (p : Int)), (2, zi (k : Int)), (3, zi (t : Int)), (4, zi v)]) (st2 := [zi (t : Int), zi (k : Int), zi 1, zi (p : Int), .inr (8, n), .inr (8, n), .inr (5, p), .inr (10, 0)]) rfl ?_
  refine zX.sn 1 (pc2 := 54) (l2 := [(5, .inr (5, p)), (0, .inr (10, 0)), (1, zi (p : Int)), (2, zi (k : Int)), (3, zi (t : Int)), (4, zi v)]) (st2 := [zi v, zi (t : Int), zi (k : Int), zi 1, zi (p : Int), .inr (8, n), .inr (8, n), .inr (5, p), .inr (10, 0)]) rfl ?_
  refine zX.call (mid2 := 0) (as := [.inr (8, n), zi (p : Int), zi 1, zi (k : Int), zi (t : Int), zi v]) (rest := [.inr (8, n), .inr (5, p), .inr (10, 0)]) ⟨rfl, rfl⟩ (fun _ => rfl) rfl ⟨Nat.le_of_ble_eq_true rfl, Nat.le_of_ble_eq_true rfl⟩ ?_
  refine s_entry (k := k) (v := v) (r := true) hp hs1 (fun h2 a1 a2 => ?_)
  show zX _ 100 57 [(5, .inr (5, p)), (0, .inr (10, 0)), (1, zi (p : Int)), (2, zi (k : Int)), (3, zi (t : Int)), (4, zi v)] [.inr (8, n), .inr (5, p), .inr (10, 0)] (c + 1) (s + 9) _ _
  have hn2 : ∀ a b : Nat, ¬ (a = 8 ∧ b = n) → h2 (a, b) = h (a, b) := fun a b hn => (a2 a b hn).trans (hn1 a b hn)
  have hf2 := (hn2 10 0 (by omega)).trans hf
  have hP2 : zPs h2 P := by
    obtain ⟨⟨cap, hq⟩, hPt⟩ := hP
    refine ⟨⟨cap, hq.fr (fun a b z => hn2 a b (by omega))⟩, fun j hj => ?_⟩
    obtain ⟨g1, g2, g3, g4⟩ := hPt j hj
    refine ⟨(hn2 _ _ (by omega)).trans g1, g2.fr (fun a b z => hn2 a b (by omega)), fun x hx => ⟨(g3 x hx).1, (hn2 _ _ (fun z => ?_)).trans (g3 x hx).2⟩, g4⟩
    have hx3 : h (8, zeN x) = none := by rw [z.2]; exact hfr
    exact absurd (hx3.symm.trans (g3 x hx).2) (by intro z; cases z)
  refine zX.call (mid2 := 137) (as := [.inr (10, 0), .inr (5, p), .inr (8, n)]) (rest := []) ⟨rfl, rfl⟩ (fun _ => rfl) (zX.inv rfl hf2 rfl rfl) ⟨Nat.le_of_ble_eq_true rfl, Nat.le_of_ble_eq_true rfl⟩ ?_
  refine s_append (d := d + 1) (e := ((n, (p, true, k, t, v), (0, 0, 0)) : zE)) hp hP2 hl a1 (fun h3 cap1 c3 s3 d1 d2 d3 => ?_)
  show zX _ 100 60 [(5, .inr (5, p)), (0, .inr (10, 0)), (1, zi (p : Int)), (2, zi (k : Int)), (3, zi (t : Int)), (4, zi v)] [zi ((P p).2.2.2.2.length : Int)] c3 s3 _ _
  refine zX.ret rfl rfl ?_
  refine q h3 cap1 c3 s3 (hP.put (e := ((n, (p, true, k, t, v), (0, 0, 0)) : zE)) hp hl ⟨hp, hk, ht, hv, (show 0 < 240 by decide), (show -1 ≤ (0 : Int) ∧ (0 : Int) < 1000 by decide)⟩ ((d2 _ _ (by omega)).trans a1) hfr d1 (fun a b hn => (d2 a b (fun z => hn (Or.inl z))).trans (hn2 a b (fun z => hn (Or.inr z))))) (fun a b hn => (d2 a b (fun z => hn (Or.inl z))).trans (hn2 a b (fun z => hn (Or.inr z)))) ⟨d3.1, by have := d3.2.1; omega, by have := d3.2.2; omega⟩
set_option maxHeartbeats 1000000 in
theorem s_putMark {c s n p t : Nat}  {fs : List xV} {P : Nat → zPT} {h : xH} (hp : p < 3) (ht : t < 1000)  (hl : (P p).2.2.2.2.length < 72) (hfr : h (8, n) = none) (hf : h (10, 0) = some (.inl (10, zFn fs))) (hP : zPs h P)
    (q : ∀ h1 cap1 c1 s1, zPs h1 (zaQ P p cap1 ((n, (p, false, 0, t, 0), (0, 0, 0)) : zE)) → (∀ a b : Nat, ¬ (6 ≤ a ∧ a < 8 ∧ b % 8 = p ∨ a = 8 ∧ b = n) → h1 (a, b) = h (a, b)) → (P p).2.2.2.1 ≤ cap1 ∧ c1 + (P p).2.2.2.1 ≤ c + cap1 + 1 ∧ s1 + 4 * (P p).2.2.2.1 ≤ s + 4 * cap1 + 9 → Q (.inl (some (zi ((P p).2.2.2.2.length : Int)))) c1 s1 h1) : zX (d + 9) 101 0 [(0, .inr (10, 0)), (1, zi (p : Int)), (2, zi (t : Int))] [] c s h Q := by
  refine zX.sn 1 (pc2 := 1) (l2 := [(0, .inr (10, 0)), (1, zi (p : Int)), (2, zi (t : Int))]) (st2 := [.inr (10, 0)]) rfl ?_
  refine zX.sn 1 (pc2 := 2) (l2 := [(0, .inr (10, 0)), (1, zi (p : Int)), (2, zi (t : Int))]) (st2 := [zi (p : Int), .inr (10, 0)]) rfl ?_
  refine zX.call (mid2 := 129) (as := [.inr (10, 0), zi (p : Int)]) (rest := []) ⟨rfl, rfl⟩ (fun _ => rfl) (zX.inv rfl hf rfl rfl) ⟨Nat.le_of_ble_eq_true rfl, Nat.le_of_ble_eq_true rfl⟩ ?_
  refine s_part1 (d := d + 5) hf hP hp ?_
  show zX _ 101 5 [(0, .inr (10, 0)), (1, zi (p : Int)), (2, zi (t : Int))] [.inr (5, p)] c s _ _
  refine zX.sn 1 (pc2 := 6) (l2 := [(3, .inr (5, p)), (0, .inr (10, 0)), (1, zi (p : Int)), (2, zi (t : Int))]) (st2 := []) rfl ?_
  refine zX.sn 1 (pc2 := 7) (l2 := [(3, .inr (5, p)), (0, .inr (10, 0)), (1, zi (p : Int)), (2, zi (t : Int))]) (st2 := [.inr (10, 0)]) rfl ?_
  refine zX.sn 1 (pc2 := 8) (l2 := [(3, .inr (5, p)), (0, .inr (10, 0)), (1, zi (p : Int)), (2, zi (t : Int))]) (st2 := [zi (t : Int), .inr (10, 0)]) rfl ?_
  refine zX.call (mid2 := 132) (as := [.inr (10, 0), zi (t : Int)]) (rest := []) ⟨rfl, rfl⟩ (fun _ => rfl) (zX.inv rfl hf rfl rfl) ⟨Nat.le_of_ble_eq_true rfl, Nat.le_of_ble_eq_true rfl⟩ ?_
  refine s_needT ht ?_
  show zX _ 101 11 [(3, .inr (5, p)), (0, .inr (10, 0)), (1, zi (p : Int)), (2, zi (t : Int))] [] c s _ _
  refine zX.sn 1 (pc2 := 12) (l2 := [(3, .inr (5, p)), (0, .inr (10, 0)), (1, zi (p : Int)), (2, zi (t : Int))]) (st2 := [.inr (10, 0)]) rfl ?_
  refine zX.sn 1 (pc2 := 13) (l2 := [(3, .inr (5, p)), (0, .inr (10, 0)), (1, zi (p : Int)), (2, zi (t : Int))]) (st2 := [.inr (5, p), .inr (10, 0)]) rfl ?_
  refine zX.new (8, n) ⟨rfl, rfl⟩ hfr (by omega) ?_
  show zX _ 101 16 [(3, .inr (5, p)), (0, .inr (10, 0)), (1, zi (p : Int)), (2, zi (t : Int))] [.inr (8, n), .inr (5, p), .inr (10, 0)] (c + 1) (s + 9) (xup h (8, n) (.inl (1, [zi 0, zi 0, zi 0, zi 0, zi 0, zi 0, zi 0, zi 0, zi 0]))) _
  generalize hh1 : xup h (8, n) (.inl (1, [zi 0, zi 0, zi 0, zi 0, zi 0, zi 0, zi 0, zi 0, zi 0])) = h1
  have hs1 : h1 (8, n) = some (.inl (1, [zi 0, zi 0, zi 0, zi 0, zi 0, zi 0, zi 0, zi 0, zi 0])) := by
    rw [← hh1]
    exact zup_s
  have hn1 : ∀ a b : Nat, ¬ (a = 8 ∧ b = n) → h1 (a, b) = h (a, b) := fun a b hn => by
    rw [← hh1]
    exact zup_n (zn (by omega)) rfl
  refine zX.sn 1 (pc2 := 17) (l2 := [(3, .inr (5, p)), (0, .inr (10, 0)), (1, zi (p : Int)), (2, zi (t : Int))]) (st2 := [.inr (8, n), .inr (8, n), .inr (5, p), .inr (10, 0)]) rfl ?_
  refine zX.sn 1 (pc2 := 18) (l2 := [(3, .inr (5, p)), (0, .inr (10, 0)), (1, zi (p : Int)), (2, zi (t : Int))]) (st2 := [zi (p : Int), .inr (8, n), .inr (8, n), .inr (5, p), .inr (10, 0)]) rfl ?_
  refine zX.sn 1 (pc2 := 19) (l2 := [(3, .inr (5, p)), (0, .inr (10, 0)), (1, zi (p : Int)), (2, zi (t : Int))]) (st2 := [zi 0, zi (p : Int), .inr (8, n), .inr (8, n), .inr (5, p), .inr (10, 0)]) rfl ?_
  refine zX.sn 1 (pc2 := 20) (l2 := [(3, .inr (5, p)), (0, .inr (10, 0)), (1, zi (p : Int)), (2, zi (t : Int))]) (st2 := [zi 0, zi 0, zi (p : Int), .inr (8, n), .inr (8, n), .inr (5, p), .inr (10, 0)]) rfl ?_
  refine zX.sn 1 (pc2 := 21) (l2 := [(3, .inr (5, p)), (0, .inr (10, 0)), (1, zi (p : Int)), (2, zi (t : Int))]) (st2 := [zi (t : Int), zi 0, zi 0, zi (p : Int), .inr (8, n), .inr (8, n), .inr (5, p), .inr (10, 0)]) rfl ?_
  refine zX.sn 1 (pc2 := 22) (l2 := [(3, .inr (5, p)), (0, .inr (10, 0)), (1, zi (p : Int)), (2, zi (t : Int))]) (st2 := [zi 0, zi (t : Int), zi 0, zi 0, zi (p : Int), .inr (8, n), .inr (8, n), .inr (5, p), .inr (10, 0)]) rfl ?_
  refine zX.call (mid2 := 0) (as := [.inr (8, n), zi (p : Int), zi 0, zi 0, zi (t : Int), zi 0]) (rest := [.inr (8, n), .inr (5, p), .inr (10, 0)]) ⟨rfl, rfl⟩ (fun _ => rfl) rfl ⟨Nat.le_of_ble_eq_true rfl, Nat.le_of_ble_eq_true rfl⟩ ?_
  refine s_entry (k := 0) (v := 0) (r := false) hp hs1 (fun h2 a1 a2 => ?_)
  show zX _ 101 25 [(3, .inr (5, p)), (0, .inr (10, 0)), (1, zi (p : Int)), (2, zi (t : Int))] [.inr (8, n), .inr (5, p), .inr (10, 0)] (c + 1) (s + 9) _ _
  have hn2 : ∀ a b : Nat, ¬ (a = 8 ∧ b = n) → h2 (a, b) = h (a, b) := fun a b hn => (a2 a b hn).trans (hn1 a b hn)
  have hf2 := (hn2 10 0 (by omega)).trans hf
  have hP2 : zPs h2 P := by
    obtain ⟨⟨cap, hq⟩, hPt⟩ := hP
    refine ⟨⟨cap, hq.fr (fun a b z => hn2 a b (by omega))⟩, fun j hj => ?_⟩
    obtain ⟨g1, g2, g3, g4⟩ := hPt j hj
    refine ⟨(hn2 _ _ (by omega)).trans g1, g2.fr (fun a b z => hn2 a b (by omega)), fun x hx => ⟨(g3 x hx).1, (hn2 _ _ (fun z => ?_)).trans (g3 x hx).2⟩, g4⟩
    have hx3 : h (8, zeN x) = none := by rw [z.2]; exact hfr
    exact absurd (hx3.symm.trans (g3 x hx).2) (by intro z; cases z)
  refine zX.call (mid2 := 137) (as := [.inr (10, 0), .inr (5, p), .inr (8, n)]) (rest := []) ⟨rfl, rfl⟩ (fun _ => rfl) (zX.inv rfl hf2 rfl rfl) ⟨Nat.le_of_ble_eq_true rfl, Nat.le_of_ble_eq_true rfl⟩ ?_
  refine s_append (d := d + 1) (e := ((n, (p, false, 0, t, 0), (0, 0, 0)) : zE)) hp hP2 hl a1 (fun h3 cap1 c3 s3 d1 d2 d3 => ?_)
  show zX _ 101 28 [(3, .inr (5, p)), (0, .inr (10, 0)), (1, zi (p : Int)), (2, zi (t : Int))] [zi ((P p).2.2.2.2.length : Int)] c3 s3 _ _
  refine zX.ret rfl rfl ?_
  refine q h3 cap1 c3 s3 (hP.put (e := ((n, (p, false, 0, t, 0), (0, 0, 0)) : zE)) hp hl ⟨hp, (show 0 < 8 by decide), ht, (show -99 ≤ (0 : Int) ∧ (0 : Int) ≤ 99 by decide), (show 0 < 240 by decide), (show -1 ≤ (0 : Int) ∧ (0 : Int) < 1000 by decide)⟩ ((d2 _ _ (by omega)).trans a1) hfr d1 (fun a b hn => (d2 a b (fun z => hn (Or.inl z))).trans (hn2 a b (fun z => hn (Or.inr z))))) (fun a b hn => (d2 a b (fun z => hn (Or.inl z))).trans (hn2 a b (fun z => hn (Or.inr z)))) ⟨d3.1, by have := d3.2.1; omega, by have := d3.2.2; omega⟩
end YD9f
