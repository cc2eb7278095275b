set_option maxRecDepth 100000
section YC91
variable {d : Nat} {Q : xR → Nat → Nat → xH → Prop}
/-- the part of an entry moves on -/
def zaP (P : Nat → zPT) (e : zE) : Nat → zPT := fun p => if p = zeP e then ((P p).1 + 1, (if (P p).2.1 < zeB e then zeB e else (P p).2.1), (P p).2.2) else P p
/-- the foundry takes one entry -/
noncomputable def zaAp (e : zE) (P : Nat → zPT) (G : zVL × List Int64) : zVL × List Int64 :=
  if zeA e < zlm (zaP P e) 3 0 1000 then zaD (zeA e) (zlm (zaP P e) 3 0 1000) (zaT e G.1.length 0 G).1.length 0 (zaT e G.1.length 0 G) else zaT e G.1.length 0 G
set_option maxHeartbeats 4000000 in
theorem s_apply {e : zE} {capv N c s : Nat} {fs : List xV} {P : Nat → zPT} {G : zVL × List Int64} {K : zKp} {h : xH} (hE : zEr e) (hB : -1000 ≤ zeB e ∧ zeB e < 1000) (hf : h (10, 0) = some (.inl (10, zFn fs))) (hA : zAL h 13 0 capv (zVn G.1)) (hV : zVa h N K G.1 G.2) (he : zEn h e) (hP : zPs h P) (hpl : (P (zeP e)).1 < (P (zeP e)).2.2.2.2.length)
    (ok1 : ∀ j, j ≤ G.1.length → zaOk (zaT e j 0 G)) (ok2 : ∀ j, j ≤ G.1.length → zaOkD (zeA e) (zlm (zaP P e) 3 0 1000) (zaD (zeA e) (zlm (zaP P e) 3 0 1000) j 0 (zaT e G.1.length 0 G)))
    (q : ∀ h1 N1 K1 c1 s1, zVa h1 N1 K1 (zaAp e P G).1 (zaAp e P G).2 → (zaAp e P G).1.length = G.1.length → zPs h1 (zaP P e) → (∀ a b : Nat, ¬ ((20 ≤ a ∧ a < 60) ∨ (2 ≤ a ∧ a < 4) ∨ a = 5) → h1 (a, b) = h (a, b)) → zCo (N + zKm K 5) c s (N1 + zKm K1 5) c1 s1 → Q (.inl none) c1 s1 h1) : zX (d + 8) 139 0 [(0, .inr (10, 0)), (1, .inr (8, zeN e))] [] c s h Q := by
  obtain ⟨e1, e2, e3, e4, e5, e6⟩ := id hE
  refine zX.sn 1 (pc2 := 1) (l2 := [(0, .inr (10, 0)), (1, .inr (8, zeN e))]) (st2 := [zi 0]) rfl ?_
  refine zX.sn 1 (pc2 := 2) (l2 := [(2, zi 0), (0, .inr (10, 0)), (1, .inr (8, zeN e))]) (st2 := []) rfl ?_
  refine zX.re [(0, .inr (10, 0)), (1, .inr (8, zeN e)), (2, zi 0)] [1, 2, 0] [2, 0, 1] rfl rfl (by decide) ?_
  refine l_ap1 (d := d) hE G.1.length 0 G h N K c s (by omega) ok1 hf hA hV he (fun h1 N1 K1 c1 s1 a1 a2 a3 a4 => ?_)
  have hf1 : h1 (10, 0) = some (.inl (10, zFn fs)) := (a3 _ _ (by omega)).trans hf
  have he1 : zEn h1 e := (a3 _ _ (by omega)).trans he
  have hP1 : zPs h1 P := hP.mv (fun a b z => a3 a b (by omega))
  obtain ⟨⟨capq, p1⟩, p2⟩ := id hP1
  obtain ⟨b1, b2, b3, b4, b5, b6, b7⟩ := p2 (zeP e) e1
  refine zX.sn 1 (pc2 := 45) (l2 := [(0, .inr (10, 0)), (1, .inr (8, zeN e))]) (st2 := [.inr (10, 0)]) rfl ?_
  refine zX.sn 1 (pc2 := 46) (l2 := [(0, .inr (10, 0)), (1, .inr (8, zeN e))]) (st2 := [.inr (8, zeN e), .inr (10, 0)]) rfl ?_
  refine zX.getf ⟨rfl, rfl⟩ he1 rfl rfl ?_
  refine zX.call (mid2 := 129) (as := [.inr (10, 0), zi (zeP e : Int)]) (rest := []) ⟨rfl, rfl⟩ (fun _ => rfl) (zX.inv rfl hf1 rfl rfl) ⟨Nat.le_of_ble_eq_true rfl, Nat.le_of_ble_eq_true rfl⟩ ?_
  refine s_part1 (d := d + 4) hf1 hP1 e1 ?_
  show zX _ 139 52 [(0, .inr (10, 0)), (1, .inr (8, zeN e))] [.inr (5, zeP e)] c1 s1 _ _
  refine zX.sn 1 (pc2 := 53) (l2 := [(2, .inr (5, zeP e)), (0, .inr (10, 0)), (1, .inr (8, zeN e))]) (st2 := []) rfl ?_
  refine zX.sn 1 (pc2 := 54) (l2 := [(2, .inr (5, zeP e)), (0, .inr (10, 0)), (1, .inr (8, zeN e))]) (st2 := [.inr (5, zeP e)]) rfl ?_
  refine zX.sn 1 (pc2 := 55) (l2 := [(2, .inr (5, zeP e)), (0, .inr (10, 0)), (1, .inr (8, zeN e))]) (st2 := [.inr (5, zeP e), .inr (5, zeP e)]) rfl ?_
  refine zX.getf ⟨rfl, rfl⟩ b1 rfl rfl ?_
  refine zX.sn 1 (pc2 := 59) (l2 := [(2, .inr (5, zeP e)), (0, .inr (10, 0)), (1, .inr (8, zeN e))]) (st2 := [zi 1, zi ((P (zeP e)).1 : Int), .inr (5, zeP e)]) rfl ?_
  refine zX.iadd ⟨rfl, rfl⟩ ?_
  refine zX.putf ⟨rfl, rfl⟩ b1 rfl (by omega) rfl ?_
  show zX _ 139 63 [(2, .inr (5, zeP e)), (0, .inr (10, 0)), (1, .inr (8, zeN e))] [] c1 s1 (xup h1 (5, zeP e) (.inl (4, [.inr (6, zeP e), zi (((P (zeP e)).1 + 1 : Nat) : Int), zi (P (zeP e)).2.1, zi ((P (zeP e)).2.2.1 : Int)]))) _
  refine zX.sn 1 (pc2 := 64) (l2 := [(2, .inr (5, zeP e)), (0, .inr (10, 0)), (1, .inr (8, zeN e))]) (st2 := [.inr (5, zeP e)]) rfl ?_
  refine zX.sn 1 (pc2 := 65) (l2 := [(2, .inr (5, zeP e)), (0, .inr (10, 0)), (1, .inr (8, zeN e))]) (st2 := [.inr (5, zeP e), .inr (5, zeP e)]) rfl ?_
  refine zX.getf ⟨rfl, rfl⟩ zup_s rfl rfl ?_
  refine zX.sn 1 (pc2 := 69) (l2 := [(2, .inr (5, zeP e)), (0, .inr (10, 0)), (1, .inr (8, zeN e))]) (st2 := [.inr (8, zeN e), zi (P (zeP e)).2.1, .inr (5, zeP e)]) rfl ?_
  refine zX.getf ⟨rfl, rfl⟩ (zup_n (zn (by omega)) he1) rfl rfl ?_
  refine zX.maxi ⟨rfl, rfl⟩ (by omega) (by omega) (Nat.le_of_ble_eq_true rfl) ?_
  refine zX.putf ⟨rfl, rfl⟩ zup_s rfl (by omega) rfl ?_
  show zX _ 139 78 [(2, .inr (5, zeP e)), (0, .inr (10, 0)), (1, .inr (8, zeN e))] [] c1 s1 (xup (xup h1 (5, zeP e) _) (5, zeP e) (.inl (4, [.inr (6, zeP e), zi (((P (zeP e)).1 + 1 : Nat) : Int), zi (if (P (zeP e)).2.1 < zeB e then zeB e else (P (zeP e)).2.1), zi ((P (zeP e)).2.2.1 : Int)]))) _
  generalize hh3 : xup (xup h1 (5, zeP e) _) (5, zeP e) (.inl (4, [.inr (6, zeP e), zi (((P (zeP e)).1 + 1 : Nat) : Int), zi (if (P (zeP e)).2.1 < zeB e then zeB e else (P (zeP e)).2.1), zi ((P (zeP e)).2.2.1 : Int)])) = h3
  have hs : h3 (5, zeP e) = some (.inl (4, [.inr (6, zeP e), zi (((P (zeP e)).1 + 1 : Nat) : Int), zi (if (P (zeP e)).2.1 < zeB e then zeB e else (P (zeP e)).2.1), zi ((P (zeP e)).2.2.1 : Int)])) := by
    rw [← hh3]
    exact zup_s
  have hn3 : ∀ a b : Nat, ¬ (a = 5 ∧ b = zeP e) → h3 (a, b) = h1 (a, b) := fun a b hn => by
    rw [← hh3]
    exact zup_n (zn (by omega)) (zup_n (zn (by omega)) rfl)
  have hP3 : zPs h3 (zaP P e) := by
    refine ⟨⟨capq, p1.fr (fun a b z => hn3 a b (by omega))⟩, fun p hp => ?_⟩
    obtain ⟨g1, g2, g3, g4⟩ := p2 p hp
    have ks : zKs h3 (P p).2.2.2.2 := fun x hx => ⟨(g3 x hx).1, (hn3 _ _ (by omega)).trans (g3 x hx).2⟩
    by_cases hpe : p = zeP e
    · subst hpe
      rw [show zaP P e (zeP e) = ((P (zeP e)).1 + 1, (if (P (zeP e)).2.1 < zeB e then zeB e else (P (zeP e)).2.1), (P (zeP e)).2.2) from if_pos rfl]
      exact ⟨hs, g2.fr (fun a b z => hn3 a b (by omega)), ks, (by dsimp only; split <;> omega), b5, hpl, b7⟩
    · rw [show zaP P e p = P p from if_neg hpe]
      exact ⟨(hn3 _ _ (by omega)).trans g1, g2.fr (fun a b z => hn3 a b (by omega)), ks, g4⟩
  have hf3 : h3 (10, 0) = some (.inl (10, zFn fs)) := (hn3 _ _ (by omega)).trans hf1
  have he3 : zEn h3 e := (hn3 _ _ (by omega)).trans he1
  have hV3 := a1.mv (h1 := h3) (fun a b z => hn3 a b (by omega))
  have hVn : zVn (zaT e G.1.length 0 G).1 = zVn G.1 := by
    show (List.range (zaT e G.1.length 0 G).1.length).map (fun i => ((20 : Nat), i)) = _
    rw [a2]
  have hA3 : zAL h3 13 0 capv (zVn (zaT e G.1.length 0 G).1) := by
    rw [hVn]
    exact hA.fr (fun a b z => (hn3 a b (by omega)).trans (a3 a b (by omega)))
  refine zX.sn 1 (pc2 := 79) (l2 := [(2, .inr (5, zeP e)), (0, .inr (10, 0)), (1, .inr (8, zeN e))]) (st2 := [.inr (10, 0)]) rfl ?_
  refine zX.call (mid2 := 138) (as := [.inr (10, 0)]) (rest := []) ⟨rfl, rfl⟩ (fun _ => rfl) (zX.inv rfl hf3 rfl rfl) ⟨Nat.le_of_ble_eq_true rfl, Nat.le_of_ble_eq_true rfl⟩ ?_
  refine s_lm (d := d + 4) hf3 hP3 (fun hml => ?_)
  have hml2 : zlm (zaP P e) 3 0 1000 < 1000 := zlm_lt (hP3.2 0 (by omega)).2.2.2.1.2
  show zX _ 139 82 [(2, .inr (5, zeP e)), (0, .inr (10, 0)), (1, .inr (8, zeN e))] [zi (zlm (zaP P e) 3 0 1000)] c1 s1 _ _
  refine zX.sn 1 (pc2 := 83) (l2 := [(3, zi (zlm (zaP P e) 3 0 1000)), (2, .inr (5, zeP e)), (0, .inr (10, 0)), (1, .inr (8, zeN e))]) (st2 := []) rfl ?_
  refine zX.sn 1 (pc2 := 84) (l2 := [(3, zi (zlm (zaP P e) 3 0 1000)), (2, .inr (5, zeP e)), (0, .inr (10, 0)), (1, .inr (8, zeN e))]) (st2 := [zi (zlm (zaP P e) 3 0 1000)]) rfl ?_
  refine zX.sn 1 (pc2 := 85) (l2 := [(3, zi (zlm (zaP P e) 3 0 1000)), (2, .inr (5, zeP e)), (0, .inr (10, 0)), (1, .inr (8, zeN e))]) (st2 := [.inr (8, zeN e), zi (zlm (zaP P e) 3 0 1000)]) rfl ?_
  refine zX.getf ⟨rfl, rfl⟩ he3 rfl rfl ?_
  refine zX.icmp (tgt := 146) ⟨rfl, rfl⟩ rfl (by omega) (by omega) (fun (z : zlm (zaP P e) 3 0 1000 ≤ zeA e) => ?_) (fun (z : zeA e < zlm (zaP P e) 3 0 1000) => ?_)
  · refine zX.ret rfl rfl ?_
    have hx : zaAp e P G = zaT e G.1.length 0 G := if_neg (by omega)
    exact q h3 N1 K1 c1 s1 (by rw [hx]; exact hV3) (by rw [hx]; exact a2) hP3 (fun a b hn => (hn3 a b (by omega)).trans (a3 a b (by omega))) a4
  · have hx : zaAp e P G = zaD (zeA e) (zlm (zaP P e) 3 0 1000) (zaT e G.1.length 0 G).1.length 0 (zaT e G.1.length 0 G) := if_pos z
    rw [hx] at q
    refine zX.sn 1 (pc2 := 92) (l2 := [(3, zi (zlm (zaP P e) 3 0 1000)), (2, .inr (5, zeP e)), (0, .inr (10, 0)), (1, .inr (8, zeN e))]) (st2 := [zi 0]) rfl ?_
    refine zX.sn 1 (pc2 := 94) (l2 := [(4, zi 0), (3, zi (zlm (zaP P e) 3 0 1000)), (2, .inr (5, zeP e)), (0, .inr (10, 0)), (1, .inr (8, zeN e))]) (st2 := []) rfl ?_
    refine zX.re [(0, .inr (10, 0)), (1, .inr (8, zeN e)), (3, zi (zlm (zaP P e) 3 0 1000)), (4, zi 0)] [3, 4, 1, 0] [4, 3, 2, 0, 1] rfl rfl (by decide) ?_
    refine l_ap2 (d := d) hE ⟨hml.1, hml2⟩ (zaT e G.1.length 0 G).1.length 0 (zaT e G.1.length 0 G) h3 N1 K1 c1 s1 (by omega) (fun j hj => ok2 j (by omega)) hf3 hA3 hV3 he3 (fun h4 N2 K2 c2 s2 d1 d2 d3 d4 => ?_)
    refine q h4 N2 K2 c2 s2 d1 (d2.trans a2) (hP3.mv (fun a b z => d3 a b (by omega))) (fun a b hn => (d3 a b (by omega)).trans ((hn3 a b (by omega)).trans (a3 a b (by omega)))) ⟨by have := a4.1; have := d4.1; omega, by have := a4.2.1; have := d4.2.1; omega, by have := a4.2.2; have := d4.2.2; omega⟩
end YC91
