set_option maxRecDepth 100000
section ZX66
variable {d v sz gr : Nat} {fi me : Int} {Q : xR → Nat → Nat → xH → Prop}
/-- letting sessions go: what is held, numbers, sums -/
abbrev zSG : Type := (Nat → Int32) × (Nat → Int32) × (Nat → Int32)
def zsG1 (l k : Nat) (G : zSG) : zSG := if 0 < G.2.1 (l * 8 + k) then (zAd G.1 k (Int32.ofInt (-1)), zfi G.2.1 (l * 8 + k) 0, zfi G.2.2 (l * 8 + k) 0) else G
def zsGK (l : Nat) : Nat → Nat → zSG → zSG
  | 0, _, G => G
  | n + 1, k, G => zsGK l n (k + 1) (zsG1 l k G)
def zsGL : Nat → Nat → zSG → zSG
  | 0, _, G => G
  | n + 1, l, G => zsGL n (l + 1) (zsGK l 8 0 G)
abbrev zsHd (X : zSX) (G : zSG) : zSX := (X.1, G.1, X.2.2.1, G.2.1, G.2.2, X.2.2.2.2.2)
theorem l_slgK {m : Int} {l N st : Nat} {X : zSX} (hr : zSr v fi sz gr me) (hm : -1 ≤ m ∧ m < 1000) (hst : st ≤ 1000) (hl : l < 1000) {c s : Nat} : ∀ (n k : Nat) (G : zSG) (h : xH), k + n = 8 → zVS h N v fi sz gr me (zsHd X G) →
    (∀ h1, zVS h1 N v fi sz gr me (zsHd X (zsGK l n k G)) → zFv v h h1 → zX (d + 2) 46 21 [(0, .inr (20, v)), (2, zi m), (3, zi (st : Int)), (4, zi ((l : Int) + 1))] [] c s h1 Q) → zX (d + 2) 46 40 [(0, .inr (20, v)), (2, zi m), (3, zi (st : Int)), (4, zi (l : Int)), (5, zi (k : Int))] [] c s h Q := by
  obtain ⟨hvr, hme⟩ := id hr
  obtain ⟨r1, r2, r3, r4⟩ := id hvr
  intro n
  induction n with
  | zero =>
    intro k G h hk hV q
    obtain ⟨v1, v2, v3, ⟨fg, v4⟩, v5⟩ := id hV
    exact r_slg2 (ff := X.2.2.2.2.2.1) hvr r1 r3 r4 hme hm (by omega) hl (by omega) v1 v3 v4 (fun _ => q h hV (fun _ _ _ => rfl)) (fun z => by omega) (fun z => by omega)
  | succ n ih =>
    intro k G h hk hV q
    obtain ⟨v1, v2, v3, ⟨fg, v4⟩, v5, ⟨jj, v6⟩, v7, ⟨fb, v8⟩, ⟨gn, gs, gg, v9⟩, v10⟩ := id hV
    refine r_slg2 (ff := X.2.2.2.2.2.1) hvr r1 r3 r4 hme hm (by omega) hl (by omega) v1 v3 v4 (fun z => by omega) (fun _ z => ?_) (fun _ z h1 a1 a2 a3 => ?_)
    · refine ih (k + 1) G h (by omega) hV (fun h1 b1 => q h1 ?_)
      show zVS h1 N v fi sz gr me (zsHd X (zsGK l n (k + 1) (zsG1 l k G)))
      rw [show zsG1 l k G = G from if_neg z]
      exact b1
    · have hF : zFv v h h1 := fun a b hn => a3 a b (by omega)
      have hV1 : zVS h1 N v fi sz gr me (zsHd X (zsG1 l k G)) := by
        rw [show zsG1 l k G = _ from if_pos z]
        exact ⟨(a3 _ _ (by omega)).trans v1, v2.fr (fun a b z => a3 a b (by omega)), a1, ⟨_, a2⟩, (a3 _ _ (by omega)).trans v5, ⟨jj, (a3 _ _ (by omega)).trans v6⟩, v7.fr (fun a b z => a3 a b (by omega)), ⟨fb, v8.fr (fun a b z => a3 a b (by omega))⟩, ⟨gn, gs, gg, v9.fr (fun a b z => a3 a b (by omega))⟩, v10⟩
      exact ih (k + 1) _ h1 (by omega) hV1 (fun h2 b1 b2 => q h2 b1 (hF.tr b2))
theorem l_slgL {m : Int} {N st : Nat} {X : zSX} (hr : zSr v fi sz gr me) (hm : -1 ≤ m ∧ m < 1000) (hst : st ≤ 1000) {c s : Nat} : ∀ (n l : Nat) (G : zSG) (h : xH), l ≤ 1000 → n = zsStop st m - l → zVS h N v fi sz gr me (zsHd X G) →
    (∀ h1, zVS h1 N v fi sz gr me (zsHd X (zsGL n l G)) → zFv v h h1 → Q (.inl none) c s h1) → zX (d + 2) 46 21 [(0, .inr (20, v)), (2, zi m), (3, zi (st : Int)), (4, zi (l : Int))] [] c s h Q := by
  obtain ⟨hvr, hme⟩ := id hr
  obtain ⟨r1, r2, r3, r4⟩ := id hvr
  intro n
  induction n with
  | zero =>
    intro l G h hl hn hV q
    have hs : ¬ l < zsStop st m := by omega
    rw [zsStop_iff] at hs
    exact r_slg1 hvr r1 r3 r4 hme hm hl (by omega) hV.1 (fun _ => q h hV (fun _ _ _ => rfl)) (fun _ _ => q h hV (fun _ _ _ => rfl)) (fun z1 z2 => absurd ⟨by omega, z2⟩ hs)
  | succ n ih =>
    intro l G h hl hn hV q
    obtain ⟨h1, h2⟩ := zsStop_iff.mp (show l < zsStop st m by omega)
    refine r_slg1 hvr r1 r3 r4 hme hm hl (by omega) hV.1 (fun z => by omega) (fun _ z => by omega) (fun _ _ => ?_)
    refine l_slgK hr hm hst h1 8 0 G h rfl hV (fun h1 a1 a2 => ?_)
    exact ih (l + 1) _ h1 (by omega) (by omega) a1 (fun h2 b1 b2 => q h2 b1 (zFv.tr a2 b2))
def zsGo (sz gr : Nat) (b m : Int) (X : zSX) : zSX := zsHd X (zsGL (zsStop (2 * sz + gr) m - (b - ((2 * sz + gr : Nat) : Int)).toNat) (b - ((2 * sz + gr : Nat) : Int)).toNat (X.2.1, X.2.2.2.1, X.2.2.2.2.1))
theorem s_slg {b m : Int} {c s N : Nat} {h : xH} {X : zSX} (hr : zSr v fi sz gr me) (hb : -1 ≤ b ∧ b < 1000) (hm : -1 ≤ m ∧ m < 1000) (hV : zVS h N v fi sz gr me X)
    (q : ∀ h1, zVS h1 N v fi sz gr me (zsGo sz gr b m X) → zFv v h h1 → Q (.inl none) c s h1) : zX (d + 2) 46 0 [(0, .inr (20, v)), (1, zi b), (2, zi m)] [] c s h Q := by
  obtain ⟨hvr, hme⟩ := id hr
  obtain ⟨r1, r2, r3, r4⟩ := id hvr
  refine r_slg0 hvr r1 r3 r4 hme hb hm hV.1 ?_
  have e0 : 2 * (sz : Int) + (gr : Int) = ((2 * sz + gr : Nat) : Int) := by omega
  rw [e0, show (if 0 < (b - ((2 * sz + gr : Nat) : Int)) then (b - ((2 * sz + gr : Nat) : Int)) else 0) = (((b - ((2 * sz + gr : Nat) : Int)).toNat : Nat) : Int) from by split <;> omega]
  exact l_slgL hr hm (by omega) _ _ (X.2.1, X.2.2.2.1, X.2.2.2.2.1) h (by omega) rfl hV q
/-- finding again: first and last time of the session that is gathered, numbers, sums, what is found -/
abbrev zSO : Type := Int × Int × (Nat → Int32) × (Nat → Int32) × (Nat → Int64)
noncomputable def zsW1 (v sz : Nat) (me : Int) (k t : Nat) (m : Int) (O : zSO) : zSO :=
  if 0 < O.2.2.1 (t * 8 + k) then
    (if 0 ≤ O.2.1 ∧ (t : Int) - O.2.1 ≤ (sz : Int) then (O.1, (t : Int), zaaN O.2.2.1 (t * 8 + k) (O.2.1.toNat * 8 + k), zaaS O.2.2.1 O.2.2.2.1 (t * 8 + k) (O.2.1.toNat * 8 + k), O.2.2.2.2)
     else ((t : Int), (t : Int), O.2.2.1, O.2.2.2.1, zsO1 v sz me O.2.2.1 O.2.2.2.1 k O.1 O.2.1 m O.2.2.2.2))
  else O
noncomputable def zsWN (v sz : Nat) (me : Int) (k : Nat) (m : Int) : Nat → Nat → zSO → zSO
  | 0, _, O => O
  | n + 1, t, O => zsWN v sz me k m n (t + 1) (zsW1 v sz me k t m O)
/-- a value that isn't reckoned out -/
noncomputable def zHide {α : Type} (x : α) : α := Classical.choose (⟨x, rfl⟩ : ∃ y, y = x)
theorem zHide_eq {α : Type} (x : α) : zHide x = x := Classical.choose_spec (⟨x, rfl⟩ : ∃ y, y = x)
noncomputable def zsOf (v sz : Nat) (me : Int) (k : Nat) (m : Int) (gn gs : Nat → Int32) (fb : Nat → Int64) : zSO := zHide (zsWN v sz me k m 1000 0 (0, -1, gn, gs, fb))
theorem l_sfo {m : Int} {k c s : Nat} {dr : Int32} (hr : zSr v fi sz gr me) (hk : k < 8) (hm : -1 ≤ m ∧ m < 1000) : ∀ (n t : Nat) (O : zSO) (gg : Nat → Int32) (h : xH), t + n = 1000 → (-1 ≤ O.2.1 ∧ O.2.1 < (t : Int)) → zVo h 6 v false fi sz gr dr [zi me, .inr (26, v), .inr (30, v), .inr (34, v), .inr (35, v)] → zTal h 30 v 8000 O.2.2.1 O.2.2.2.1 gg → zRes h 23 v 8000 O.2.2.2.2 →
    (∀ h1 gg1, zTal h1 30 v 8000 (zsWN v sz me k m n t O).2.2.1 (zsWN v sz me k m n t O).2.2.2.1 gg1 → zRes h1 23 v 8000 (zsO1 v sz me (zsWN v sz me k m n t O).2.2.1 (zsWN v sz me k m n t O).2.2.2.1 k (zsWN v sz me k m n t O).1 (zsWN v sz me k m n t O).2.1 m (zsWN v sz me k m n t O).2.2.2.2) → zFg v h h1 → Q (.inl none) c s h1) → zX (d + 3) 48 8 [(0, .inr (20, v)), (1, zi (k : Int)), (2, zi m), (3, zi O.1), (4, zi O.2.1), (5, zi (t : Int))] [] c s h Q := by
  obtain ⟨hvr, hme⟩ := id hr
  obtain ⟨r1, r2, r3, r4⟩ := id hvr
  intro n
  induction n with
  | zero =>
    intro t O gg h ht hO hV hT hR q
    exact r_sfo hvr r1 r3 r4 hme hk hm (by omega) (by omega) hO.2 hV hT hR (fun _ h1 a1 a2 => q h1 gg (hT.fr (fun a b z => a2 a b (by omega))) a1 (fun a b hn => a2 a b (by omega))) (fun z => by omega) (fun z => by omega) (fun z => by omega) (fun z => by omega)
  | succ n ih =>
    intro t O gg h ht hO hV hT hR q
    have nw : ∀ O1 h1 gg1, zsW1 v sz me k t m O = O1 → (-1 ≤ O1.2.1 ∧ O1.2.1 < (t : Int) + 1) → zTal h1 30 v 8000 O1.2.2.1 O1.2.2.2.1 gg1 → zRes h1 23 v 8000 O1.2.2.2.2 → zFg v h h1 → zX (d + 3) 48 8 [(0, .inr (20, v)), (1, zi (k : Int)), (2, zi m), (3, zi O1.1), (4, zi O1.2.1), (5, zi ((t : Int) + 1))] [] c s h1 Q := by
      intro O1 h1 gg1 hx h2 h3 h4 hF
      refine ih (t + 1) O1 gg1 h1 (by omega) (by omega) ((hF _ _ (by omega)).trans hV) h3 h4 (fun h5 gg5 b1 b2 b3 => q h5 gg5 ?_ ?_ (fun a b hn => (b3 a b hn).trans (hF a b hn)))
      · show zTal h5 30 v 8000 (zsWN v sz me k m n (t + 1) (zsW1 v sz me k t m O)).2.2.1 (zsWN v sz me k m n (t + 1) (zsW1 v sz me k t m O)).2.2.2.1 gg5
        rw [hx]
        exact b1
      · show zRes h5 23 v 8000 (zsO1 v sz me (zsWN v sz me k m n (t + 1) (zsW1 v sz me k t m O)).2.2.1 (zsWN v sz me k m n (t + 1) (zsW1 v sz me k t m O)).2.2.2.1 k (zsWN v sz me k m n (t + 1) (zsW1 v sz me k t m O)).1 (zsWN v sz me k m n (t + 1) (zsW1 v sz me k t m O)).2.1 m (zsWN v sz me k m n (t + 1) (zsW1 v sz me k t m O)).2.2.2.2)
        rw [hx]
        exact b2
    refine r_sfo hvr r1 r3 r4 hme hk hm (by omega) (by omega) hO.2 hV hT hR (fun z => by omega) (fun _ z => ?_) (fun _ z z2 h1 a1 a2 => ?_) (fun _ z z2 z3 h1 a1 a2 => ?_) (fun _ z z2 z3 gg1 h1 a1 a2 => ?_)
    · exact nw O h gg (if_neg z) (by omega) hT hR (fun _ _ _ => rfl)
    · exact nw _ h1 gg ((if_pos z).trans (if_neg (by omega))) (by dsimp only; omega) (hT.fr (fun a b z => a2 a b (by omega))) a1 (fun a b hn => a2 a b (by omega))
    · exact nw _ h1 gg ((if_pos z).trans (if_neg (by omega))) (by dsimp only; omega) (hT.fr (fun a b z => a2 a b (by omega))) a1 (fun a b hn => a2 a b (by omega))
    · exact nw _ h1 gg1 ((if_pos z).trans (if_pos ⟨z2, z3⟩)) (by dsimp only; omega) a1 (hR.fr (fun a b z => a2 a b (by omega))) (fun a b hn => a2 a b (by omega))
/-- a key's sessions are found -/
noncomputable def zsOfG (v sz : Nat) (me : Int) (k : Nat) (m : Int) (G : (Nat → Int32) × (Nat → Int32) × (Nat → Int64)) : (Nat → Int32) × (Nat → Int32) × (Nat → Int64) :=
  ((zsOf v sz me k m G.1 G.2.1 G.2.2).2.2.1, (zsOf v sz me k m G.1 G.2.1 G.2.2).2.2.2.1, zsO1 v sz me (zsOf v sz me k m G.1 G.2.1 G.2.2).2.2.1 (zsOf v sz me k m G.1 G.2.1 G.2.2).2.2.2.1 k (zsOf v sz me k m G.1 G.2.1 G.2.2).1 (zsOf v sz me k m G.1 G.2.1 G.2.2).2.1 m (zsOf v sz me k m G.1 G.2.1 G.2.2).2.2.2.2)
theorem s_sfo {m : Int} {k c s : Nat} {dr : Int32} {h : xH} {G : (Nat → Int32) × (Nat → Int32) × (Nat → Int64)} {gg : Nat → Int32} (hr : zSr v fi sz gr me) (hk : k < 8) (hm : -1 ≤ m ∧ m < 1000) (hV : zVo h 6 v false fi sz gr dr [zi me, .inr (26, v), .inr (30, v), .inr (34, v), .inr (35, v)]) (hT : zTal h 30 v 8000 G.1 G.2.1 gg) (hR : zRes h 23 v 8000 G.2.2)
    (q : ∀ h1 gg1, zTal h1 30 v 8000 (zsOfG v sz me k m G).1 (zsOfG v sz me k m G).2.1 gg1 → zRes h1 23 v 8000 (zsOfG v sz me k m G).2.2 → zFg v h h1 → Q (.inl none) c s h1) : zX (d + 3) 48 0 [(0, .inr (20, v)), (1, zi (k : Int)), (2, zi m)] [] c s h Q := by
  obtain ⟨hvr, hme⟩ := id hr
  obtain ⟨r1, r2, r3, r4⟩ := id hvr
  unfold zsOfG zsOf at q
  simp only [zHide_eq] at q
  refine r_sfo0 hvr r1 r3 r4 hme hk hV ?_
  generalize hn : 1000 = n at q
  exact l_sfo hr hk hm n 0 (0, -1, G.1, G.2.1, G.2.2) gg h (by omega) (by dsimp only; omega) hV hT hR q
end ZX66
