set_option maxRecDepth 100000
section ZX68
variable {d v sz gr : Nat} {fi me : Int} {Q : xR → Nat → Nat → xH → Prop}
/-- the rows that sessions have taken, by their times and keys -/
def zsJ1 (sz gr : Nat) (fi : Int) (G : (Nat → Int32) × (Nat → Int32)) (e : zE) : (Nat → Int32) × (Nat → Int32) := if zLet false fi e = true ∧ ¬ (zeT e : Int) + (sz : Int) + 1 + (gr : Int) ≤ zeA e then (zAd G.1 (zeT e * 8 + zeK e) 1, zAd G.2 (zeT e * 8 + zeK e) (Int32.ofInt (zeV e))) else G
def zsJ (sz gr : Nat) (fi : Int) (J : List zE) (G : (Nat → Int32) × (Nat → Int32)) : (Nat → Int32) × (Nat → Int32) := J.foldl (zsJ1 sz gr fi) G
theorem l_sfJ {m : Int} {dr : Int32} {c s cap : Nat} {J : List zE} (hr : zSr v fi sz gr me) (hm : -1 ≤ m ∧ m < 1000) : ∀ (n j : Nat) (gn gs gg : Nat → Int32) (h : xH), j + n = J.length → zJr h cap J → zVo h 6 v false fi sz gr dr [zi me, .inr (26, v), .inr (30, v), .inr (34, v), .inr (35, v)] → zTal h 30 v 8000 gn gs gg →
    (∀ h1 gg1, zTal h1 30 v 8000 (zsJ sz gr fi (J.drop j) (gn, gs)).1 (zsJ sz gr fi (J.drop j) (gn, gs)).2 gg1 → (∀ a b : Nat, ¬ (30 ≤ a ∧ a < 34 ∧ b = v) → h1 (a, b) = h (a, b)) → zX (d + 4) 47 78 [(0, .inr (20, v)), (2, zi m), (3, zi 0)] [] c s h1 Q) → zX (d + 4) 47 9 [(0, .inr (20, v)), (1, .inr (15, 0)), (2, zi m), (3, zi (j : Int))] [] c s h Q := by
  obtain ⟨hvr, hme⟩ := id hr
  obtain ⟨r1, r2, r3, r4⟩ := id hvr
  intro n
  induction n with
  | zero =>
    intro j gn gs gg h hj hJ hV hT q
    refine r_sf1e (d := d + 3) (xs := J.map (fun e => (8, zeN e))) hvr r1 r3 r4 hme hm (by rw [List.length_map]; exact hJ.2.2) (by rw [List.length_map]; exact hj) hV hJ.1 (q h gg ?_ (fun _ _ _ => rfl))
    rw [List.drop_of_length_le (by omega)]
    exact hT
  | succ n ih =>
    intro j gn gs gg h hj hJ hV hT q
    have hlt : j < J.length := by omega
    have hx := List.getElem?_eq_getElem hlt
    obtain ⟨hE, he⟩ := hJ.2.1 _ (List.getElem_mem hlt)
    obtain ⟨e1, e2, e3, e4, e5, e6⟩ := id hE
    have stp : ∀ G, zsJ sz gr fi (J.drop j) G = zsJ sz gr fi (J.drop (j + 1)) (zsJ1 sz gr fi G J[j]) := fun G => by
      rw [List.drop_eq_getElem_cons hlt]
      rfl
    rw [stp] at q
    refine r_sf1 (d := d + 1) (e := J[j]) (xs := J.map (fun e => (8, zeN e))) hvr r1 r3 r4 hme hm (by rw [List.length_map]; exact hJ.2.2) hE e2 e3 e4 e6 e5 (zbi_r _) (zbi_r _) (by rw [List.length_map]; exact hlt) (zmap_at hx) hV he hT hJ.1 (fun z => ?_) (fun z z2 h1 a1 a2 => ?_) (fun z z2 => ?_)
    · rw [show zsJ1 sz gr fi (gn, gs) J[j] = (gn, gs) from if_neg (fun y => by rw [z] at y; exact absurd y.1 (by decide))] at q
      exact ih (j + 1) gn gs gg h (by omega) hJ hV hT q
    · rw [show zsJ1 sz gr fi (gn, gs) J[j] = _ from if_pos ⟨z, z2⟩] at q
      exact ih (j + 1) _ _ _ h1 (by omega) (hJ.fr (fun a b _ z => a2 a b (by omega))) ((a2 _ _ (by omega)).trans hV) a1 (fun h2 gg2 b1 b2 => q h2 gg2 b1 (fun a b hn => (b2 a b hn).trans (a2 a b hn)))
    · rw [show zsJ1 sz gr fi (gn, gs) J[j] = (gn, gs) from if_neg (fun y => y.2 z2)] at q
      exact ih (j + 1) gn gs gg h (by omega) hJ hV hT q
noncomputable def zsKs (v sz : Nat) (me : Int) (m : Int) : Nat → Nat → (Nat → Int32) × (Nat → Int32) × (Nat → Int64) → (Nat → Int32) × (Nat → Int32) × (Nat → Int64)
  | 0, _, G => G
  | n + 1, k, G => zsKs v sz me m n (k + 1) (zsOfG v sz me k m G)
theorem l_sfK {m : Int} {dr : Int32} {c s : Nat} (hr : zSr v fi sz gr me) (hm : -1 ≤ m ∧ m < 1000) : ∀ (n k : Nat) (G : (Nat → Int32) × (Nat → Int32) × (Nat → Int64)) (gg : Nat → Int32) (h : xH), k + n = 8 → zVo h 6 v false fi sz gr dr [zi me, .inr (26, v), .inr (30, v), .inr (34, v), .inr (35, v)] → zTal h 30 v 8000 G.1 G.2.1 gg → zRes h 23 v 8000 G.2.2 →
    (∀ h1 gg1, zTal h1 30 v 8000 (zsKs v sz me m n k G).1 (zsKs v sz me m n k G).2.1 gg1 → zRes h1 23 v 8000 (zsKs v sz me m n k G).2.2 → zFg v h h1 → Q (.inl none) c s h1) → zX (d + 4) 47 78 [(0, .inr (20, v)), (2, zi m), (3, zi (k : Int))] [] c s h Q := by
  obtain ⟨hvr, hme⟩ := id hr
  obtain ⟨r1, r2, r3, r4⟩ := id hvr
  intro n
  induction n with
  | zero =>
    intro k G gg h hk hV hT hR q
    exact r_sf2 (cap := 0) (xs := []) hr hvr r1 r3 r4 hme hm (by omega) hV hT hR (fun _ => q h gg hT hR (fun _ _ _ => rfl)) (fun z => by omega)
  | succ n ih =>
    intro k G gg h hk hV hT hR q
    refine r_sf2 (cap := 0) (xs := []) hr hvr r1 r3 r4 hme hm (by omega) hV hT hR (fun z => by omega) (fun _ gg1 h1 a1 a2 a3 => ?_)
    have hF : zFg v h h1 := fun a b hn => a3 a b (by omega)
    exact ih (k + 1) (zsOfG v sz me k m G) gg1 h1 (by omega) ((hF _ _ (by omega)).trans hV) a1 a2 (fun h2 gg2 b1 b2 b3 => q h2 gg2 b1 b2 (fun a b hn => (b3 a b hn).trans (hF a b hn)))
/-- what a session view finds from all rows at once -/
noncomputable def zsFound (v sz gr : Nat) (me fi : Int) (J : List zE) (m : Int) : Nat → Int64 := (zsKs v sz me m 8 0 ((zsJ sz gr fi J (fun _ => 0, fun _ => 0)).1, (zsJ sz gr fi J (fun _ => 0, fun _ => 0)).2, fun _ => 0)).2.2
theorem s_sfind {m : Int} {c s cap N : Nat} {h : xH} {X : zSX} {J : List zE} (hr : zSr v fi sz gr me) (hm : -1 ≤ m ∧ m < 1000) (hJ : zJr h cap J) (hV : zVS h N v fi sz gr me X) (hR : zRes h 23 v 8000 (fun _ => 0))
    (q : ∀ h1, zVS h1 N v fi sz gr me X → zRes h1 23 v 8000 (zsFound v sz gr me fi J m) → zFg v h h1 → Q (.inl none) c s h1) : zX (d + 4) 47 0 [(0, .inr (20, v)), (1, .inr (15, 0)), (2, zi m)] [] c s h Q := by
  obtain ⟨hvr, hme⟩ := id hr
  obtain ⟨r1, r2, r3, r4⟩ := id hvr
  obtain ⟨v1, v2, v3, ⟨fg, v4⟩, v5, ⟨jj, v6⟩, v7, -, ⟨gn, gs, gg, v9⟩, v10⟩ := hV
  refine r_sf0 (d := d + 2) hvr r1 r3 r4 hme hm (by rw [List.length_map]; exact hJ.2.2) v1 v9 hJ.1 (fun h1 a1 a2 => ?_)
  refine l_sfJ hr hm J.length 0 _ _ _ h1 (by omega) (hJ.fr (fun a b _ z => a2 a b (by omega))) ((a2 _ _ (by omega)).trans v1) a1 (fun h2 gg2 b1 b2 => ?_)
  rw [List.drop_zero] at b1
  refine l_sfK hr hm 8 0 (_, _, fun _ => 0) gg2 h2 rfl ((b2 _ _ (by omega)).trans ((a2 _ _ (by omega)).trans v1)) b1 (hR.fr (fun a b z => (b2 a b (by omega)).trans (a2 a b (by omega)))) (fun h3 gg3 c1 c2 c3 => ?_)
  have hF : zFg v h h3 := fun a b hn => (c3 a b hn).trans ((b2 a b (by omega)).trans (a2 a b (by omega)))
  exact q h3 ⟨(hF _ _ (by omega)).trans v1, v2.fr (fun a b z => hF a b (by omega)), (hF _ _ (by omega)).trans v3, ⟨fg, v4.fr (fun a b z => hF a b (by omega))⟩, (hF _ _ (by omega)).trans v5, ⟨jj, (hF _ _ (by omega)).trans v6⟩, v7.fr (fun a b z => hF a b (by omega)), ⟨_, c2⟩, ⟨_, _, _, c1⟩, v10⟩ c2 hF
end ZX68
