set_option maxRecDepth 100000
section ZW60
variable {d v sz gr sp : Nat} {fi me : Int} {Q : xR → Nat → Nat → xH → Prop}
/-- the journal lies there -/
def zJr (h : xH) (cap : Nat) (J : List zE) : Prop := zAL h 15 0 cap (J.map (fun e => (8, zeN e))) ∧ (∀ e ∈ J, zEr e ∧ zEn h e) ∧ J.length ≤ 240
theorem zJr.fr {h h1 : xH} {cap : Nat} {J : List zE} (hj : zJr h cap J) (e : ∀ a b : Nat, ¬ (2 ≤ a ∧ a < 4) → ¬ (20 ≤ a ∧ a < 60) → h1 (a, b) = h (a, b)) : zJr h1 cap J :=
  ⟨hj.1.fr (fun a b z => e a b (by omega) (by omega)), fun x hx => ⟨(hj.2.1 x hx).1, (e _ _ (by omega) (by omega)).trans (hj.2.1 x hx).2⟩, hj.2.2⟩
theorem zmap_at {α β : Type} {f : α → β} {l : List α} {j : Nat} {x : α} (h : l[j]? = some x) : (l.map f)[j]? = some (f x) := by rw [List.getElem?_map, h]; rfl
/-- the numbers and sums of a window view's rows, from the journal -/
def zwJ (sz gr sp : Nat) (fi : Int) (J : List zE) (G : (Nat → Int32) × (Nat → Int32)) : (Nat → Int32) × (Nat → Int32) := J.foldl (fun G e => if zLet false fi e = true then zwAga sz gr sp e G else G) G
noncomputable def zwF1 (v sz sp : Nat) (me : Int) (gn gs : Nat → Int32) (w k : Nat) (fb : Nat → Int64) : Nat → Int64 := if 0 < gn (w * 8 + k) then zfi fb (w * 8 + k) (zwRes v sz sp me gn gs w k) else fb
noncomputable def zwFK (v sz sp : Nat) (me : Int) (gn gs : Nat → Int32) (w : Nat) : Nat → Nat → (Nat → Int64) → Nat → Int64
  | 0, _, fb => fb
  | n + 1, k, fb => zwFK v sz sp me gn gs w n (k + 1) (zwF1 v sz sp me gn gs w k fb)
noncomputable def zwFW (v sz sp : Nat) (me : Int) (gn gs : Nat → Int32) : Nat → Nat → (Nat → Int64) → Nat → Int64
  | 0, _, fb => fb
  | n + 1, w, fb => zwFW v sz sp me gn gs n (w + 1) (zwFK v sz sp me gn gs w 8 0 fb)
/-- what finding again may touch -/
abbrev zFg (v : Nat) (h h1 : xH) : Prop := ∀ a b : Nat, ¬ ((23 ≤ a ∧ a < 25 ∨ 30 ≤ a ∧ a < 34) ∧ b = v) → h1 (a, b) = h (a, b)
theorem l_wfK {m : Int} {dr : Int32} {w c s : Nat} {gn gs gg : Nat → Int32} (hr : zWr v fi sz gr me sp) (hm : -1 ≤ m ∧ m < 1000) (hwz : w < zwi sp) : ∀ (n k : Nat) (fb : Nat → Int64) (h : xH), k + n = 8 → zVo h 9 v false fi sz gr dr [zi me, zi (sp : Int), zi (zwi sp : Int), .inr (26, v), .inr (30, v)] → zTal h 30 v (zwi sp * 8) gn gs gg → zRes h 23 v (zwi sp * 8) fb →
    (∀ h1, zRes h1 23 v (zwi sp * 8) (zwFK v sz sp me gn gs w n k fb) → (∀ a b : Nat, ¬ (23 ≤ a ∧ a < 25 ∧ b = v) → h1 (a, b) = h (a, b)) → zX (d + 3) 96 50 [(0, .inr (20, v)), (2, zi m), (3, zi ((w : Int) + 1))] [] c s h1 Q) → zX (d + 3) 96 70 [(0, .inr (20, v)), (2, zi m), (3, zi (w : Int)), (4, zi (k : Int))] [] c s h Q := by
  obtain ⟨hvr, hme, hs1, hs2⟩ := id hr
  obtain ⟨r1, r2, r3, r4⟩ := id hvr
  have hwi := zwi_le hs1
  have hmw := zwi_mul hs1 hwz
  have hm2 := zmul_c w sp
  intro n
  induction n with
  | zero =>
    intro k fb h hk hV hT hR q
    exact r_wf3 (cap := 0) (xs := []) hr hvr r1 r3 r4 ⟨hs1, by omega⟩ hme hwi hm (by omega) (by omega) (zmul_0 _ _) (by omega) hwz hV hT hR (fun _ => q h hR (fun _ _ _ => rfl)) (fun z => by omega) (fun z => by omega)
  | succ n ih =>
    intro k fb h hk hV hT hR q
    refine r_wf3 (cap := 0) (xs := []) hr hvr r1 r3 r4 ⟨hs1, by omega⟩ hme hwi hm (by omega) (by omega) (zmul_0 _ _) (by omega) hwz hV hT hR (fun z => by omega) (fun _ z => ?_) (fun _ z h1 a1 a2 => ?_)
    · refine ih (k + 1) fb h (by omega) hV hT hR (fun h1 b1 => q h1 ?_)
      show zRes h1 23 v (zwi sp * 8) (zwFK v sz sp me gn gs w n (k + 1) (zwF1 v sz sp me gn gs w k fb))
      rw [show zwF1 v sz sp me gn gs w k fb = fb from if_neg z]
      exact b1
    · refine ih (k + 1) _ h1 (by omega) ((a2 _ _ (by omega)).trans hV) (hT.fr (fun a b z => a2 a b (by omega))) a1 (fun h2 b1 b2 => q h2 ?_ (fun a b hn => (b2 a b hn).trans (a2 a b (by omega))))
      show zRes h2 23 v (zwi sp * 8) (zwFK v sz sp me gn gs w n (k + 1) (zwF1 v sz sp me gn gs w k fb))
      rw [show zwF1 v sz sp me gn gs w k fb = _ from if_pos z]
      exact b1
theorem l_wfW {m : Int} {dr : Int32} {c s : Nat} {gn gs gg : Nat → Int32} (hr : zWr v fi sz gr me sp) (hm : -1 ≤ m ∧ m < 1000) : ∀ (n w : Nat) (fb : Nat → Int64) (h : xH), w + n = zwStop sz sp m → zVo h 9 v false fi sz gr dr [zi me, zi (sp : Int), zi (zwi sp : Int), .inr (26, v), .inr (30, v)] → zTal h 30 v (zwi sp * 8) gn gs gg → zRes h 23 v (zwi sp * 8) fb →
    (∀ h1, zRes h1 23 v (zwi sp * 8) (zwFW v sz sp me gn gs n w fb) → (∀ a b : Nat, ¬ (23 ≤ a ∧ a < 25 ∧ b = v) → h1 (a, b) = h (a, b)) → Q (.inl none) c s h1) → zX (d + 3) 96 50 [(0, .inr (20, v)), (2, zi m), (3, zi (w : Int))] [] c s h Q := by
  obtain ⟨hvr, hme, hs1, hs2⟩ := id hr
  obtain ⟨r1, r2, r3, r4⟩ := id hvr
  have hwi := zwi_le hs1
  have hsl := zwStop_le (sz := sz) (sp := sp) (m := m)
  intro n
  induction n with
  | zero =>
    intro w fb h hw hV hT hR q
    have hst : ¬ w < zwStop sz sp m := by omega
    rw [zwStop_iff hs1] at hst
    have hp : (w : Int) * (sp : Int) ≤ 400000 := by
      rw [zmul_c]
      have h1 : w * sp ≤ 1101 * 200 := Nat.mul_le_mul (by omega) (by omega)
      omega
    exact r_wf2 (d := d + 2) (cap := 0) (xs := []) (gn := gn) (gs := gs) (gg := gg) hr hvr r1 r3 r4 ⟨hs1, by omega⟩ hme hwi hm (by omega) hp (zmul_0 _ _) hV (fun _ => q h hR (fun _ _ _ => rfl)) (fun _ _ => q h hR (fun _ _ _ => rfl)) (fun e1 e2 => absurd ⟨by omega, e2⟩ hst)
  | succ n ih =>
    intro w fb h hw hV hT hR q
    obtain ⟨hwz, hle⟩ := (zwStop_iff hs1).mp (show w < zwStop sz sp m by omega)
    have hmw := zwi_mul hs1 hwz
    have hm2 := zmul_c w sp
    refine r_wf2 (d := d + 2) (cap := 0) (xs := []) (gn := gn) (gs := gs) (gg := gg) hr hvr r1 r3 r4 ⟨hs1, by omega⟩ hme hwi hm (by omega) (by omega) (zmul_0 _ _) hV (fun e => by omega) (fun _ e => by omega) (fun _ _ => ?_)
    refine l_wfK hr hm hwz 8 0 fb h rfl hV hT hR (fun h1 a1 a2 => ?_)
    exact ih (w + 1) _ h1 (by omega) ((a2 _ _ (by omega)).trans hV) (hT.fr (fun a b z => a2 a b (by omega))) a1 (fun h2 b1 b2 => q h2 b1 (fun a b hn => (b2 a b hn).trans (a2 a b hn)))
theorem l_wfJ {m : Int} {dr : Int32} {c s cap : Nat} {J : List zE} (hr : zWr v fi sz gr me sp) (hm : -1 ≤ m ∧ m < 1000) : ∀ (n j : Nat) (gn gs gg : Nat → Int32) (h : xH), j + n = J.length → zJr h cap J → zVo h 9 v false fi sz gr dr [zi me, zi (sp : Int), zi (zwi sp : Int), .inr (26, v), .inr (30, v)] → zTal h 30 v (zwi sp * 8) gn gs gg →
    (∀ h1 gg1, zTal h1 30 v (zwi sp * 8) (zwJ sz gr sp fi (J.drop j) (gn, gs)).1 (zwJ sz gr sp fi (J.drop j) (gn, gs)).2 gg1 → (∀ a b : Nat, ¬ (30 ≤ a ∧ a < 34 ∧ b = v) → h1 (a, b) = h (a, b)) → zX (d + 3) 96 50 [(0, .inr (20, v)), (2, zi m), (3, zi 0)] [] c s h1 Q) → zX (d + 3) 96 9 [(0, .inr (20, v)), (1, .inr (15, 0)), (2, zi m), (3, zi (j : Int))] [] c s h Q := by
  obtain ⟨hvr, hme, hs1, hs2⟩ := id hr
  obtain ⟨r1, r2, r3, r4⟩ := id hvr
  have hwi := zwi_le hs1
  intro n
  induction n with
  | zero =>
    intro j gn gs gg h hj hJ hV hT q
    refine r_wf1e (d := d + 2) (gn := gn) (gs := gs) (gg := gg) hr hvr r1 r3 r4 ⟨hs1, by omega⟩ hme hwi hm (by rw [List.length_map]; exact hJ.2.2) (by rw [List.length_map]; exact hj) hV hJ.1 (q h gg ?_ (fun _ _ _ => rfl))
    rw [List.drop_of_length_le (by omega)]
    exact hT
  | succ n ih =>
    intro j gn gs gg h hj hJ hV hT q
    have hlt : j < J.length := by omega
    have hx := List.getElem?_eq_getElem hlt
    obtain ⟨hE, he⟩ := hJ.2.1 _ (List.getElem_mem hlt)
    obtain ⟨e1, e2, e3, e4, e5, e6⟩ := id hE
    have hd := List.drop_eq_getElem_cons hlt
    have stp : ∀ G, zwJ sz gr sp fi (J.drop j) G = zwJ sz gr sp fi (J.drop (j + 1)) (if zLet false fi J[j] = true then zwAga sz gr sp J[j] G else G) := fun G => by
      rw [hd]
      rfl
    refine r_wf1 (e := J[j]) (xs := J.map (fun e => (8, zeN e))) hr hvr r1 r3 r4 ⟨hs1, by omega⟩ hme hwi hm (by rw [List.length_map]; exact hJ.2.2) hE e2 e3 e4 e6 e5 (zbi_r _) (zbi_r _) (by rw [List.length_map]; exact hlt) (zmap_at hx) hV he hT hJ.1 (fun z => ?_) (fun z gg1 h1 a1 a2 => ?_)
    · refine ih (j + 1) gn gs gg h (by omega) hJ hV hT ?_
      rw [stp, if_neg (by rw [z]; decide)] at q
      exact q
    · refine ih (j + 1) _ _ gg1 h1 (by omega) (hJ.fr (fun a b _ z => a2 a b (by omega))) ((a2 _ _ (by omega)).trans hV) a1 (fun h2 gg2 b1 b2 => ?_)
      rw [stp, if_pos z] at q
      exact q h2 gg2 b1 (fun a b hn => (b2 a b hn).trans (a2 a b hn))
/-- what a window view finds from all rows at once -/
noncomputable def zwFound (v sz gr sp : Nat) (me fi : Int) (J : List zE) (m : Int) : Nat → Int64 := zwFW v sz sp me (zwJ sz gr sp fi J (fun _ => 0, fun _ => 0)).1 (zwJ sz gr sp fi J (fun _ => 0, fun _ => 0)).2 (zwStop sz sp m) 0 (fun _ => 0)
theorem s_wfind {m : Int} {c s cap N : Nat} {h : xH} {X : zWX} {J : List zE} (hr : zWr v fi sz gr me sp) (hm : -1 ≤ m ∧ m < 1000) (hJ : zJr h cap J) (hV : zVW h N v fi sz gr me sp X) (hR : zRes h 23 v (zwi sp * 8) (fun _ => 0))
    (q : ∀ h1, zVW h1 N v fi sz gr me sp X → zRes h1 23 v (zwi sp * 8) (zwFound v sz gr sp me fi J m) → zFg v h h1 → Q (.inl none) c s h1) : zX (d + 3) 96 0 [(0, .inr (20, v)), (1, .inr (15, 0)), (2, zi m)] [] c s h Q := by
  obtain ⟨hvr, hme, hs1, hs2⟩ := id hr
  obtain ⟨r1, r2, r3, r4⟩ := id hvr
  have hwi := zwi_le hs1
  obtain ⟨v1, v2, v3, ⟨fg, v4⟩, v5, -, gn, gs, gg, v7⟩ := hV
  refine r_wf0 (d := d + 1) hr hvr r1 r3 r4 ⟨hs1, by omega⟩ hme hwi hm (by rw [List.length_map]; exact hJ.2.2) v1 v7 hJ.1 (fun h1 a1 a2 => ?_)
  refine l_wfJ hr hm J.length 0 _ _ _ h1 (by omega) (hJ.fr (fun a b _ z => a2 a b (by omega))) ((a2 _ _ (by omega)).trans v1) a1 (fun h2 gg2 b1 b2 => ?_)
  rw [List.drop_zero] at b1
  refine l_wfW hr hm (zwStop sz sp m) 0 _ h2 (by omega) ((b2 _ _ (by omega)).trans ((a2 _ _ (by omega)).trans v1)) b1 (hR.fr (fun a b z => (b2 a b (by omega)).trans (a2 a b (by omega)))) (fun h3 c1 c2 => ?_)
  have hF : zFg v h h3 := fun a b hn => (c2 a b (by omega)).trans ((b2 a b (by omega)).trans (a2 a b (by omega)))
  exact q h3 ⟨(hF _ _ (by omega)).trans v1, v2.fr (fun a b z => hF a b (by omega)), (hF _ _ (by omega)).trans v3, ⟨fg, v4.fr (fun a b z => hF a b (by omega))⟩, v5.fr (fun a b z => hF a b (by omega)), ⟨_, c1⟩, _, _, _, b1.fr (fun a b z => c2 a b (by omega))⟩ c1 hF
end ZW60
