set_option maxRecDepth 100000
section ZZ81
variable {d v sz gr : Nat} {fi : Int} {Q : xR → Nat → Nat → xH → Prop}
/-- the versions, from the journal -/
def zvA (gr : Nat) (fi : Int) (A : List zE) (e : zE) : List zE := if zLet true fi e = true ∧ zbi (zeL e) = 0 ∧ zeA e ≤ (zeT e : Int) + (gr : Int) then A ++ [e] else A
def zvJ (gr : Nat) (fi : Int) (J A : List zE) : List zE := J.foldl (zvA gr fi) A
def zvF1 (v gr : Nat) (fi m : Int) (A : List zE) (fb : Nat → Int64) (e : zE) : Nat → Int64 := if zLet true fi e = true ∧ ¬ zbi (zeL e) = 0 ∧ zeA e ≤ (zeT e : Int) + (gr : Int) ∧ (zeT e : Int) < m then zfi fb (zeO e) (zvRes v A e) else fb
def zvF (v gr : Nat) (fi m : Int) (A J : List zE) (fb : Nat → Int64) : Nat → Int64 := J.foldl (zvF1 v gr fi m A) fb
theorem zvJ_len {J A : List zE} : (zvJ gr fi J A).length ≤ A.length + J.length := by
  induction J generalizing A with
  | nil => exact Nat.le_refl _
  | cons e r ih =>
    have h1 : (zvJ gr fi r (zvA gr fi A e)).length ≤ (zvA gr fi A e).length + r.length := ih
    have h2 : (zvA gr fi A e).length ≤ A.length + 1 := by
      unfold zvA
      split
      · rw [List.length_append]; exact Nat.le_refl _
      · omega
    show (zvJ gr fi r (zvA gr fi A e)).length ≤ A.length + (r.length + 1)
    omega
/-- what finding again may touch -/
abbrev zFl (v : Nat) (h h1 : xH) : Prop := ∀ a b : Nat, ¬ (23 ≤ a ∧ a < 25 ∧ b = v ∨ 40 ≤ a ∧ a < 42 ∧ b % 8 = v) → h1 (a, b) = h (a, b)
theorem l_vf2 {m : Int} {cap cap3 c s : Nat} {dr : Int32} {J Ag : List zE} (hr : zVr v fi sz gr) (hm : -1 ≤ m ∧ m < 1000) (hAl : Ag.length ≤ 240) : ∀ (n j : Nat) (fb : Nat → Int64) (h : xH), j + n = J.length → zVo h 8 v true fi sz gr dr [.inr (36, v), .inr (38, v), .inr (40, v)] → zJr h cap J → zAL h 40 v cap3 (zNm Ag) → zKs h Ag → zRes h 23 v 240 fb →
    (∀ h1, zRes h1 23 v 240 (zvF v gr fi m Ag (J.drop j) fb) → (∀ a b : Nat, ¬ (23 ≤ a ∧ a < 25 ∧ b = v) → h1 (a, b) = h (a, b)) → Q (.inl none) c s h1) → zX (d + 5) 72 76 [(0, .inr (20, v)), (1, .inr (15, 0)), (2, zi m), (3, zi (j : Int))] [] c s h Q := by
  obtain ⟨r1, r2, r3, r4⟩ := id hr
  have hll : (zNm J).length = J.length := List.length_map _
  intro n
  induction n with
  | zero =>
    intro j fb h hj hV hJ hA hk hR q
    rw [List.drop_of_length_le (by omega)] at q
    have := hJ.2.2
    exact r_vf2e (d := d + 4) (J := J) (Ag := []) (cap3 := 0) hr r1 r3 r4 (by omega) (by omega) hV hJ.1 (q h hR (fun _ _ _ => rfl))
  | succ n ih =>
    intro j fb h hj hV hJ hA hk hR q
    have hlt : j < J.length := by omega
    have hx := List.getElem?_eq_getElem hlt
    obtain ⟨hE, he⟩ := hJ.2.1 _ (List.getElem_mem hlt)
    obtain ⟨e1, e2, e3, e4, e5, e6⟩ := id hE
    have stp : zvF v gr fi m Ag (J.drop j) fb = zvF v gr fi m Ag (J.drop (j + 1)) (zvF1 v gr fi m Ag fb J[j]) := by
      rw [List.drop_eq_getElem_cons hlt]
      rfl
    rw [stp] at q
    have no : ¬ (zLet true fi J[j] = true ∧ ¬ zbi (zeL J[j]) = 0 ∧ zeA J[j] ≤ (zeT J[j] : Int) + (gr : Int) ∧ (zeT J[j] : Int) < m) → zX (d + 5) 72 76 [(0, .inr (20, v)), (1, .inr (15, 0)), (2, zi m), (3, zi ((j : Int) + 1))] [] c s h Q := fun z => by
      rw [show zvF1 v gr fi m Ag fb J[j] = fb from if_neg z] at q
      exact ih (j + 1) fb h (by omega) hV hJ hA hk hR q
    have := hJ.2.2
    refine r_vf2 (d := d) (e := J[j]) (J := J) (Ag := Ag) hr r1 r3 r4 hE e2 e3 e4 e6 e5 (zbi_r _) (zbi_r _) hm (by omega) hAl hk (by omega) (zmap_at hx) hV he hJ.1 hA hR (fun z => no (fun y => by rw [z] at y; exact absurd y.1 (by decide))) (fun _ z => no (fun y => y.2.1 z)) (fun _ _ _ z => no (fun y => by have := y.2.2.2; omega)) (fun z1 z2 z3 z4 h1 a1 a2 => ?_) (fun _ _ z => no (fun y => by have := y.2.2.1; omega))
    rw [show zvF1 v gr fi m Ag fb J[j] = _ from if_pos ⟨z1, z2, z3, z4⟩] at q
    have hF : zFv v h h1 := fun a b hn => a2 a b (by omega)
    exact ih (j + 1) _ h1 (by omega) ((a2 _ _ (by omega)).trans hV) (hJ.fr (fun a b _ z => a2 a b (by omega))) (hA.fr (fun a b z => a2 a b (by omega))) (hk.fr hF) a1 (fun h2 b1 b2 => q h2 b1 (fun a b hn => (b2 a b hn).trans (a2 a b hn)))
theorem l_vf1 {m : Int} {cap : Nat} {dr : Int32} {J : List zE} (hr : zVr v fi sz gr) (hm : -1 ≤ m ∧ m < 1000) (hJ72 : J.length ≤ 72) : ∀ (n j : Nat) (Ag : List zE) (h : xH) (cap3 c s : Nat), j + n = J.length → Ag.length ≤ j → zVo h 8 v true fi sz gr dr [.inr (36, v), .inr (38, v), .inr (40, v)] → zJr h cap J → zAL h 40 v cap3 (zNm Ag) → zKs h Ag →
    (∀ h1 q3 c1 s1, zAL h1 40 v q3 (zNm (zvJ gr fi (J.drop j) Ag)) → zKs h1 (zvJ gr fi (J.drop j) Ag) → (∀ a b : Nat, ¬ (40 ≤ a ∧ a < 42 ∧ b % 8 = v) → h1 (a, b) = h (a, b)) → zCo cap3 c s q3 c1 s1 → zX (d + 7) 72 76 [(0, .inr (20, v)), (1, .inr (15, 0)), (2, zi m), (3, zi 0)] [] c1 s1 h1 Q) → zX (d + 7) 72 9 [(0, .inr (20, v)), (1, .inr (15, 0)), (2, zi m), (3, zi (j : Int))] [] c s h Q := by
  obtain ⟨r1, r2, r3, r4⟩ := id hr
  have hll : (zNm J).length = J.length := List.length_map _
  intro n
  induction n with
  | zero =>
    intro j Ag h cap3 c s hj hl hV hJ hA hk q
    rw [List.drop_of_length_le (by omega)] at q
    exact r_vf1e (d := d + 6) (J := J) (Ag := []) (cap3 := 0) hr r1 r3 r4 (by omega) (by omega) hV hJ.1 (q h cap3 c s hA hk (fun _ _ _ => rfl) zCo.rf)
  | succ n ih =>
    intro j Ag h cap3 c s hj hl hV hJ hA hk q
    have hlt : j < J.length := by omega
    have hx := List.getElem?_eq_getElem hlt
    obtain ⟨hE, he⟩ := hJ.2.1 _ (List.getElem_mem hlt)
    obtain ⟨e1, e2, e3, e4, e5, e6⟩ := id hE
    have stp : zvJ gr fi (J.drop j) Ag = zvJ gr fi (J.drop (j + 1)) (zvA gr fi Ag J[j]) := by
      rw [List.drop_eq_getElem_cons hlt]
      rfl
    rw [stp] at q
    have no : ¬ (zLet true fi J[j] = true ∧ zbi (zeL J[j]) = 0 ∧ zeA J[j] ≤ (zeT J[j] : Int) + (gr : Int)) → zX (d + 7) 72 9 [(0, .inr (20, v)), (1, .inr (15, 0)), (2, zi m), (3, zi ((j : Int) + 1))] [] c s h Q := fun z => by
      rw [show zvA gr fi Ag J[j] = Ag from if_neg z] at q
      exact ih (j + 1) Ag h cap3 c s (by omega) (by omega) hV hJ hA hk q
    have hal : (zNm Ag).length = Ag.length := List.length_map _
    refine r_vf1 (d := d) (e := J[j]) (J := J) (Ag := Ag) hr r1 r3 r4 hE e2 e3 e4 e6 e5 (zbi_r _) (zbi_r _) (by omega) (by omega) hk (by omega) (zmap_at hx) hV he hJ.1 hA (fun z => no (fun y => by rw [z] at y; exact absurd y.1 (by decide))) (fun _ z => no (fun y => z y.2.1)) (fun z1 z2 z3 q3 c1 s1 hb h1 a1 a2 => ?_) (fun _ _ z => no (fun y => by have := y.2.2; omega))
    rw [show zvA gr fi Ag J[j] = Ag ++ [J[j]] from if_pos ⟨z1, z2, z3⟩] at q
    have hF : zFv v h h1 := fun a b hn => a2 a b (by omega)
    rw [zNm_push] at a1
    exact ih (j + 1) _ h1 q3 c1 s1 (by omega) (by rw [List.length_append]; show Ag.length + 1 ≤ j + 1; omega) ((a2 _ _ (by omega)).trans hV) (hJ.fr (fun a b _ z => a2 a b (by omega))) a1 (zKs_push (hk.fr hF) hE (he.fr hF)) (fun h2 q4 c2 s2 b1 b2 b3 b4 => q h2 q4 c2 s2 b1 b2 (fun a b hn => (b3 a b hn).trans (a2 a b (by omega))) ⟨by omega, by omega, by omega⟩)
def zvFound (v gr : Nat) (fi m : Int) (J : List zE) : Nat → Int64 := zvF v gr fi m (zvJ gr fi J []) J (fun _ => 0)
theorem s_vfind {m : Int} {c s cap N cap1 cap2 cap3 : Nat} {h : xH} {X : zVX} {J : List zE} (hr : zVr v fi sz gr) (hm : -1 ≤ m ∧ m < 1000) (hJ72 : J.length ≤ 72) (hJ : zJr h cap J) (hV : zVV h N cap1 cap2 cap3 v fi sz gr X) (hR : zRes h 23 v 240 (fun _ => 0))
    (q : ∀ h1 q3 c1 s1, zVV h1 N cap1 cap2 q3 v fi sz gr X → zRes h1 23 v 240 (zvFound v gr fi m J) → zFl v h h1 → zCo cap3 c s q3 c1 s1 → Q (.inl none) c1 s1 h1) : zX (d + 7) 72 0 [(0, .inr (20, v)), (1, .inr (15, 0)), (2, zi m)] [] c s h Q := by
  obtain ⟨r1, r2, r3, r4⟩ := id hr
  obtain ⟨v1, v2, v3, v4, v5, v6, -, Ag, v8⟩ := hV
  refine r_vf0 (d := d + 6) (J := []) (cap := 0) hr r1 r3 r4 v1 v8 (fun h1 a1 a2 => ?_)
  refine l_vf1 (d := d) hr hm hJ72 J.length 0 [] h1 cap3 c s (by omega) (Nat.le_refl _) ((a2 _ _ (by omega)).trans v1) (hJ.fr (fun a b _ z => a2 a b (by omega))) a1 (fun e he => absurd he (by simp)) (fun h2 q3 c2 s2 b1 b2 b3 b4 => ?_)
  have hG : ∀ a b : Nat, ¬ (40 ≤ a ∧ a < 42 ∧ b % 8 = v) → h2 (a, b) = h (a, b) := fun a b hn => (b3 a b hn).trans (a2 a b (by omega))
  rw [List.drop_zero] at b1 b2
  have hl := zvJ_len (gr := gr) (fi := fi) (J := J) (A := [])
  have hl2 : (zvJ gr fi J []).length ≤ 240 := by
    have z : ([] : List zE).length = 0 := rfl
    omega
  refine l_vf2 (d := d + 2) hr hm hl2 J.length 0 (fun _ => 0) h2 (by omega) ((hG _ _ (by omega)).trans v1) (hJ.fr (fun a b _ z => hG a b (by omega))) b1 b2 (hR.fr (fun a b z => hG a b (by omega))) (fun h3 c1 c3 => ?_)
  have hF : zFl v h h3 := fun a b hn => (c3 a b (by omega)).trans (hG a b (by omega))
  rw [List.drop_zero] at c1
  exact q h3 q3 c2 s2 ⟨(hF _ _ (by omega)).trans v1, v2.fr (fun a b z => hF a b (by omega)), (hF _ _ (by omega)).trans v3, v4.fr (fun a b z => hF a b (by omega)), v5.fr (fun a b z => hF a b (by omega)), v6.fr (fun a b z => hF a b (by omega)), ⟨_, c1⟩, _, b1.fr (fun a b z => c3 a b (by omega))⟩ c1 hF b4
end ZZ81
