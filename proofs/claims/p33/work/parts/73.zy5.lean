set_option maxRecDepth 100000
section ZY73
variable {d v sz gr : Nat} {fi : Int} {Q : xR → Nat → Nat → xH → Prop}
/-- all pairs, from the j-th row on -/
def zjFJ (v sz gr : Nat) (fi : Int) (J : List zE) : Nat → Nat → (Nat → Int64) → Nat → Int64
  | 0, _, fb => fb
  | n + 1, j, fb => zjFJ v sz gr fi J n (j + 1) (match J[j]? with
    | some e => if zLet true fi e = true ∧ ¬ (zeT e : Int) + (sz : Int) + 1 + (gr : Int) ≤ zeA e then zjFa v sz gr fi e (J.take j) fb else fb
    | none => fb)
theorem zjFa_cnt {e : zE} : ∀ (L : List zE) (fb : Nat → Int64), zcnt (zjFa v sz gr fi e L fb) 12800 ≤ zcnt fb 12800 + L.length := by
  intro L
  induction L with
  | nil => intro fb; exact Nat.le_refl _
  | cons o r ih =>
    intro fb
    have h1 := zjF1_cnt (v := v) (sz := sz) (gr := gr) (fi := fi) (e := e) (o := o) (fb := fb)
    have h2 := ih (zjF1 v sz gr fi e fb o)
    show zcnt (zjFa v sz gr fi e r (zjF1 v sz gr fi e fb o)) 12800 ≤ zcnt fb 12800 + (r.length + 1)
    omega
theorem l_jf {cap c s : Nat} {dr : Int32} {J : List zE} (hr : zVr v fi sz gr) (hJ72 : J.length ≤ 72) : ∀ (n j : Nat) (fb : Nat → Int64) (h : xH), j + n = J.length → zcnt fb 12800 ≤ 72 * j → zVo h 2 v true fi sz gr dr [.inr (36, v)] → zJr h cap J → zRes h 23 v 12800 fb →
    (∀ h1, zRes h1 23 v 12800 (zjFJ v sz gr fi J n j fb) → (∀ a b : Nat, ¬ (23 ≤ a ∧ a < 25 ∧ b = v) → h1 (a, b) = h (a, b)) → Q (.inl none) c s h1) → zX (d + 4) 7 2 [(0, .inr (20, v)), (1, .inr (15, 0)), (3, zi (j : Int))] [] c s h Q := by
  obtain ⟨r1, r2, r3, r4⟩ := id hr
  intro n
  induction n with
  | zero =>
    intro j fb h hj hz hV hJ hR q
    exact r_jf2 (d := d + 3) (J := J) hr r1 r3 r4 (by rw [List.length_map]; exact hj) (by rw [List.length_map]; exact hJ.2.2) hV hJ.1 (q h hR (fun _ _ _ => rfl))
  | succ n ih =>
    intro j fb h hj hz hV hJ hR q
    have hlt : j < J.length := by omega
    have hx := List.getElem?_eq_getElem hlt
    obtain ⟨hE, he⟩ := hJ.2.1 _ (List.getElem_mem hlt)
    obtain ⟨e1, e2, e3, e4, e5, e6⟩ := id hE
    have stp : zjFJ v sz gr fi J (n + 1) j fb = zjFJ v sz gr fi J n (j + 1) (if zLet true fi J[j] = true ∧ ¬ (zeT J[j] : Int) + (sz : Int) + 1 + (gr : Int) ≤ zeA J[j] then zjFa v sz gr fi J[j] (J.take j) fb else fb) := by
      show zjFJ v sz gr fi J n (j + 1) (match J[j]? with
        | some e => if zLet true fi e = true ∧ ¬ (zeT e : Int) + (sz : Int) + 1 + (gr : Int) ≤ zeA e then zjFa v sz gr fi e (J.take j) fb else fb
        | none => fb) = _
      rw [hx]
    rw [stp] at q
    have no : ¬ (zLet true fi J[j] = true ∧ ¬ (zeT J[j] : Int) + (sz : Int) + 1 + (gr : Int) ≤ zeA J[j]) → zX (d + 4) 7 2 [(0, .inr (20, v)), (1, .inr (15, 0)), (3, zi ((j : Int) + 1))] [] c s h Q := fun z => by
      rw [if_neg z] at q
      exact ih (j + 1) fb h (by omega) (by omega) hV hJ hR q
    have hll : (zNm J).length = J.length := List.length_map _
    refine r_jf1 (e := J[j]) (J := J) hr r1 r3 r4 hE e2 e3 e4 e6 e5 (zbi_r _) (zbi_r _) (by omega) (by have := hJ.2.2; omega) (zmap_at hx) hJ hlt ⟨by omega, hJ72⟩ hV he hJ.1 hR (fun z => by omega) (fun _ z => no (fun y => by rw [z] at y; exact absurd y.1 (by decide))) (fun _ z z2 h1 a1 a2 => ?_) (fun _ _ z => no (fun y => y.2 z))
    rw [if_pos ⟨z, z2⟩] at q
    have hc := zjFa_cnt (v := v) (sz := sz) (gr := gr) (fi := fi) (e := J[j]) (J.take j) fb
    rw [List.length_take] at hc
    exact ih (j + 1) _ h1 (by omega) (by omega) ((a2 _ _ (by omega)).trans hV) (hJ.fr (fun a b _ z => a2 a b (by omega))) a1 (fun h2 b1 b2 => q h2 b1 (fun a b hn => (b2 a b hn).trans (a2 a b hn)))
def zjFound (v sz gr : Nat) (fi : Int) (J : List zE) : Nat → Int64 := zjFJ v sz gr fi J J.length 0 (fun _ => 0)
theorem s_jfind {m : Int} {c s cap cap2 N : Nat} {h : xH} {X : zJX} {J : List zE} (hr : zVr v fi sz gr) (hJ72 : J.length ≤ 72) (hJ : zJr h cap2 J) (hV : zVJ h N cap v fi sz gr X) (hR : zRes h 23 v 12800 (fun _ => 0))
    (q : ∀ h1, zVJ h1 N cap v fi sz gr X → zRes h1 23 v 12800 (zjFound v sz gr fi J) → zFg v h h1 → Q (.inl none) c s h1) : zX (d + 4) 7 0 [(0, .inr (20, v)), (1, .inr (15, 0)), (2, zi m)] [] c s h Q := by
  obtain ⟨r1, r2, r3, r4⟩ := id hr
  obtain ⟨v1, v2, v3, v4, v5, -⟩ := hV
  refine r_jf0 (d := d + 4) (cap := 0) (J := []) hr r1 r3 r4 v1 ?_
  refine l_jf hr hJ72 J.length 0 (fun _ => 0) h (by omega) (by rw [zcnt_0]; omega) v1 hJ hR (fun h1 a1 a2 => ?_)
  have hF : zFg v h h1 := fun a b hn => a2 a b (by omega)
  exact q h1 ⟨(hF _ _ (by omega)).trans v1, v2.fr (fun a b z => hF a b (by omega)), (hF _ _ (by omega)).trans v3, v4.fr (fun a b z => hF a b (by omega)), v5.fr (fun a b z => hF a b (by omega)), ⟨_, a1⟩⟩ a1 hF
end ZY73
