set_option maxRecDepth 100000
section ZY71
variable {d v sz gr : Nat} {fi : Int} {Q : xR → Nat → Nat → xH → Prop}
/-- a row meets one that was ahead of it -/
def zjF1 (v sz gr : Nat) (fi : Int) (e : zE) (fb : Nat → Int64) (o : zE) : Nat → Int64 := if zPa sz e o ∧ zLet true fi o = true ∧ ¬ (zeT o : Int) + (sz : Int) + 1 + (gr : Int) ≤ zeA o then zfi fb (zcnt fb 12800) (zjRes v e o) else fb
def zjFa (v sz gr : Nat) (fi : Int) (e : zE) (L : List zE) (fb : Nat → Int64) : Nat → Int64 := L.foldl (zjF1 v sz gr fi e) fb
theorem zjF1_cnt {e o : zE} {fb : Nat → Int64} : zcnt (zjF1 v sz gr fi e fb o) 12800 ≤ zcnt fb 12800 + 1 := by
  unfold zjF1
  split
  · by_cases h : zcnt fb 12800 < 12800
    · have := zcnt_set (f := fb) (x := zjRes v e o) h
      rw [if_neg zjRes_nz] at this
      split at this <;> omega
    · have := zcnt_le (zfi fb (zcnt fb 12800) (zjRes v e o)) 12800
      omega
  · omega
theorem l_jfa {e : zE} {b cap c s : Nat} {dr : Int32} {J : List zE} (hr : zVr v fi sz gr) (hE : zEr e) (hb : b < J.length) : ∀ (n j : Nat) (fb : Nat → Int64) (h : xH), j + n = b → zcnt fb 12800 + n < 12800 → zEn h e → zVo h 2 v true fi sz gr dr [.inr (36, v)] → zJr h cap J → zRes h 23 v 12800 fb →
    (∀ h1, zRes h1 23 v 12800 (zjFa v sz gr fi e ((J.take b).drop j) fb) → (∀ a b : Nat, ¬ (23 ≤ a ∧ a < 25 ∧ b = v) → h1 (a, b) = h (a, b)) → Q (.inl none) c s h1) → zX (d + 3) 8 3 [(0, .inr (20, v)), (1, .inr (15, 0)), (2, zi (b : Int)), (3, .inr (8, zeN e)), (4, zi (j : Int))] [] c s h Q := by
  obtain ⟨r1, r2, r3, r4⟩ := id hr
  obtain ⟨e1, e2, e3, e4, e5, e6⟩ := id hE
  intro n
  induction n with
  | zero =>
    intro j fb h hj hz he hV hJ hR q
    have := hJ.2.2
    refine r_ja2 (d := d + 3) hr r1 r3 r4 (by omega) (by omega) hV (q h ?_ (fun _ _ _ => rfl))
    rw [List.drop_of_length_le (by rw [List.length_take]; omega)]
    exact hR
  | succ n ih =>
    intro j fb h hj hz he hV hJ hR q
    have hlt : j < J.length := by omega
    have hx := List.getElem?_eq_getElem hlt
    obtain ⟨hP, hp⟩ := hJ.2.1 _ (List.getElem_mem hlt)
    obtain ⟨o1, o2, o3, o4, o5, o6⟩ := id hP
    have hl2 : j < (J.take b).length := by rw [List.length_take]; omega
    have stp : ∀ fb, zjFa v sz gr fi e ((J.take b).drop j) fb = zjFa v sz gr fi e ((J.take b).drop (j + 1)) (zjF1 v sz gr fi e fb J[j]) := fun fb => by
      rw [List.drop_eq_getElem_cons hl2, List.getElem_take]
      rfl
    rw [stp] at q
    have hc := zjF1_cnt (v := v) (sz := sz) (gr := gr) (fi := fi) (e := e) (o := J[j]) (fb := fb)
    have no : ¬ (zPa sz e J[j] ∧ zLet true fi J[j] = true ∧ ¬ (zeT J[j] : Int) + (sz : Int) + 1 + (gr : Int) ≤ zeA J[j]) → zX (d + 3) 8 3 [(0, .inr (20, v)), (1, .inr (15, 0)), (2, zi (b : Int)), (3, .inr (8, zeN e)), (4, zi ((j : Int) + 1))] [] c s h Q := fun z => by
      rw [show zjF1 v sz gr fi e fb J[j] = fb from if_neg z] at q
      exact ih (j + 1) fb h (by omega) (by omega) he hV hJ hR q
    refine r_ja1 (o := J[j]) (xs := J.map (fun e => (8, zeN e))) hr r1 r3 r4 hE e2 e3 e4 e6 e5 (zbi_r _) (zbi_r _) hP o2 o3 o4 o6 o5 (zbi_r _) (zbi_r _) (by omega) (by rw [List.length_map]; exact hb) (by rw [List.length_map]; exact hJ.2.2) (zmap_at hx) (by omega) hV he hp hJ.1 hR (fun z => no (fun y => z y.1)) (fun _ z => no (fun y => by rw [z] at y; exact absurd y.2.1 (by decide))) (fun z1 z2 z3 h1 a1 a2 => ?_) (fun _ _ z => no (fun y => y.2.2 z))
    have hx1 : zjF1 v sz gr fi e fb J[j] = _ := if_pos ⟨z1, z2, z3⟩
    exact ih (j + 1) _ h1 (by omega) (by omega) ((a2 _ _ (by omega)).trans he) ((a2 _ _ (by omega)).trans hV) (hJ.fr (fun a b _ z => a2 a b (by omega))) (by rw [hx1]; exact a1) (fun h2 b1 b2 => q h2 b1 (fun a b hn => (b2 a b hn).trans (a2 a b hn)))
theorem s_jfa {e : zE} {j cap c s : Nat} {dr : Int32} {J : List zE} {fb : Nat → Int64} {h : xH} (hr : zVr v fi sz gr) (hj : j < J.length) (hz : zcnt fb 12800 + 100 < 12800 ∧ J.length ≤ 72) (hE : zEr e) (he : zEn h e) (hV : zVo h 2 v true fi sz gr dr [.inr (36, v)]) (hJ : zJr h cap J) (hR : zRes h 23 v 12800 fb)
    (q : ∀ h1, zRes h1 23 v 12800 (zjFa v sz gr fi e (J.take j) fb) → (∀ a b : Nat, ¬ (23 ≤ a ∧ a < 25 ∧ b = v) → h1 (a, b) = h (a, b)) → Q (.inl none) c s h1) : zX (d + 3) 8 0 [(0, .inr (20, v)), (1, .inr (15, 0)), (2, zi (j : Int)), (3, .inr (8, zeN e))] [] c s h Q := by
  obtain ⟨r1, r2, r3, r4⟩ := id hr
  refine r_ja0 (d := d + 3) (cap := 0) (xs := []) hr r1 r3 r4 hV ?_
  exact l_jfa hr hE hj j 0 fb h (by omega) (by omega) he hV hJ hR q
end ZY71
