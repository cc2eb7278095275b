set_option maxRecDepth 100000
section ZZ75
variable {d v sz gr : Nat} {fi : Int} {Q : xR → Nat → Nat → xH → Prop}
abbrev zob (b : Option zE) : xV := match b with
  | none => .inl .null
  | some e => .inr (8, zeN e)
/-- is the one ahead better than the other -/
def zvBt (b : Option zE) (o : zE) : Bool := match b with
  | none => false
  | some e => decide (zeT o < zeT e) || (decide (zeT e = zeT o) && decide (zeV o < zeV e))
def zvB1 (k : Nat) (t : Int) (b : Option zE) (o : zE) : Option zE := if zeK o = k ∧ (zeT o : Int) ≤ t ∧ zvBt b o = false then some o else b
/-- the version of a key that counts at a time -/
def zvBest (k : Nat) (t : Int) (K : List zE) : Option zE := K.foldl (zvB1 k t) none
theorem zvBest_mem {k : Nat} {t : Int} {K : List zE} {e : zE} (h : zvBest k t K = some e) : e ∈ K := by
  have key : ∀ (L : List zE) (b : Option zE), L.foldl (zvB1 k t) b = some e → b = some e ∨ e ∈ L := by
    intro L
    induction L with
    | nil => intro b hb; exact Or.inl hb
    | cons o r ih =>
      intro b hb
      rcases ih _ hb with h1 | h1
      · unfold zvB1 at h1
        split at h1
        · cases h1
          exact Or.inr List.mem_cons_self
        · exact Or.inl h1
      · exact Or.inr (List.mem_cons_of_mem _ h1)
  rcases key K none h with h1 | h1
  · cases h1
  · exact h1
theorem l_best {k cap ro c s : Nat} {t : Int} {dr : Int32} {K : List zE} {h : xH} (hr : zVr v fi sz gr) (hro : 36 ≤ ro ∧ ro < 42) (hk : k < 8) (ht : -1000 ≤ t ∧ t ≤ 1000) (hK : K.length ≤ 240) (hV : zVo h 8 v true fi sz gr dr [.inr (36, v), .inr (38, v), .inr (40, v)]) (hA : zAL h ro v cap (zNm K)) (hks : zKs h K) : ∀ (n j : Nat) (b : Option zE), j + n = K.length → (∀ e, b = some e → zEr e ∧ zEn h e) →
    Q (.inl (some (zob ((K.drop j).foldl (zvB1 k t) b)))) c s h → zX (d + 3) 62 6 [(0, .inr (20, v)), (1, .inr (ro, v)), (2, zi (k : Int)), (3, zi t), (4, zob b), (5, zi (j : Int))] [] c s h Q := by
  obtain ⟨r1, r2, r3, r4⟩ := id hr
  intro n
  induction n with
  | zero =>
    intro j b hj hb q
    rw [List.drop_of_length_le (by omega)] at q
    cases b with
    | none => exact r_vbe0 (d := d + 2) (ks := zNm K) hr r1 r3 r4 hro hk ht (by rw [List.length_map]; exact hK) (by rw [List.length_map]; exact hj) hV hA q
    | some e => exact r_vbe1 (d := d + 2) (ks := zNm K) hr r1 r3 r4 hro hk ht (by rw [List.length_map]; exact hK) (by rw [List.length_map]; exact hj) hV hA q
  | succ n ih =>
    intro j b hj hb q
    have hlt : j < K.length := by omega
    have hx := List.getElem?_eq_getElem hlt
    obtain ⟨hP, hp⟩ := hks _ (List.getElem_mem hlt)
    obtain ⟨o1, o2, o3, o4, o5, o6⟩ := id hP
    rw [List.drop_eq_getElem_cons hlt, List.foldl_cons] at q
    have no : ¬ (zeK K[j] = k ∧ (zeT K[j] : Int) ≤ t ∧ zvBt b K[j] = false) → zX (d + 3) 62 6 [(0, .inr (20, v)), (1, .inr (ro, v)), (2, zi (k : Int)), (3, zi t), (4, zob b), (5, zi ((j : Int) + 1))] [] c s h Q := fun z => by
      rw [show zvB1 k t b K[j] = b from if_neg z] at q
      exact ih (j + 1) b (by omega) hb q
    have ys : (zeK K[j] = k ∧ (zeT K[j] : Int) ≤ t ∧ zvBt b K[j] = false) → zX (d + 3) 62 6 [(0, .inr (20, v)), (1, .inr (ro, v)), (2, zi (k : Int)), (3, zi t), (4, .inr (8, zeN K[j])), (5, zi ((j : Int) + 1))] [] c s h Q := fun z => by
      rw [show zvB1 k t b K[j] = some K[j] from if_pos z] at q
      exact ih (j + 1) (some K[j]) (by omega) (fun e he => by cases he; exact ⟨hP, hp⟩) q
    cases b with
    | none =>
      exact r_vbn (o := K[j]) (ks := zNm K) hr r1 r3 r4 hro hk ht (by rw [List.length_map]; exact hK) hP o2 o3 o4 o6 o5 (zbi_r _) (zbi_r _) (by rw [List.length_map]; exact hlt) (zmap_at hx) hV hp hA (fun z => no (fun y => z (by omega))) (fun _ z => no (fun y => by omega)) (fun z1 z2 => ys ⟨by omega, z2, rfl⟩)
    | some e =>
      obtain ⟨hE, he⟩ := hb e rfl
      obtain ⟨e1, e2, e3, e4, e5, e6⟩ := id hE
      refine r_vbs (e := e) (o := K[j]) (ks := zNm K) hr r1 r3 r4 hro hk ht (by rw [List.length_map]; exact hK) hE e2 e3 e4 e6 e5 (zbi_r _) (zbi_r _) hP o2 o3 o4 o6 o5 (zbi_r _) (zbi_r _) (by rw [List.length_map]; exact hlt) (zmap_at hx) hV he hp hA (fun z => no (fun y => z (by omega))) (fun _ z => no (fun y => by omega)) (fun _ _ z => no (fun y => ?_)) (fun z1 z2 z3 z4 => ys ⟨by omega, z2, ?_⟩) (fun z1 z2 z3 z4 z5 => ys ⟨by omega, z2, ?_⟩) (fun _ _ _ z4 z5 => no (fun y => ?_))
      · have y3 : (decide (zeT K[j] < zeT e) || (decide (zeT e = zeT K[j]) && decide (zeV K[j] < zeV e))) = false := y.2.2
        rw [decide_eq_true (show zeT K[j] < zeT e by omega)] at y3
        cases y3
      · show (decide (zeT K[j] < zeT e) || (decide (zeT e = zeT K[j]) && decide (zeV K[j] < zeV e))) = false
        rw [decide_eq_false (show ¬ zeT K[j] < zeT e by omega), decide_eq_false (show ¬ zeT e = zeT K[j] by omega)]
        rfl
      · show (decide (zeT K[j] < zeT e) || (decide (zeT e = zeT K[j]) && decide (zeV K[j] < zeV e))) = false
        rw [decide_eq_false (show ¬ zeT K[j] < zeT e by omega), decide_eq_false (show ¬ zeV K[j] < zeV e by omega)]
        simp
      · have y3 : (decide (zeT K[j] < zeT e) || (decide (zeT e = zeT K[j]) && decide (zeV K[j] < zeV e))) = false := y.2.2
        rw [decide_eq_true (show zeT e = zeT K[j] by omega), decide_eq_true z5] at y3
        simp at y3
theorem s_best {k cap ro c s : Nat} {t : Int} {dr : Int32} {K : List zE} {h : xH} (hr : zVr v fi sz gr) (hro : 36 ≤ ro ∧ ro < 42) (hk : k < 8) (ht : -1000 ≤ t ∧ t ≤ 1000) (hK : K.length ≤ 240) (hV : zVo h 8 v true fi sz gr dr [.inr (36, v), .inr (38, v), .inr (40, v)]) (hA : zAL h ro v cap (zNm K)) (hks : zKs h K)
    (q0 : zvBest k t K = none → Q (.inl (some (.inl .null))) c s h) (q1 : ∀ e, zvBest k t K = some e → zEr e → zEn h e → Q (.inl (some (.inr (8, zeN e)))) c s h) : zX (d + 3) 62 0 [(0, .inr (20, v)), (1, .inr (ro, v)), (2, zi (k : Int)), (3, zi t)] [] c s h Q := by
  obtain ⟨r1, r2, r3, r4⟩ := id hr
  refine r_vb0 (d := d + 3) (cap := 0) (ks := []) hr r1 r3 r4 hro hk ht (Nat.zero_le _) hV ?_
  refine l_best hr hro hk ht hK hV hA hks K.length 0 none (by omega) (fun e he => by cases he) ?_
  rw [List.drop_zero]
  show Q (.inl (some (zob (zvBest k t K)))) c s h
  cases hb : zvBest k t K with
  | none => exact q0 hb
  | some e => exact q1 e hb (hks e (zvBest_mem hb)).1 (hks e (zvBest_mem hb)).2
/-- a left row's result with the versions of a list -/
def zvRes (v : Nat) (K : List zE) (e : zE) : Int64 := match zvBest (zeK e) (zeT e : Int) K with
  | none => zro (v : Int) (zeK e : Int) (zeT e : Int) (-1) (Int32.ofInt (zeV e))
  | some b => zro (v : Int) (zeK e : Int) (zeT e : Int) (zeT b : Int) (Int32.ofInt (zeV e + zeV b))
theorem zvRes_nz {K : List zE} {e : zE} : ¬ zvRes v K e = 0 := by
  unfold zvRes
  split
  · exact zro_nz
  · exact zro_nz
end ZZ75
