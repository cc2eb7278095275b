set_option maxRecDepth 100000
section YB5
variable {v gr : Nat} {fi m b : Int}
theorem zJo.pre {J : List zE} {e : zE} (h : zJo (J ++ [e])) : zJo J := fun j x hx => h j x (by rw [List.getElem?_append_left (List.getElem?_eq_some_iff.mp hx).1]; exact hx)
theorem zJo.last {J : List zE} {e : zE} (h : zJo (J ++ [e])) : zeO e = J.length := h J.length e (by rw [List.getElem?_append_right (Nat.le_refl _), Nat.sub_self]; rfl)
theorem zvBf_app {J : List zE} {e : zE} : zvBf gr fi (J ++ [e]) = zvBf gr fi J ++ (if (zvtk gr fi e && !zeL e) = true then [e] else []) := by
  unfold zvBf
  rw [List.filter_append]
  congr 1
  cases h : (zvtk gr fi e && !zeL e) with
  | true => rw [zfil_pos (fun o => zvtk gr fi o && !zeL o) h]; rfl
  | false => rw [zfil_neg (fun o => zvtk gr fi o && !zeL o) h]; rfl
theorem zvTl_app {J : List zE} {e : zE} (j : Nat) : zvTl v gr fi (J ++ [e]) m j = if j = J.length then (if zvtk gr fi e = true ∧ zeL e = true ∧ (zeT e : Int) < m then zvRes v (zvBf gr fi (J ++ [e])) e else 0) else (match J[j]? with
    | some o => if zvtk gr fi o = true ∧ zeL o = true ∧ (zeT o : Int) < m then zvRes v (zvBf gr fi (J ++ [e])) o else 0
    | none => 0) := by
  unfold zvTl
  by_cases hj : j = J.length
  · subst hj
    rw [if_pos rfl, List.getElem?_append_right (Nat.le_refl _), Nat.sub_self]
    rfl
  · rw [if_neg hj]
    by_cases h2 : j < J.length
    · rw [List.getElem?_append_left h2]
      cases J[j]? <;> rfl
    · rw [List.getElem?_eq_none (by rw [List.length_append]; show J.length + 1 ≤ j; omega), List.getElem?_eq_none (by omega : J.length ≤ j)]
theorem zvTl_same {J : List zE} {e : zE} (hb : zvBf gr fi (J ++ [e]) = zvBf gr fi J) (hc : ¬ (zvtk gr fi e = true ∧ zeL e = true ∧ (zeT e : Int) < m)) (j : Nat) : zvTl v gr fi (J ++ [e]) m j = zvTl v gr fi J m j := by
  rw [zvTl_app, hb]
  by_cases hj : j = J.length
  · rw [if_pos hj, if_neg hc]
    unfold zvTl
    rw [List.getElem?_eq_none (by omega)]
  · rw [if_neg hj]
    rfl
theorem zfil_sing {p : zE → Bool} {J : List zE} {e : zE} : (J ++ [e]).filter p = J.filter p ++ (if p e = true then [e] else []) := by
  rw [List.filter_append]
  congr 1
  cases h : p e with
  | true => rw [zfil_pos p h]; rfl
  | false => rw [zfil_neg p h]; rfl
set_option maxHeartbeats 1000000 in
theorem zvTake_iv {J : List zE} {X : zVX} {e : zE} (hv : v < 5) (hJ72 : J.length < 72) (hJo : zJo (J ++ [e])) (hle : zLet true fi e = true) (hm : zeA e = m) (h : zvIv v gr fi J m X) : zvIv v gr fi (J ++ [e]) m (zvTake v gr e X) ∧ zTs v 240 144 (X.1, X.2.2.2.2.2) ((zvTake v gr e X).1, (zvTake v gr e X).2.2.2.2.2) := by
  obtain ⟨h1, h2, h3, h4, h5⟩ := h
  have hJp := hJo.pre
  have hoe := hJo.last
  have hAJ : ∀ o ∈ X.2.2.2.1, o ∈ J := fun o ho => by
    rw [h1] at ho
    exact (List.mem_filter.mp ho).1
  have h240 : ∀ o ∈ J, zeO o < J.length := fun o ho => (List.getElem?_eq_some_iff.mp (hJp.at ho)).1
  have hAl : X.2.2.2.1.length ≤ J.length := by
    rw [h1]
    exact List.length_filter_le _ _
  unfold zvTake
  by_cases hd : (zeT e : Int) + (gr : Int) < zeA e
  · have ht : zvtk gr fi e = false := by
      unfold zvtk
      rw [decide_eq_false (by omega), Bool.and_false]
    have hb : zvBf gr fi (J ++ [e]) = zvBf gr fi J := by
      rw [zvBf_app, ht]
      exact List.append_nil _
    rw [if_pos hd]
    refine ⟨⟨?_, ?_, ?_, fun j => ?_, h5⟩, zTs.rf.le (Nat.zero_le _)⟩
    · show X.2.2.2.1 = _
      rw [zfil_sing, ht, ← h1]
      exact (List.append_nil _).symm
    · rw [hb]; exact h2
    · rw [hb]; exact h3
    · rw [zvTl_same hb (by rw [ht]; intro z; exact absurd z.1 (by decide))]
      exact h4 j
  · have ht : zvtk gr fi e = true := by
      unfold zvtk
      rw [hle, decide_eq_true (by omega)]
      rfl
    rw [if_neg hd]
    have hk1 : ∀ k, zAd X.2.1 (zeK e) (Int32.ofInt 1) k = Int32.ofInt ((zkc k X.2.2.2.1 + zkc k X.2.2.2.2.1 + (if zeK e = k then 1 else 0) : Nat) : Int) := fun k => by
      rw [zAd_at]
      by_cases hk : k = zeK e
      · subst hk
        rw [if_pos rfl, if_pos rfl, h5, ← Int32.ofInt_add]
        rfl
      · rw [if_neg hk, if_neg (fun z => hk z.symm), h5]
        rfl
    by_cases hL : zbi (zeL e) = 0
    · rw [if_pos hL]
      have hLf := zbi_L.mp hL
      have hb : zvBf gr fi (J ++ [e]) = zvBf gr fi J ++ [e] := by
        rw [zvBf_app, ht, hLf]
        rfl
      obtain ⟨a1, a2⟩ := zvAn_at (v := v) (Vs := X.2.2.2.2.1 ++ [e]) (k := zeK e) hJp X.2.2.2.1 (X.1, X.2.2.2.2.2) hAJ
      refine ⟨⟨?_, fun o ho => ?_, fun k t hkt => ?_, fun j => ?_, fun k => ?_⟩, (zvAn_ts hv X.2.2.2.1 (X.1, X.2.2.2.2.2) (fun o ho => by have := h240 o (hAJ o ho); omega)).le (by omega)⟩
      · show X.2.2.2.1 = _
        rw [zfil_sing, ht, hLf, ← h1]
        exact (List.append_nil _).symm
      · rw [hb]
        have ho : o ∈ X.2.2.2.2.1 ++ [e] := ho
        rcases List.mem_append.mp ho with z | z
        · exact List.mem_append_left _ (h2 o z)
        · exact List.mem_append_right _ z
      · show zvBest k t (X.2.2.2.2.1 ++ [e]) = _
        rw [hb, zvBest_app, zvBest_app, h3 k t hkt]
      · show (zvAn v (X.2.2.2.2.1 ++ [e]) (zeK e) X.2.2.2.1 (X.1, X.2.2.2.2.2)).1 j = _
        rw [zvTl_app, hb]
        have hx4 : X.1 j = zvTl v gr fi J m j := h4 j
        by_cases hj : j = J.length
        · rw [if_pos hj, if_neg (by rw [hLf]; intro z; exact absurd z.2.1 (by decide)), a2 j (fun o ho => by rw [List.getElem?_eq_none (by omega)] at ho; cases ho)]
          show X.1 j = 0
          rw [hx4]
          unfold zvTl
          rw [List.getElem?_eq_none (by omega)]
        · rw [if_neg hj]
          cases hx : J[j]? with
          | none =>
            rw [a2 j (fun o ho => by rw [hx] at ho; cases ho)]
            show X.1 j = 0
            rw [hx4]
            unfold zvTl
            rw [hx]
          | some o =>
            dsimp only
            have hx5 : X.1 j = if zvtk gr fi o = true ∧ zeL o = true ∧ (zeT o : Int) < m then zvRes v (zvBf gr fi J) o else 0 := by
              rw [hx4]
              unfold zvTl
              rw [hx]
            by_cases c : zvtk gr fi o = true ∧ zeL o = true ∧ (zeT o : Int) < m
            · rw [if_pos c] at hx5 ⊢
              have hno : ¬ (zeK o = zeK e ∧ m ≤ (zeT o : Int) + (gr : Int)) → zvRes v (zvBf gr fi J) o = zvRes v (zvBf gr fi J ++ [e]) o := fun hn => by
                apply zvRes_eq
                rw [zvBest_app]
                have he : zvBest (zeK o) (zeT o : Int) [e] = none := by
                  rw [show zvBest (zeK o) (zeT o : Int) [e] = zmg (zel (zeK o) (zeT o : Int) e) none from zvBest_cons _ _ _ _, zmg_n]
                  refine if_neg (fun z => hn ⟨z.1.symm, ?_⟩)
                  omega
                rw [he, zmg_n]
              by_cases c2 : zeK o = zeK e ∧ m ≤ (zeT o : Int) + (gr : Int)
              · have hoA : o ∈ X.2.2.2.1 := by
                  rw [h1]
                  refine List.mem_filter.mpr ⟨List.mem_of_getElem? hx, ?_⟩
                  rw [c.1, c.2.1, decide_eq_true c2.2]
                  rfl
                rw [a1 j o hx hoA c2.1 (by show ¬ X.1 j = 0; rw [hx5]; exact zvRes_nz)]
                apply zvRes_eq
                rw [zvBest_app, zvBest_app, h3 _ _ (by omega)]
              · rw [a2 j (fun o2 ho2 z => ?_)]
                · show X.1 j = _
                  rw [hx5]
                  exact hno c2
                · rw [hx] at ho2
                  cases ho2
                  refine c2 ⟨z.2.1, ?_⟩
                  have := z.1
                  rw [h1] at this
                  have := (List.mem_filter.mp this).2
                  simp only [Bool.and_eq_true, decide_eq_true_eq] at this
                  exact this.2.2
            · rw [if_neg c] at hx5 ⊢
              rw [a2 j (fun o2 ho2 z => z.2.2 hx5)]
              exact hx5
      · show zAd X.2.1 (zeK e) (Int32.ofInt 1) k = Int32.ofInt ((zkc k X.2.2.2.1 + zkc k (X.2.2.2.2.1 ++ [e]) : Nat) : Int)
        rw [hk1, zkc_app]
        congr 1
        show _ = ((zkc k X.2.2.2.1 + (zkc k X.2.2.2.2.1 + ((if zeK e = k then 1 else 0) + 0)) : Nat) : Int)
        omega
    · rw [if_neg hL]
      have hLt := zbi_1.mp hL
      have hb : zvBf gr fi (J ++ [e]) = zvBf gr fi J := by
        rw [zvBf_app, hLt, Bool.not_true, Bool.and_false]
        exact List.append_nil _
      have hA2 : X.2.2.2.1 ++ [e] = (J ++ [e]).filter (fun o => zvtk gr fi o && (zeL o && decide (m ≤ (zeT o : Int) + (gr : Int)))) := by
        rw [zfil_sing, ht, hLt, decide_eq_true (by omega), ← h1]
        rfl
      have hk2 : ∀ k, zAd X.2.1 (zeK e) (Int32.ofInt 1) k = Int32.ofInt ((zkc k (X.2.2.2.1 ++ [e]) + zkc k X.2.2.2.2.1 : Nat) : Int) := fun k => by
        rw [hk1, zkc_app]
        congr 1
        show _ = ((zkc k X.2.2.2.1 + ((if zeK e = k then 1 else 0) + 0) + zkc k X.2.2.2.2.1 : Nat) : Int)
        omega
      have hnone : X.1 (zeO e) = 0 := by
        rw [hoe, h4]
        unfold zvTl
        rw [List.getElem?_eq_none (Nat.le_refl _)]
      by_cases hdue : zeA e ≤ (zeT e : Int)
      · rw [if_pos hdue]
        refine ⟨⟨hA2, ?_, ?_, fun j => ?_, hk2⟩, zTs.rf.le (Nat.zero_le _)⟩
        · rw [hb]; exact h2
        · rw [hb]; exact h3
        · rw [zvTl_same hb (fun z => by have := z.2.2; omega)]
          exact h4 j
      · rw [if_neg hdue]
        refine ⟨⟨hA2, ?_, ?_, fun j => ?_, hk2⟩, (zTs.tell (by rw [hoe]; omega) hnone (zvRes_gd hv)).le (by omega)⟩
        · rw [hb]; exact h2
        · rw [hb]; exact h3
        · show (if j = zeO e then zvRes v X.2.2.2.2.1 e else X.1 j) = _
          rw [hoe, zvTl_app, hb]
          by_cases hj : j = J.length
          · rw [if_pos hj, if_pos hj, if_pos ⟨ht, hLt, by omega⟩]
            apply zvRes_eq
            exact h3 _ _ (by omega)
          · rw [if_neg hj, if_neg hj]
            exact h4 j
theorem zvG_rm : ∀ (n : Nat) (G : List zE × (Nat → Int32)), zvG gr m n G = zRm (fun e => decide ((zeT e : Int) + (gr : Int) < m)) n G := by
  intro n
  induction n with
  | zero => intro G; rfl
  | succ n ih =>
    intro G
    show zvG gr m n _ = zRm _ n _
    rw [ih]
    congr 1
    cases G.1[n]? with
    | none => rfl
    | some e =>
      show (if _ then _ else _) = if decide _ = true then _ else _
      by_cases h : (zeT e : Int) + (gr : Int) < m
      · rw [if_pos h, if_pos (decide_eq_true h)]
      · rw [if_neg h, if_neg (by rw [decide_eq_false h]; decide)]
set_option maxHeartbeats 1000000 in
theorem zvDG_iv {J : List zE} {X : zVX} (hv : v < 5) (hJ72 : J.length ≤ 72) (hJo : zJo J) (hbm : b ≤ m) (h : zvIv v gr fi J b X) : zvIv v gr fi J m (zvGo gr m (zvDue v m X)) ∧ zTs v 240 72 (X.1, X.2.2.2.2.2) ((zvDue v m X).1, (zvDue v m X).2.2.2.2.2) := by
  obtain ⟨h1, h2, h3, h4, h5⟩ := h
  have hAJ : ∀ o ∈ X.2.2.2.1, o ∈ J := fun o ho => by
    rw [h1] at ho
    exact (List.mem_filter.mp ho).1
  have h240 : ∀ o ∈ J, zeO o < J.length := fun o ho => (List.getElem?_eq_some_iff.mp (hJo.at ho)).1
  have hAl : X.2.2.2.1.length ≤ J.length := by
    rw [h1]
    exact List.length_filter_le _ _
  have hun := zun_le (m := m) (fa := X.1) X.2.2.2.1
  obtain ⟨a1, a2, a3⟩ := zvD_ok (m := m) (Vs := X.2.2.2.2.1) hv hJo hAJ (fun o ho => by have := h240 o (hAJ o ho); omega) 240 (X.1, X.2.2.2.2.2) (by show zun m X.1 X.2.2.2.1 ≤ 240; omega)
  refine ⟨⟨?_, fun o ho => ?_, fun k t hkt => ?_, fun j => ?_, ?_⟩, a3.le (by show zun m X.1 X.2.2.2.1 ≤ 72; omega)⟩
  · show (zvG gr m X.2.2.2.1.length (X.2.2.2.1, X.2.1)).1 = _
    rw [zvG_rm, zRm_all, h1, List.filter_filter]
    refine List.filter_congr (fun o _ => ?_)
    by_cases hc : (zeT o : Int) + (gr : Int) < m
    · rw [decide_eq_true hc, decide_eq_false (by omega : ¬ m ≤ (zeT o : Int) + (gr : Int))]
      simp
    · rw [decide_eq_false hc, decide_eq_true (by omega : m ≤ (zeT o : Int) + (gr : Int)), decide_eq_true (by omega : b ≤ (zeT o : Int) + (gr : Int))]
      simp
  · exact h2 o (zvH_sub _ _ o ho)
  · show zvBest k t (zvH (m - (gr : Int)) X.2.2.2.2.1.length (X.2.2.2.2.1, (zvG gr m X.2.2.2.1.length (X.2.2.2.1, X.2.1)).2)).1 = _
    rw [(zvH_ok (fun _ => 0) _ _ _).1 k t hkt]
    exact h3 k t (by omega)
  · show (zvD v m X.2.2.2.1 X.2.2.2.2.1 240 (zvNext m X.1 X.2.2.2.1) (X.1, X.2.2.2.2.2)).1 j = _
    have hx4 : X.1 j = zvTl v gr fi J b j := h4 j
    unfold zvTl at hx4 ⊢
    cases hx : J[j]? with
    | none =>
      rw [hx] at hx4
      exact (a2 j (fun o ho => by rw [hx] at ho; cases ho)).trans hx4
    | some o =>
      rw [hx] at hx4
      dsimp only at hx4 ⊢
      by_cases c : zvtk gr fi o = true ∧ zeL o = true ∧ (zeT o : Int) < m
      · rw [if_pos c]
        by_cases hb : (zeT o : Int) < b
        · rw [if_pos ⟨c.1, c.2.1, hb⟩] at hx4
          rw [← hx4]
          refine a2 j (fun o2 ho2 z => ?_)
          have z3 : X.1 j = 0 := z.2.2
          rw [hx4] at z3
          exact zvRes_nz z3
        · rw [if_neg (fun z => hb z.2.2)] at hx4
          have hoA : o ∈ X.2.2.2.1 := by
            rw [h1]
            refine List.mem_filter.mpr ⟨List.mem_of_getElem? hx, ?_⟩
            rw [c.1, c.2.1, decide_eq_true (by omega)]
            rfl
          refine (a1 j o hx hoA c.2.2 hx4).trans ?_
          apply zvRes_eq
          exact h3 _ _ (by omega)
      · rw [if_neg c]
        rw [if_neg (fun z => c ⟨z.1, z.2.1, by omega⟩)] at hx4
        refine (a2 j (fun o2 ho2 z => ?_)).trans hx4
        rw [hx] at ho2
        cases ho2
        have := z.1
        rw [h1] at this
        have := (List.mem_filter.mp this).2
        simp only [Bool.and_eq_true, decide_eq_true_eq] at this
        exact c ⟨this.1, this.2.1, z.2.1⟩
  · show ∀ k, (zvH (m - (gr : Int)) X.2.2.2.2.1.length (X.2.2.2.2.1, (zvG gr m X.2.2.2.1.length (X.2.2.2.1, X.2.1)).2)).2 k = Int32.ofInt ((zkc k (zvG gr m X.2.2.2.1.length (X.2.2.2.1, X.2.1)).1 + zkc k (zvH (m - (gr : Int)) X.2.2.2.2.1.length (X.2.2.2.2.1, (zvG gr m X.2.2.2.1.length (X.2.2.2.1, X.2.1)).2)).1 : Nat) : Int)
    have e1 := zRm_cnt (fun e => decide ((zeT e : Int) + (gr : Int) < m)) (fun k => zkc k X.2.2.2.2.1) X.2.2.2.1.length X.2.2.2.1 X.2.1 h5
    rw [← zvG_rm] at e1
    have e2 := (zvH_ok (lm := m - (gr : Int)) (fun k => zkc k (zvG gr m X.2.2.2.1.length (X.2.2.2.1, X.2.1)).1) X.2.2.2.2.1.length X.2.2.2.2.1 (zvG gr m X.2.2.2.1.length (X.2.2.2.1, X.2.1)).2).2 (fun k => (e1 k).trans (by rw [Nat.add_comm]))
    exact fun k => (e2 k).trans (by rw [Nat.add_comm])
end YB5
