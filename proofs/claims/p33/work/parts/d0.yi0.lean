set_option maxRecDepth 100000
section YD0
variable {v : Nat} {C : zCf} {m b : Int} {S : zSt} {J : List zE} {e : zE} {out : List Int64}
/-- entries of a journal: their parts, keys, times, values, places -/
def zJz (J : List zE) : Prop := ∀ (j : Nat) (e : zE), J[j]? = some e → zeP e < 3 ∧ zeK e < 8 ∧ zeT e < 90 ∧ (-99 ≤ zeV e ∧ zeV e ≤ 99) ∧ zeO e = j
theorem zJz.pre (h : zJz (J ++ [e])) : zJz J := fun j x hx => h j x (by rw [List.getElem?_append_left (List.getElem?_eq_some_iff.mp hx).1]; exact hx)
theorem zJz.last (h : zJz (J ++ [e])) : zeP e < 3 ∧ zeK e < 8 ∧ zeT e < 90 ∧ (-99 ≤ zeV e ∧ zeV e ≤ 99) ∧ zeO e = J.length := h J.length e (by rw [List.getElem?_append_right (Nat.le_refl _), Nat.sub_self]; rfl)
theorem zJz.mem (h : zJz J) {x : zE} (hx : x ∈ J) : zeP x < 3 ∧ zeK x < 8 ∧ zeT x < 90 := by
  obtain ⟨i, hi⟩ := List.getElem?_of_mem hx
  have := h i x hi
  exact ⟨this.1, this.2.1, this.2.2.1⟩
theorem zJz.jo (h : zJz J) : zJo J := fun j x hx => (h j x hx).2.2.2.2
/-- a view of any kind behind a journal -/
def zuIv (v : Nat) (C : zCf) (J : List zE) (m : Int) (S : zSt) : Prop :=
  (C.1 = 9 ∧ 1 ≤ C.2.2.2.2.2 ∧ zwIv v C.2.2.1 C.2.2.2.1 C.2.2.2.2.2 C.2.2.2.2.1 C.2.1 J m (zuW (S, [])) ∧ zuA S = [] ∧ zuB S = []) ∨
  (C.1 = 6 ∧ zsIv v C.2.2.1 C.2.2.2.1 C.2.2.2.2.1 C.2.1 J m (zuS (S, [])) ∧ zuA S = [] ∧ zuB S = []) ∨
  (C.1 = 2 ∧ zjIv v C.2.2.1 C.2.2.2.1 C.2.1 J m (zuJ (S, [])) ∧ zuB S = []) ∨
  (C.1 = 8 ∧ zvIv v C.2.2.2.1 C.2.1 J m (zuV (S, [])) ∧ (zuB S).length ≤ J.length)
theorem zlen1 : (J ++ [e]).length = J.length + 1 := by rw [List.length_append]; rfl
theorem zwJ_app {sz gr sp : Nat} {fi : Int} {G : (Nat → Int32) × (Nat → Int32)} : zwJ sz gr sp fi (J ++ [e]) G = if zLet false fi e = true then zwAga sz gr sp e (zwJ sz gr sp fi J G) else zwJ sz gr sp fi J G := by
  unfold zwJ
  rw [List.foldl_append]
  rfl
theorem zsIv.no {sz gr : Nat} {me fi : Int} {X : zSX} (hb : zjtk false sz gr fi e = false) (h : zsIv v sz gr me fi J m X) : zsIv v sz gr me fi (J ++ [e]) m X := by
  have e1 : ∀ k, zsP sz gr fi (J ++ [e]) k = zsP sz gr fi J k := fun k => by unfold zsP; rw [zsm_no hb]
  have e2 : ∀ k f l, zsN sz gr fi (J ++ [e]) k f l = zsN sz gr fi J k f l := fun k f l => by unfold zsN; rw [zsm_no hb]
  have e3 : ∀ k f l, zsSu sz gr fi (J ++ [e]) k f l = zsSu sz gr fi J k f l := fun k f l => by unfold zsSu; rw [zss_no hb]
  obtain ⟨i1, i2, i3, i4, i5, i6, i7⟩ := h
  refine ⟨fun k l f hk8 hl8 hc hmm => ?_, fun k l hk8 hl8 hn => ?_, fun k l f hk8 hl8 hc hmm => ?_, fun k l hk8 hl8 hn => ?_, i5, i6, i7⟩
  · rw [e2, e3]
    rw [e1] at hc
    exact i1 k l f hk8 hl8 hc hmm
  · rw [e1] at hn
    exact i2 k l hk8 hl8 hn
  · rw [zsR_eq (e2 k f l) (e3 k f l)]
    rw [e1] at hc
    exact i3 k l f hk8 hl8 hc hmm
  · rw [e1] at hn
    exact i4 k l hk8 hl8 hn
theorem zjtk_no {bs : Bool} {sz gr : Nat} {fi : Int} (h : zLet bs fi e = false) : zjtk bs sz gr fi e = false := by
  unfold zjtk
  rw [h]
  rfl
theorem zvtk_no {gr : Nat} {fi : Int} (h : zLet true fi e = false) : zvtk gr fi e = false := by
  unfold zvtk
  rw [h]
  rfl
theorem zbs_f (h : C.1 = 9 ∨ C.1 = 6) : zbs C = false := by
  unfold zbs
  rcases h with h | h <;> rw [h] <;> rfl
theorem zbs_t (h : C.1 = 2 ∨ C.1 = 8) : zbs C = true := by
  unfold zbs
  rcases h with h | h <;> rw [h] <;> rfl
/-- a row that isn't let in -/
theorem zuIv.no (hle : zLet (zbs C) C.2.1 e = false) (h : zuIv v C J m S) : zuIv v C (J ++ [e]) m S := by
  rcases h with ⟨c, hs, ⟨⟨h1, h2⟩, h3⟩, hA, hB⟩ | ⟨c, h, hA, hB⟩ | ⟨c, ⟨h1, h2, h3⟩, hB⟩ | ⟨c, ⟨h1, h2, h3, h4, h5⟩, hB⟩
  · rw [zbs_f (Or.inl c)] at hle
    refine Or.inl ⟨c, hs, ⟨⟨fun j => ?_, h2⟩, ?_⟩, hA, hB⟩
    · obtain ⟨n, n1, n2⟩ := h1 j
      exact ⟨n, by rw [zlen1]; omega, n2⟩
    · rw [zwJ_app, if_neg (by rw [hle]; decide)]
      exact h3
  · rw [zbs_f (Or.inr c)] at hle
    exact Or.inr (Or.inl ⟨c, h.no (zjtk_no hle), hA, hB⟩)
  · rw [zbs_t (Or.inl c)] at hle
    have hj := zjtk_no (sz := C.2.2.1) (gr := C.2.2.2.1) hle
    refine Or.inr (Or.inr (Or.inl ⟨c, ⟨?_, ?_, h3⟩, hB⟩))
    · rw [zfil_sing, if_neg (by rw [hj, Bool.false_and]; decide), List.append_nil]
      exact h1
    · have : zjR v C.2.2.1 C.2.2.2.1 C.2.1 J e = [] := by
        unfold zjR
        rw [if_neg (by rw [hj]; decide)]
      rw [zjL_app, this, List.append_nil]
      exact h2
  · rw [zbs_t (Or.inr c)] at hle
    have hj := zvtk_no (gr := C.2.2.2.1) hle
    have hb : zvBf C.2.2.2.1 C.2.1 (J ++ [e]) = zvBf C.2.2.2.1 C.2.1 J := by
      rw [zvBf_app, if_neg (by rw [hj, Bool.false_and]; decide), List.append_nil]
    refine Or.inr (Or.inr (Or.inr ⟨c, ⟨?_, ?_, ?_, fun j => ?_, h5⟩, by rw [zlen1]; omega⟩))
    · rw [zfil_sing, if_neg (by rw [hj, Bool.false_and]; decide), List.append_nil]
      exact h1
    · rw [hb]; exact h2
    · rw [hb]; exact h3
    · rw [zvTl_same hb (fun z => by rw [hj] at z; exact absurd z.1 (by decide))]
      exact h4 j
/-- a row that is let in -/
theorem zuIv.take (hv : v < 5) (hJ : J.length < 72) (hw : zJz (J ++ [e])) (hle : zLet (zbs C) C.2.1 e = true) (hm : zeA e = m) (h : zuIv v C J m S) : zuIv v C (J ++ [e]) m (zuTake v C e (S, out)).1 ∧ zTs v (zuL C) 182 (S.1, out) ((zuTake v C e (S, out)).1.1, (zuTake v C e (S, out)).2) := by
  obtain ⟨w1, w2, w3, w4, w5⟩ := hw.last
  rcases h with ⟨c, hs, ⟨h1, h3⟩, hA, hB⟩ | ⟨c, h, hA, hB⟩ | ⟨c, h, hB⟩ | ⟨c, h, hB⟩
  · rw [zbs_f (Or.inl c)] at hle
    have hco : zwCo v C.2.2.1 C.2.2.2.1 C.2.2.2.2.2 C.2.2.2.2.1 m (1000 * J.length) (zuW (S, out)) := h1
    obtain ⟨a1, a2, a3⟩ := zwTake_co (e := e) hs (by omega) w2 hm (by omega) hco
    unfold zuTake zuL
    rw [if_pos c, if_pos c]
    refine ⟨Or.inl ⟨c, hs, ⟨?_, ?_⟩, hA, hB⟩, (a2 hv).le ?_⟩
    · rw [zlen1]
      exact a1
    · rw [zwJ_app, if_pos hle, ← h3]
      exact a3
    · have : zeT e / C.2.2.2.2.2 ≤ zeT e := Nat.div_le_self _ _
      omega
  · rw [zbs_f (Or.inr c)] at hle
    have hiv : zsIv v C.2.2.1 C.2.2.2.1 C.2.2.2.2.1 C.2.1 J m (zuS (S, out)) := h
    obtain ⟨a1, a2⟩ := zsTake_iv hv hJ w2 (by omega) (fun o ho => by have := (hw.pre.mem ho).2.2; omega) hle hm hiv
    have c9 : ¬ C.1 = 9 := by omega
    unfold zuTake zuL
    rw [if_neg c9, if_pos c, if_neg c9, if_pos c]
    exact ⟨Or.inr (Or.inl ⟨c, a1, hA, hB⟩), a2.le (by omega)⟩
  · rw [zbs_t (Or.inl c)] at hle
    have hiv : zjIv v C.2.2.1 C.2.2.2.1 C.2.1 J m (zuJ (S, out)) := h
    obtain ⟨a1, a2⟩ := zjTake_iv hv hJ hle hm hiv
    have c9 : ¬ C.1 = 9 := by omega
    have c6 : ¬ C.1 = 6 := by omega
    unfold zuTake zuL
    rw [if_neg c9, if_neg c6, if_pos c, if_neg c9, if_neg c6, if_pos c]
    exact ⟨Or.inr (Or.inr (Or.inl ⟨c, a1, hB⟩)), a2.le (by omega)⟩
  · rw [zbs_t (Or.inr c)] at hle
    have hiv : zvIv v C.2.2.2.1 C.2.1 J m (zuV (S, out)) := h
    obtain ⟨a1, a2⟩ := zvTake_iv hv hJ hw.jo hle hm hiv
    have c9 : ¬ C.1 = 9 := by omega
    have c6 : ¬ C.1 = 6 := by omega
    have c2 : ¬ C.1 = 2 := by omega
    unfold zuTake zuL
    rw [if_neg c9, if_neg c6, if_neg c2, if_neg c9, if_neg c6, if_neg c2]
    refine ⟨Or.inr (Or.inr (Or.inr ⟨c, a1, ?_⟩)), a2.le (by omega)⟩
    rw [zlen1]
    show (zvTake v C.2.2.2.1 e (zuV (S, out))).2.2.2.2.1.length ≤ _
    have hB2 : (zuV (S, out)).2.2.2.2.1.length ≤ J.length := hB
    generalize zuV (S, out) = X at hB2 ⊢
    have hl : (X.2.2.2.2.1 ++ [e]).length = X.2.2.2.2.1.length + 1 := zlen1
    unfold zvTake
    split
    · show X.2.2.2.2.1.length ≤ _
      omega
    · split
      · show (X.2.2.2.2.1 ++ [e]).length ≤ _
        omega
      · split
        · show X.2.2.2.2.1.length ≤ _
          omega
        · show X.2.2.2.2.1.length ≤ _
          omega
theorem zvH_len {lm : Int} : ∀ (n : Nat) (G : List zE × (Nat → Int32)), (zvH lm n G).1.length ≤ G.1.length := by
  intro n
  induction n with
  | zero => intro G; exact Nat.le_refl _
  | succ n ih =>
    intro G
    refine Nat.le_trans (ih _) ?_
    split
    · split
      · exact List.length_eraseIdx_le _ _
      · exact Nat.le_refl _
    · exact Nat.le_refl _
/-- due ones, and what is let go -/
theorem zuIv.dg (hv : v < 5) (hJ : J.length ≤ 72) (hw : zJz J) (hb : -1 ≤ b) (hbm : b ≤ m) (h : zuIv v C J b S) : zuIv v C J m (zuGo C b m (zuDue v C b m (S, out))).1 ∧ zTs v (zuL C) (72 + 16 * (m - b).toNat) (S.1, out) ((zuGo C b m (zuDue v C b m (S, out))).1.1, (zuGo C b m (zuDue v C b m (S, out))).2) ∧ (zuGo C b m (zuDue v C b m (S, out))).2 = (zuDue v C b m (S, out)).2 ∧ zuA (zuDue v C b m (S, out)).1 = zuA S ∧ zuB (zuDue v C b m (S, out)).1 = zuB S ∧ (C.1 = 2 → (zuDue v C b m (S, out)).1.1 = S.1) := by
  rcases h with ⟨c, hs, ⟨h1, h3⟩, hA, hB⟩ | ⟨c, h, hA, hB⟩ | ⟨c, h, hB⟩ | ⟨c, h, hB⟩
  · have hco : zwCo v C.2.2.1 C.2.2.2.1 C.2.2.2.2.2 C.2.2.2.2.1 b (1000 * J.length) (zuW (S, out)) := h1
    have a1 := zwDG_co hs hb hbm hco
    have a2 := (zwDue_co hs hb hbm hco).2 hv
    unfold zuGo zuDue zuL
    rw [if_pos c, if_pos c, if_pos c]
    exact ⟨Or.inl ⟨c, hs, ⟨a1, h3⟩, hA, hB⟩, a2.le (by omega), rfl, rfl, rfl, fun z => by omega⟩
  · have hiv : zsIv v C.2.2.1 C.2.2.2.1 C.2.2.2.2.1 C.2.1 J b (zuS (S, out)) := h
    obtain ⟨a1, a2⟩ := zsDG_iv hv hJ hbm hiv
    have c9 : ¬ C.1 = 9 := by omega
    unfold zuGo zuDue zuL
    rw [if_neg c9, if_pos c, if_neg c9, if_pos c, if_neg c9, if_pos c]
    exact ⟨Or.inr (Or.inl ⟨c, a1, hA, hB⟩), a2.le (by omega), rfl, rfl, rfl, fun z => by omega⟩
  · have hiv : zjIv v C.2.2.1 C.2.2.2.1 C.2.1 J b (zuJ (S, out)) := h
    have a1 := zjGo_iv (m := m) hbm hiv
    have c9 : ¬ C.1 = 9 := by omega
    have c6 : ¬ C.1 = 6 := by omega
    unfold zuGo zuDue zuL
    rw [if_neg c9, if_neg c6, if_pos c, if_neg c9, if_neg c6, if_pos c, if_neg c9, if_neg c6, if_pos c]
    exact ⟨Or.inr (Or.inr (Or.inl ⟨c, a1, hB⟩)), zTs.rf.le (Nat.zero_le _), rfl, rfl, rfl, fun _ => rfl⟩
  · have hiv : zvIv v C.2.2.2.1 C.2.1 J b (zuV (S, out)) := h
    obtain ⟨a1, a2⟩ := zvDG_iv hv hJ hw.jo hbm hiv
    have c9 : ¬ C.1 = 9 := by omega
    have c6 : ¬ C.1 = 6 := by omega
    have c2 : ¬ C.1 = 2 := by omega
    unfold zuGo zuDue zuL
    rw [if_neg c9, if_neg c6, if_neg c2, if_neg c9, if_neg c6, if_neg c2, if_neg c9, if_neg c6, if_neg c2]
    refine ⟨Or.inr (Or.inr (Or.inr ⟨c, a1, ?_⟩)), a2.le (by omega), rfl, rfl, rfl, fun z => absurd z c2⟩
    exact Nat.le_trans (zvH_len _ _) hB
/-- found is told -/
theorem zuIv.fo (hv : v < 5) (hJ : J.length ≤ 72) (hw : zJz J) (h : zuIv v C J m S) : zuFo v C J m = S.1 := by
  rcases h with ⟨c, hs, h, hA, hB⟩ | ⟨c, h, hA, hB⟩ | ⟨c, h, hB⟩ | ⟨c, h, hB⟩
  · unfold zuFo
    rw [if_pos c]
    exact h.found hs
  · have c9 : ¬ C.1 = 9 := by omega
    unfold zuFo
    rw [if_neg c9, if_pos c]
    exact h.found hJ (fun e he => (hw.mem he).2.1) (fun e he => by have := (hw.mem he).2.2; omega)
  · have c9 : ¬ C.1 = 9 := by omega
    have c6 : ¬ C.1 = 6 := by omega
    unfold zuFo
    rw [if_neg c9, if_neg c6, if_pos c, zjFound_L hv hJ]
    exact h.2.1.symm
  · have c9 : ¬ C.1 = 9 := by omega
    have c6 : ¬ C.1 = 6 := by omega
    have c2 : ¬ C.1 = 2 := by omega
    unfold zuFo
    rw [if_neg c9, if_neg c6, if_neg c2]
    funext j
    rw [zvFound_at hw.jo]
    exact (h.2.2.2.1 j).symm
/-- its lists -/
theorem zuIv.ls (h : zuIv v C J m S) : (∀ o ∈ zuA S, o ∈ J) ∧ (zuA S).length ≤ J.length ∧ (∀ o ∈ zuB S, o ∈ J) ∧ (zuB S).length ≤ J.length := by
  rcases h with ⟨c, hs, h, hA, hB⟩ | ⟨c, h, hA, hB⟩ | ⟨c, h, hB⟩ | ⟨c, h, hB⟩
  · rw [hA, hB]
    exact ⟨fun o ho => (by cases ho), Nat.zero_le _, fun o ho => (by cases ho), Nat.zero_le _⟩
  · rw [hA, hB]
    exact ⟨fun o ho => (by cases ho), Nat.zero_le _, fun o ho => (by cases ho), Nat.zero_le _⟩
  · have h1 : zuA S = _ := h.1
    rw [h1, hB]
    exact ⟨fun o ho => (List.mem_filter.mp ho).1, List.length_filter_le _ _, fun o ho => (by cases ho), Nat.zero_le _⟩
  · have h1 : zuA S = _ := h.1
    have h2 : ∀ o ∈ zuB S, o ∈ zvBf C.2.2.2.1 C.2.1 J := h.2.1
    refine ⟨fun o ho => ?_, ?_, fun o ho => (List.mem_filter.mp (h2 o ho)).1, hB⟩
    · rw [h1] at ho
      exact (List.mem_filter.mp ho).1
    · rw [h1]
      exact List.length_filter_le _ _
/-- what it holds -/
theorem zuIv.hd (hJ : J.length ≤ 72) (hw : zJz J) (h : zuIv v C J m S) : (∀ k, k < 8 → ∃ n : Nat, n ≤ 1000 ∧ S.2.1 k = Int32.ofInt (n : Int)) ∧ ∀ t, 8 ≤ t → S.2.1 t = 0 := by
  have hls := h.ls
  rcases h with ⟨c, hs, h, hA, hB⟩ | ⟨c, h, hA, hB⟩ | ⟨c, h, hB⟩ | ⟨c, h, hB⟩
  · refine ⟨fun k hk => ⟨_, ?_, h.1.2.2.1 k hk⟩, h.1.2.2.2⟩
    exact Nat.le_trans (znb_le _ _) (zwi_le hs)
  · exact ⟨fun k hk => ⟨_, znb_le _ _, h.2.2.2.2.2.1 k hk⟩, h.2.2.2.2.2.2⟩
  · have h3 : ∀ k, S.2.1 k = Int32.ofInt (zkc k (zuA S) : Int) := h.2.2
    refine ⟨fun k _ => ⟨_, ?_, h3 k⟩, fun t ht => ?_⟩
    · have := zkc_le k (zuA S)
      omega
    · rw [h3, zkc_0 (fun x hx => by have := (hw.mem (hls.1 x hx)).2.1; omega)]
      rfl
  · have h3 : ∀ k, S.2.1 k = Int32.ofInt ((zkc k (zuA S) + zkc k (zuB S) : Nat) : Int) := h.2.2.2.2
    refine ⟨fun k _ => ⟨_, ?_, h3 k⟩, fun t ht => ?_⟩
    · have := zkc_le k (zuA S)
      have := zkc_le k (zuB S)
      omega
    · rw [h3, zkc_0 (fun x hx => by have := (hw.mem (hls.1 x hx)).2.1; omega), zkc_0 (fun x hx => by have := (hw.mem (hls.2.2.1 x hx)).2.1; omega)]
      rfl
theorem zuIv.cnt (hv : v < 5) (hJ : J.length ≤ 72) (h : zuIv v C J m S) : C.1 = 2 → zcnt S.1 12800 < 12700 := by
  intro c
  rcases h with ⟨c2, -⟩ | ⟨c2, -⟩ | ⟨-, h, hB⟩ | ⟨c2, -⟩
  · omega
  · omega
  · have h2 : S.1 = _ := h.2.1
    have := zjLn_len (v := v) (sz := C.2.2.1) (gr := C.2.2.2.1) (fi := C.2.1) hJ J.length
    have h3 : zjL v C.2.2.1 C.2.2.2.1 C.2.1 J = zjLn v C.2.2.1 C.2.2.2.1 C.2.1 J J.length := rfl
    rw [h2, h3, zcnt_L (fun x hx => (zjLn_gd hv _ x hx).1)]
    omega
  · omega
theorem znb_z {p : Nat → Bool} : ∀ n, (∀ u, u < n → p u = false) → znb p n = 0 := by
  intro n
  induction n with
  | zero => intro _; rfl
  | succ n ih =>
    intro h
    show znb p n + (p n).toNat = 0
    rw [ih (fun u hu => h u (by omega)), h n (by omega)]
    rfl
/-- what a view's numbers may be -/
def zCv (C : zCf) : Prop := (C.1 = 9 ∧ 1 ≤ C.2.2.2.2.2) ∨ C.1 = 6 ∨ C.1 = 2 ∨ C.1 = 8
theorem zuIv_0 (hC : zCv C) : zuIv v C [] m zS0 := by
  rcases hC with ⟨c, hs⟩ | c | c | c
  · refine Or.inl ⟨c, hs, ⟨⟨fun j => ⟨0, Nat.zero_le _, rfl⟩, fun j => ?_, fun k _ => ?_, fun _ _ => rfl⟩, rfl⟩, rfl, rfl⟩
    · unfold zwTl
      rw [if_neg (fun z => absurd (show (0 : Int32) < 0 from z.2.2) (by decide))]
      rfl
    · have : zwHn (fun _ => (0 : Int32)) C.2.2.1 C.2.2.2.1 C.2.2.2.2.2 m k = 0 := znb_z _ (fun u _ => rfl)
      show (0 : Int32) = Int32.ofInt ((zwHn (fun _ => (0 : Int32)) C.2.2.1 C.2.2.2.1 C.2.2.2.2.2 m k : Nat) : Int)
      rw [this]
      rfl
  · exact Or.inr (Or.inl ⟨c, zsIv_0 (fun _ => rfl), rfl, rfl⟩)
  · refine Or.inr (Or.inr (Or.inl ⟨c, ⟨rfl, ?_, fun k => rfl⟩, rfl⟩))
    funext j
    rfl
  · exact Or.inr (Or.inr (Or.inr ⟨c, ⟨rfl, fun o ho => (by cases ho), fun k t _ => rfl, fun j => rfl, fun k => rfl⟩, Nat.le_refl _⟩))
end YD0
