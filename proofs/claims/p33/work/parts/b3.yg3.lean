set_option maxRecDepth 100000
section YB3
/-- the better of two, the later if neither is -/
def zmg (b y : Option zE) : Option zE := match b, y with
  | none, y => y
  | some x, none => some x
  | some x, some y => if zvBt (some x) y = true then some x else some y
abbrev zbe (x y : zE) : Prop := zeT y < zeT x ∨ zeT x = zeT y ∧ zeV y < zeV x
theorem zvBt_iff (x y : zE) : zvBt (some x) y = true ↔ zbe x y := by
  unfold zvBt
  simp only [Bool.or_eq_true, Bool.and_eq_true, decide_eq_true_eq]
theorem zmg_n (b : Option zE) : zmg b none = b := by cases b <;> rfl
theorem zmg_ss (x y : zE) : zmg (some x) (some y) = if zbe x y then some x else some y := by
  show (if zvBt (some x) y = true then some x else some y) = _
  by_cases h : zbe x y
  · rw [if_pos h, if_pos ((zvBt_iff x y).mpr h)]
  · rw [if_neg h, if_neg (fun z => h ((zvBt_iff x y).mp z))]
theorem zmg_as (a b c : Option zE) : zmg (zmg a b) c = zmg a (zmg b c) := by
  cases a with
  | none => rfl
  | some a =>
    cases b with
    | none => rfl
    | some b =>
      cases c with
      | none => rw [zmg_n, zmg_n]
      | some c =>
        rw [zmg_ss, zmg_ss]
        by_cases h1 : zbe a b
        · rw [if_pos h1, zmg_ss]
          by_cases h2 : zbe b c
          · rw [if_pos h2, zmg_ss, if_pos h1, if_pos (by omega)]
          · rw [if_neg h2, zmg_ss]
        · rw [if_neg h1, zmg_ss]
          by_cases h2 : zbe b c
          · rw [if_pos h2, zmg_ss, if_neg h1]
          · rw [if_neg h2, zmg_ss, if_neg (by omega)]
/-- a row as it counts for a key and a time -/
def zel (k : Nat) (t : Int) (o : zE) : Option zE := if zeK o = k ∧ (zeT o : Int) ≤ t then some o else none
theorem zvB1_mg (k : Nat) (t : Int) (b : Option zE) (o : zE) : zvB1 k t b o = zmg b (zel k t o) := by
  unfold zvB1 zel
  by_cases h : zeK o = k ∧ (zeT o : Int) ≤ t
  · rw [if_pos h]
    cases b with
    | none => rw [if_pos ⟨h.1, h.2, rfl⟩]; rfl
    | some x =>
      rw [zmg_ss]
      by_cases h2 : zbe x o
      · rw [if_pos h2, if_neg (fun z => by rw [(zvBt_iff x o).mpr h2] at z; exact absurd z.2.2 (by decide))]
      · rw [if_neg h2, if_pos ⟨h.1, h.2, by cases hz : zvBt (some x) o with | false => rfl | true => exact absurd ((zvBt_iff x o).mp hz) h2⟩]
  · rw [if_neg h, if_neg (fun z => h ⟨z.1, z.2.1⟩), zmg_n]
theorem zvFo_mg (k : Nat) (t : Int) : ∀ (L : List zE) (b : Option zE), L.foldl (zvB1 k t) b = zmg b (zvBest k t L) := by
  intro L
  induction L with
  | nil => intro b; exact (zmg_n b).symm
  | cons o r ih =>
    intro b
    show r.foldl (zvB1 k t) (zvB1 k t b o) = zmg b (r.foldl (zvB1 k t) (zvB1 k t none o))
    rw [ih, ih, zvB1_mg, zvB1_mg, ← zmg_as]
    rfl
theorem zvBest_app (k : Nat) (t : Int) (L M : List zE) : zvBest k t (L ++ M) = zmg (zvBest k t L) (zvBest k t M) := by
  unfold zvBest
  rw [List.foldl_append, zvFo_mg]
  rfl
theorem zvBest_cons (k : Nat) (t : Int) (o : zE) (r : List zE) : zvBest k t (o :: r) = zmg (zel k t o) (zvBest k t r) := by
  show r.foldl (zvB1 k t) (zvB1 k t none o) = _
  rw [zvFo_mg, zvB1_mg]
  rfl
theorem zvBest_p {k : Nat} {t : Int} : ∀ {L : List zE}, (∀ x, zvBest k t L = some x → x ∈ L ∧ zeK x = k ∧ (zeT x : Int) ≤ t ∧ ∀ o ∈ L, zeK o = k → (zeT o : Int) ≤ t → ¬ zbe o x) ∧ (zvBest k t L = none → ∀ o ∈ L, ¬ (zeK o = k ∧ (zeT o : Int) ≤ t)) := by
  intro L
  induction L with
  | nil => exact ⟨fun x h => (by cases h), fun _ o ho => by cases ho⟩
  | cons a r ih =>
    obtain ⟨i1, i2⟩ := ih
    rw [zvBest_cons]
    unfold zel
    by_cases ha : zeK a = k ∧ (zeT a : Int) ≤ t
    · rw [if_pos ha]
      cases hr : zvBest k t r with
      | none =>
        rw [zmg_n]
        refine ⟨fun x hx => ?_, fun h => by cases h⟩
        cases hx
        refine ⟨List.mem_cons_self, ha.1, ha.2, fun o ho h1 h2 => ?_⟩
        rcases List.mem_cons.mp ho with rfl | ho
        · omega
        · exact absurd ⟨h1, h2⟩ (i2 hr o ho)
      | some y =>
        obtain ⟨y1, y2, y3, y4⟩ := i1 y hr
        rw [zmg_ss]
        refine ⟨fun x hx => ?_, fun h => ?_⟩
        · split at hx
          next hb =>
            cases hx
            refine ⟨List.mem_cons_self, ha.1, ha.2, fun o ho h1 h2 => ?_⟩
            rcases List.mem_cons.mp ho with rfl | ho
            · omega
            · have := y4 o ho h1 h2
              omega
          next hb =>
            cases hx
            refine ⟨List.mem_cons_of_mem _ y1, y2, y3, fun o ho h1 h2 => ?_⟩
            rcases List.mem_cons.mp ho with rfl | ho
            · exact hb
            · exact y4 o ho h1 h2
        · split at h <;> cases h
    · rw [if_neg ha]
      show (∀ x, zvBest k t r = some x → _) ∧ (zvBest k t r = none → _)
      refine ⟨fun x hx => ?_, fun h o ho => ?_⟩
      · obtain ⟨y1, y2, y3, y4⟩ := i1 x hx
        refine ⟨List.mem_cons_of_mem _ y1, y2, y3, fun o ho h1 h2 => ?_⟩
        rcases List.mem_cons.mp ho with rfl | ho
        · exact absurd ⟨h1, h2⟩ ha
        · exact y4 o ho h1 h2
      · rcases List.mem_cons.mp ho with rfl | ho
        · exact ha
        · exact i2 h o ho
theorem zvBest_up {k : Nat} {s t : Int} {L : List zE} {x : zE} (hst : s ≤ t) (h : zvBest k s L = some x) : ∃ y, zvBest k t L = some y ∧ ¬ zbe x y := by
  obtain ⟨x1, x2, x3, x4⟩ := zvBest_p.1 x h
  cases hy : zvBest k t L with
  | none => exact absurd ⟨x2, Int.le_trans x3 hst⟩ (zvBest_p.2 hy x x1)
  | some y => exact ⟨y, rfl, (zvBest_p.1 y hy).2.2.2 x x1 x2 (Int.le_trans x3 hst)⟩
/-- one that isn't the best by a limit isn't missed behind it -/
theorem zvBest_er {lm : Int} {G : List zE} {n : Nat} {e : zE} (he : G[n]? = some e) (ht : (zeT e : Int) ≤ lm) (hi : zvIs lm G e = false) (k : Nat) (t : Int) (hl : lm ≤ t) : zvBest k t (G.eraseIdx n) = zvBest k t G := by
  have hlt : n < G.length := (List.getElem?_eq_some_iff.mp he).1
  have hG : G = G.take n ++ e :: G.drop (n + 1) := by
    have h1 := List.drop_eq_getElem_cons hlt
    rw [(List.getElem?_eq_some_iff.mp he).2] at h1
    rw [← h1, List.take_append_drop]
  have hE : G.eraseIdx n = G.take n ++ G.drop (n + 1) := List.eraseIdx_eq_take_drop_succ _ _
  rw [hE]
  generalize G.take n = L1 at hG
  generalize G.drop (n + 1) = L2 at hG
  subst hG
  rw [zvBest_app, zvBest_app, zvBest_cons]
  by_cases hk : zeK e = k
  · subst hk
    have el : ∀ s, lm ≤ s → zel (zeK e) s e = some e := fun s hs => if_pos ⟨rfl, by omega⟩
    rw [el t hl]
    have hR : zvBest (zeK e) lm (L1 ++ e :: L2) ≠ some e := by
      intro z
      unfold zvIs at hi
      rw [z] at hi
      exact absurd (of_decide_eq_false hi) (fun z => z rfl)
    rw [zvBest_app, zvBest_cons, el lm (Int.le_refl _)] at hR
    -- who keeps it from being the best
    have hcase : (∃ y, zvBest (zeK e) lm L2 = some y ∧ ¬ zbe e y) ∨ (∃ x, zvBest (zeK e) lm L1 = some x ∧ zbe x e) := by
      cases h2 : zvBest (zeK e) lm L2 with
      | some y =>
        by_cases hb : zbe e y
        · rw [h2, zmg_ss, if_pos hb] at hR
          cases h1 : zvBest (zeK e) lm L1 with
          | none => rw [h1] at hR; exact absurd rfl hR
          | some x =>
            rw [h1, zmg_ss] at hR
            by_cases hx : zbe x e
            · exact Or.inr ⟨x, rfl, hx⟩
            · rw [if_neg hx] at hR
              exact absurd rfl hR
        · exact Or.inl ⟨y, rfl, hb⟩
      | none =>
        rw [h2, zmg_n] at hR
        cases h1 : zvBest (zeK e) lm L1 with
        | none => rw [h1] at hR; exact absurd rfl hR
        | some x =>
          rw [h1, zmg_ss] at hR
          by_cases hx : zbe x e
          · exact Or.inr ⟨x, rfl, hx⟩
          · rw [if_neg hx] at hR
            exact absurd rfl hR
    rcases hcase with ⟨y, hy, hb⟩ | ⟨x, hx, hb⟩
    · obtain ⟨y2, hy2, hb2⟩ := zvBest_up hl hy
      rw [hy2, zmg_ss, if_neg (by omega)]
    · obtain ⟨x2, hx2, hb2⟩ := zvBest_up hl hx
      rw [hx2]
      cases h2 : zvBest (zeK e) t L2 with
      | none => rw [zmg_n, zmg_n, zmg_ss, if_pos (by omega)]
      | some y =>
        rw [zmg_ss, zmg_ss]
        by_cases hey : zbe e y
        · rw [if_pos hey, zmg_ss, if_pos (by omega), if_pos (by omega)]
        · rw [if_neg hey, zmg_ss]
  · rw [show zel k t e = none from if_neg (fun z => hk z.1)]
    rfl
theorem zRm_cnt (p : zE → Bool) (c : Nat → Nat) : ∀ (n : Nat) (K : List zE) (hd : Nat → Int32), (∀ k, hd k = Int32.ofInt ((zkc k K + c k : Nat) : Int)) → ∀ k, (zRm p n (K, hd)).2 k = Int32.ofInt ((zkc k (zRm p n (K, hd)).1 + c k : Nat) : Int) := by
  intro n
  induction n with
  | zero => intro K hd h; exact h
  | succ n ih =>
    intro K hd h
    show ∀ k, (zRm p n _).2 k = Int32.ofInt ((zkc k (zRm p n _).1 + c k : Nat) : Int)
    cases hx : K[n]? with
    | none =>
      exact ih K hd h
    | some e =>
      dsimp only
      split
      · refine ih _ _ (fun k => ?_)
        have hk := zkc_er (k := k) hx
        rw [zAd_at]
        by_cases hkk : k = zeK e
        · subst hkk
          rw [if_pos rfl] at hk
          rw [if_pos rfl, h, ← Int32.ofInt_add]
          congr 1
          omega
        · rw [if_neg (fun z => hkk z.symm)] at hk
          rw [if_neg hkk, h]
          congr 1
          omega
      · exact ih K hd h
theorem zvH_ok {lm : Int} (c : Nat → Nat) : ∀ (n : Nat) (K : List zE) (hd : Nat → Int32), (∀ k t, lm ≤ t → zvBest k t (zvH lm n (K, hd)).1 = zvBest k t K) ∧ ((∀ k, hd k = Int32.ofInt ((zkc k K + c k : Nat) : Int)) → ∀ k, (zvH lm n (K, hd)).2 k = Int32.ofInt ((zkc k (zvH lm n (K, hd)).1 + c k : Nat) : Int)) := by
  intro n
  induction n with
  | zero => intro K hd; exact ⟨fun _ _ _ => rfl, fun h => h⟩
  | succ n ih =>
    intro K hd
    show (∀ k t, lm ≤ t → zvBest k t (zvH lm n _).1 = zvBest k t K) ∧ ((∀ k, hd k = Int32.ofInt ((zkc k K + c k : Nat) : Int)) → ∀ k, (zvH lm n _).2 k = Int32.ofInt ((zkc k (zvH lm n _).1 + c k : Nat) : Int))
    cases hx : K[n]? with
    | none =>
      exact ih K hd
    | some e =>
      dsimp only
      split
      next hc =>
        obtain ⟨a1, a2⟩ := ih (K.eraseIdx n) (zAd hd (zeK e) (Int32.ofInt (-1)))
        refine ⟨fun k t ht => (a1 k t ht).trans (zvBest_er hx hc.1 hc.2 k t ht), fun h => a2 (fun k => ?_)⟩
        have hk := zkc_er (k := k) hx
        rw [zAd_at]
        by_cases hkk : k = zeK e
        · subst hkk
          rw [if_pos rfl] at hk
          rw [if_pos rfl, h, ← Int32.ofInt_add]
          congr 1
          omega
        · rw [if_neg (fun z => hkk z.symm)] at hk
          rw [if_neg hkk, h]
          congr 1
          omega
      next => exact ih K hd
variable {v gr : Nat} {fi m b : Int}
/-- is a row taken by versions -/
def zvtk (gr : Nat) (fi : Int) (o : zE) : Bool := zLet true fi o && decide (zeA o ≤ (zeT o : Int) + (gr : Int))
abbrev zvBf (gr : Nat) (fi : Int) (J : List zE) : List zE := J.filter (fun o => zvtk gr fi o && !zeL o)
/-- what a version view has told of a left row -/
def zvTl (v gr : Nat) (fi : Int) (J : List zE) (m : Int) (j : Nat) : Int64 := match J[j]? with
  | some e => if zvtk gr fi e = true ∧ zeL e = true ∧ (zeT e : Int) < m then zvRes v (zvBf gr fi J) e else 0
  | none => 0
/-- each row has its number in the journal -/
def zJo (J : List zE) : Prop := ∀ (j : Nat) (e : zE), J[j]? = some e → zeO e = j
def zvIv (v gr : Nat) (fi : Int) (J : List zE) (m : Int) (X : zVX) : Prop := X.2.2.2.1 = J.filter (fun o => zvtk gr fi o && (zeL o && decide (m ≤ (zeT o : Int) + (gr : Int)))) ∧ (∀ o ∈ X.2.2.2.2.1, o ∈ zvBf gr fi J) ∧ (∀ k t, m - (gr : Int) ≤ t → zvBest k t X.2.2.2.2.1 = zvBest k t (zvBf gr fi J)) ∧ (∀ j, X.1 j = zvTl v gr fi J m j) ∧ ∀ k, X.2.1 k = Int32.ofInt ((zkc k X.2.2.2.1 + zkc k X.2.2.2.2.1 : Nat) : Int)
theorem zvRes_gd {K : List zE} {e : zE} (hv : v < 5) : zgd v (zvRes v K e) := by
  unfold zvRes
  split <;> exact zro_gd hv
theorem zvRes_eq {K L : List zE} {e : zE} (h : zvBest (zeK e) (zeT e : Int) K = zvBest (zeK e) (zeT e : Int) L) : zvRes v K e = zvRes v L e := by
  unfold zvRes
  rw [h]
theorem zbi_L {o : zE} : zbi (zeL o) = 0 ↔ zeL o = false := zbi_0
/-- what is found -/
theorem zvA_J : ∀ (J A : List zE), zvJ gr fi J A = A ++ zvBf gr fi J := by
  intro J
  induction J with
  | nil => intro A; exact (List.append_nil A).symm
  | cons e r ih =>
    intro A
    show zvJ gr fi r (zvA gr fi A e) = _
    rw [ih]
    unfold zvA zvBf
    by_cases hc : zLet true fi e = true ∧ zbi (zeL e) = 0 ∧ zeA e ≤ (zeT e : Int) + (gr : Int)
    · rw [if_pos hc, zfil_pos (fun o => zvtk gr fi o && !zeL o) (by unfold zvtk; rw [hc.1, decide_eq_true hc.2.2, zbi_L.mp hc.2.1]; rfl), List.append_assoc]
      rfl
    · rw [if_neg hc, zfil_neg (fun o => zvtk gr fi o && !zeL o)]
      cases hz : (zvtk gr fi e && !zeL e) with
      | false => rfl
      | true =>
        exfalso
        unfold zvtk at hz
        simp only [Bool.and_eq_true, Bool.not_eq_true', decide_eq_true_eq] at hz
        exact hc ⟨hz.1.1, zbi_L.mpr hz.2, hz.1.2⟩
theorem zvF_at {A : List zE} {J : List zE} (hJ : zJo J) : ∀ (n : Nat) (fb : Nat → Int64), n ≤ J.length → (∀ j, fb j = if j < n then (match J[j]? with | some e => if zvtk gr fi e = true ∧ zeL e = true ∧ (zeT e : Int) < m then zvRes v A e else 0 | none => 0) else 0) → ∀ j, zvF v gr fi m A (J.drop n) fb j = match J[j]? with | some e => if zvtk gr fi e = true ∧ zeL e = true ∧ (zeT e : Int) < m then zvRes v A e else 0 | none => 0 := by
  intro n
  induction hk : J.length - n generalizing n with
  | zero =>
    intro fb hn h j
    rw [List.drop_of_length_le (by omega)]
    show fb j = _
    rw [h j]
    by_cases hj : j < n
    · rw [if_pos hj]
    · rw [if_neg hj, List.getElem?_eq_none (by omega)]
  | succ k ih =>
    intro fb hn h j
    have hlt : n < J.length := by omega
    have hx := List.getElem?_eq_getElem hlt
    rw [List.drop_eq_getElem_cons hlt]
    generalize J[n] = e at hx
    show zvF v gr fi m A (J.drop (n + 1)) (zvF1 v gr fi m A fb e) j = _
    refine ih (n + 1) (by omega) _ (by omega) (fun i => ?_) j
    have ho := hJ n e hx
    have hiff : (zLet true fi e = true ∧ ¬ zbi (zeL e) = 0 ∧ zeA e ≤ (zeT e : Int) + (gr : Int) ∧ (zeT e : Int) < m) ↔ (zvtk gr fi e = true ∧ zeL e = true ∧ (zeT e : Int) < m) := by
      unfold zvtk
      rw [zbi_1, Bool.and_eq_true, decide_eq_true_eq]
      exact ⟨fun z => ⟨⟨z.1, z.2.2.1⟩, z.2.1, z.2.2.2⟩, fun z => ⟨z.1.1, z.2.1, z.1.2, z.2.2⟩⟩
    have hval : zvF1 v gr fi m A fb e i = if i = n then (if zvtk gr fi e = true ∧ zeL e = true ∧ (zeT e : Int) < m then zvRes v A e else 0) else fb i := by
      unfold zvF1
      by_cases hc : zvtk gr fi e = true ∧ zeL e = true ∧ (zeT e : Int) < m
      · rw [if_pos (hiff.mpr hc), if_pos hc]
        show (if i = zeO e then _ else fb i) = _
        rw [ho]
      · rw [if_neg (fun z => hc (hiff.mp z)), if_neg hc]
        by_cases hi : i = n
        · rw [if_pos hi, h i, if_neg (by omega)]
        · rw [if_neg hi]
    rw [hval]
    by_cases hi : i = n
    · subst hi
      rw [if_pos rfl, if_pos (by omega : i < i + 1), hx]
    · rw [if_neg hi, h i]
      by_cases h2 : i < n
      · rw [if_pos h2, if_pos (by omega)]
      · rw [if_neg h2, if_neg (by omega)]
theorem zvFound_at {J : List zE} (hJ : zJo J) (j : Nat) : zvFound v gr fi m J j = zvTl v gr fi J m j := by
  unfold zvFound
  have h1 := zvF_at (v := v) (gr := gr) (fi := fi) (m := m) (A := zvJ gr fi J []) hJ 0 (fun _ => 0) (Nat.zero_le _) (fun j => (if_neg (Nat.not_lt_zero j)).symm) j
  rw [List.drop_zero] at h1
  rw [h1, zvA_J]
  rfl
end YB3
