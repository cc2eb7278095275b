set_option maxRecDepth 100000
section YB2
/-- a list of results in the first slots -/
def zLf (l : List Int64) : Nat → Int64 := fun j => l.getD j 0
theorem zLf_lt {l : List Int64} {j : Nat} (h : j < l.length) : zLf l j = l[j] := by
  unfold zLf
  rw [List.getD_eq_getElem?_getD, List.getElem?_eq_getElem h]
  rfl
theorem zLf_ge {l : List Int64} {j : Nat} (h : l.length ≤ j) : zLf l j = 0 := by
  unfold zLf
  rw [List.getD_eq_getElem?_getD, List.getElem?_eq_none h]
  rfl
theorem zLf_push (l : List Int64) (x : Int64) : zfi (zLf l) l.length x = zLf (l ++ [x]) := by
  funext j
  show (if j = l.length then x else zLf l j) = _
  by_cases h : j = l.length
  · subst h
    rw [if_pos rfl, zLf_lt (by rw [List.length_append]; exact Nat.lt_succ_self _)]
    simp
  · rw [if_neg h]
    by_cases h2 : j < l.length
    · rw [zLf_lt h2, zLf_lt (by rw [List.length_append]; exact Nat.lt_succ_of_lt h2), List.getElem_append_left h2]
    · rw [zLf_ge (by omega), zLf_ge (by rw [List.length_append]; show l.length + 1 ≤ j; omega)]
theorem zcnt_L {l : List Int64} (h : ∀ x ∈ l, ¬ x = 0) : ∀ n, zcnt (zLf l) n = min n l.length := by
  intro n
  induction n with
  | zero => exact (Nat.zero_min _).symm
  | succ n ih =>
    show zcnt (zLf l) n + (if zLf l n = 0 then 0 else 1) = _
    rw [ih]
    by_cases h2 : n < l.length
    · rw [zLf_lt h2, if_neg (h _ (List.getElem_mem h2))]
      omega
    · rw [zLf_ge (by omega), if_pos rfl]
      omega
/-- how many rows have a key -/
def zkc (k : Nat) : List zE → Nat
  | [] => 0
  | e :: r => (if zeK e = k then 1 else 0) + zkc k r
theorem zkc_app (k : Nat) (a b : List zE) : zkc k (a ++ b) = zkc k a + zkc k b := by
  induction a with
  | nil => exact (Nat.zero_add _).symm
  | cons e r ih =>
    show _ + zkc k (r ++ b) = _ + zkc k r + zkc k b
    rw [ih]
    omega
theorem zkc_le (k : Nat) : ∀ (l : List zE), zkc k l ≤ l.length := by
  intro l
  induction l with
  | nil => exact Nat.le_refl _
  | cons e r ih =>
    show (if zeK e = k then 1 else 0) + zkc k r ≤ r.length + 1
    split <;> omega
theorem zkc_0 {k : Nat} : ∀ {l : List zE}, (∀ e ∈ l, zeK e ≠ k) → zkc k l = 0 := by
  intro l
  induction l with
  | nil => intro _; rfl
  | cons e r ih =>
    intro h
    show (if zeK e = k then 1 else 0) + zkc k r = 0
    rw [if_neg (h e List.mem_cons_self), ih (fun x hx => h x (List.mem_cons_of_mem _ hx))]
theorem zkc_er {k : Nat} : ∀ {l : List zE} {i : Nat} {e : zE}, l[i]? = some e → zkc k (l.eraseIdx i) + (if zeK e = k then 1 else 0) = zkc k l := by
  intro l
  induction l with
  | nil => intro i e h; cases h
  | cons a r ih =>
    intro i e h
    cases i with
    | zero =>
      cases h
      show zkc k r + _ = _ + zkc k r
      omega
    | succ i =>
      have := ih (i := i) (e := e) h
      show (if zeK a = k then 1 else 0) + zkc k (r.eraseIdx i) + _ = (if zeK a = k then 1 else 0) + zkc k r
      omega
/-- rows are let go, from the last -/
def zRm (p : zE → Bool) : Nat → List zE × (Nat → Int32) → List zE × (Nat → Int32)
  | 0, G => G
  | n + 1, G => zRm p n (match G.1[n]? with
    | some e => if p e = true then (G.1.eraseIdx n, zAd G.2 (zeK e) (Int32.ofInt (-1))) else G
    | none => G)
theorem zRm_ok (p : zE → Bool) : ∀ (n : Nat) (K : List zE) (hd : Nat → Int32), n ≤ K.length → (zRm p n (K, hd)).1 = (K.take n).filter (fun e => !p e) ++ K.drop n ∧ ((∀ k, hd k = Int32.ofInt (zkc k K : Int)) → ∀ k, (zRm p n (K, hd)).2 k = Int32.ofInt (zkc k (zRm p n (K, hd)).1 : Int)) := by
  intro n
  induction n with
  | zero => intro K hd _; exact ⟨rfl, fun h => h⟩
  | succ n ih =>
    intro K hd hn
    have hlt : n < K.length := by omega
    have hx := List.getElem?_eq_getElem hlt
    generalize he : K[n] = e at hx
    have stp : zRm p (n + 1) (K, hd) = zRm p n (if p e = true then (K.eraseIdx n, zAd hd (zeK e) (Int32.ofInt (-1))) else (K, hd)) := by
      show zRm p n (match K[n]? with
        | some e => if p e = true then (K.eraseIdx n, zAd hd (zeK e) (Int32.ofInt (-1))) else (K, hd)
        | none => (K, hd)) = _
      rw [hx]
    have htk : (K.take (n + 1)).filter (fun e => !p e) = (K.take n).filter (fun e => !p e) ++ (if p e = true then [] else [e]) := by
      rw [List.take_succ, hx, List.filter_append]
      congr 1
      show List.filter (fun e => !p e) [e] = _
      cases hp : p e <;> simp [hp]
    by_cases hp : p e = true
    · rw [stp, if_pos hp, htk, if_pos hp, List.append_nil]
      have hel : (K.eraseIdx n).length = K.length - 1 := List.length_eraseIdx_of_lt hlt
      obtain ⟨a1, a2⟩ := ih (K.eraseIdx n) (zAd hd (zeK e) (Int32.ofInt (-1))) (by omega)
      have e1 : (K.eraseIdx n).take n = K.take n := by
        rw [List.eraseIdx_eq_take_drop_succ, List.take_append_of_le_length (by rw [List.length_take]; omega), List.take_take, Nat.min_self]
      have e2 : (K.eraseIdx n).drop n = K.drop (n + 1) := by
        rw [List.eraseIdx_eq_take_drop_succ, List.drop_append_of_le_length (by rw [List.length_take]; omega), List.drop_take_self, List.nil_append]
      rw [e1, e2] at a1
      refine ⟨a1, fun h => a2 (fun k => ?_)⟩
      have hk := zkc_er (k := k) hx
      rw [zAd_at]
      by_cases hkk : k = zeK e
      · subst hkk
        rw [if_pos rfl] at hk
        rw [if_pos rfl, h, ← Int32.ofInt_add]
        congr 1
        omega
      · rw [if_neg (fun z => hkk z.symm)] at hk
        rw [if_neg hkk, h]
        congr 1
        omega
    · rw [stp, if_neg hp, htk, if_neg hp]
      obtain ⟨a1, a2⟩ := ih K hd (by omega)
      refine ⟨?_, a2⟩
      rw [a1, List.append_assoc]
      congr 1
      rw [List.drop_eq_getElem_cons hlt, he]
      rfl
theorem zRm_all (p : zE → Bool) (K : List zE) (hd : Nat → Int32) : (zRm p K.length (K, hd)).1 = K.filter (fun e => !p e) := by
  rw [(zRm_ok p K.length K hd (Nat.le_refl _)).1, List.take_length, List.drop_length, List.append_nil]
variable {v sz gr : Nat} {fi m b : Int}
/-- is a row taken by joins and sessions -/
def zjtk (bs : Bool) (sz gr : Nat) (fi : Int) (o : zE) : Bool := zLet bs fi o && !decide ((zeT o : Int) + (sz : Int) + 1 + (gr : Int) ≤ zeA o)
def zjR (v sz gr : Nat) (fi : Int) (J : List zE) (e : zE) : List Int64 := if zjtk true sz gr fi e = true then (J.filter (fun o => decide (zPa sz e o) && zjtk true sz gr fi o)).map (zjRes v e) else []
/-- all results of joins, in their order -/
def zjLn (v sz gr : Nat) (fi : Int) (J : List zE) : Nat → List Int64
  | 0 => []
  | n + 1 => zjLn v sz gr fi J n ++ (match J[n]? with
    | some e => zjR v sz gr fi (J.take n) e
    | none => [])
def zjL (v sz gr : Nat) (fi : Int) (J : List zE) : List Int64 := zjLn v sz gr fi J J.length
theorem zjLn_app {J : List zE} {e : zE} : ∀ n, n ≤ J.length → zjLn v sz gr fi (J ++ [e]) n = zjLn v sz gr fi J n := by
  intro n
  induction n with
  | zero => intro _; rfl
  | succ n ih =>
    intro h
    show zjLn v sz gr fi (J ++ [e]) n ++ (match (J ++ [e])[n]? with
      | some x => zjR v sz gr fi ((J ++ [e]).take n) x
      | none => []) = zjLn v sz gr fi J n ++ (match J[n]? with
      | some x => zjR v sz gr fi (J.take n) x
      | none => [])
    rw [ih (by omega), List.getElem?_append_left (by omega), List.take_append_of_le_length (by omega)]
theorem zjL_app {J : List zE} {e : zE} : zjL v sz gr fi (J ++ [e]) = zjL v sz gr fi J ++ zjR v sz gr fi J e := by
  unfold zjL
  rw [List.length_append]
  show zjLn v sz gr fi (J ++ [e]) J.length ++ (match (J ++ [e])[J.length]? with
      | some x => zjR v sz gr fi ((J ++ [e]).take J.length) x
      | none => []) = _
  rw [zjLn_app _ (Nat.le_refl _), List.getElem?_append_right (Nat.le_refl _), Nat.sub_self, List.take_append_of_le_length (Nat.le_refl _), List.take_length]
  rfl
theorem zjRes_gd {e o : zE} (hv : v < 5) : zgd v (zjRes v e o) := by
  unfold zjRes
  split <;> exact zro_gd hv
theorem zjR_gd {J : List zE} {e : zE} (hv : v < 5) : ∀ x ∈ zjR v sz gr fi J e, zgd v x := by
  intro x hx
  unfold zjR at hx
  split at hx
  · obtain ⟨o, -, rfl⟩ := List.mem_map.mp hx
    exact zjRes_gd hv
  · cases hx
theorem zjR_len {J : List zE} {e : zE} : (zjR v sz gr fi J e).length ≤ J.length := by
  unfold zjR
  split
  · rw [List.length_map]
    exact List.length_filter_le _ _
  · exact Nat.zero_le _
theorem zjLn_gd {J : List zE} (hv : v < 5) : ∀ n, ∀ x ∈ zjLn v sz gr fi J n, zgd v x := by
  intro n
  induction n with
  | zero => intro x hx; cases hx
  | succ n ih =>
    intro x hx
    rcases List.mem_append.mp hx with hx | hx
    · exact ih x hx
    · split at hx
      · exact zjR_gd hv x hx
      · cases hx
theorem zjLn_len {J : List zE} (hJ : J.length ≤ 72) : ∀ n, (zjLn v sz gr fi J n).length ≤ 72 * n := by
  intro n
  induction n with
  | zero => exact Nat.le_refl _
  | succ n ih =>
    show (zjLn v sz gr fi J n ++ _).length ≤ _
    rw [List.length_append]
    have : (match J[n]? with
      | some e => zjR v sz gr fi (J.take n) e
      | none => ([] : List Int64)).length ≤ 72 := by
      split
      · refine Nat.le_trans zjR_len ?_
        rw [List.length_take]
        omega
      · exact Nat.zero_le _
    omega
theorem zfil_pos (p : zE → Bool) {a : zE} {r : List zE} (h : p a = true) : (a :: r).filter p = a :: r.filter p := List.filter_cons_of_pos h
theorem zfil_neg (p : zE → Bool) {a : zE} {r : List zE} (h : p a = false) : (a :: r).filter p = r.filter p := List.filter_cons_of_neg (by rw [h]; decide)
/-- what is found -/
theorem zjFa_L {e : zE} (hv : v < 5) : ∀ (L : List zE) (l : List Int64), (∀ x ∈ l, ¬ x = 0) → l.length + L.length < 12800 → zjFa v sz gr fi e L (zLf l) = zLf (l ++ (L.filter (fun o => decide (zPa sz e o) && zjtk true sz gr fi o)).map (zjRes v e)) := by
  intro L
  induction L with
  | nil => intro l _ _; show zLf l = _; rw [List.filter_nil, List.map_nil, List.append_nil]
  | cons o r ih =>
    intro l hl hlen
    show zjFa v sz gr fi e r (zjF1 v sz gr fi e (zLf l) o) = _
    have hr : (o :: r).length = r.length + 1 := rfl
    unfold zjF1
    by_cases hc : zPa sz e o ∧ zLet true fi o = true ∧ ¬ (zeT o : Int) + (sz : Int) + 1 + (gr : Int) ≤ zeA o
    · have hb : (decide (zPa sz e o) && zjtk true sz gr fi o) = true := by
        unfold zjtk
        rw [decide_eq_true hc.1, hc.2.1, decide_eq_false hc.2.2]
        rfl
      rw [if_pos hc, zcnt_L hl, Nat.min_eq_right (by omega), zLf_push, ih _ (fun x hx => ?_) (by rw [List.length_append]; show l.length + 1 + r.length < 12800; omega), zfil_pos (fun o => decide (zPa sz e o) && zjtk true sz gr fi o) hb, List.map_cons, List.append_assoc]
      · rfl
      · rcases List.mem_append.mp hx with hx | hx
        · exact hl x hx
        · rw [List.mem_singleton.mp hx]
          exact (zjRes_gd hv).1
    · have hb : (decide (zPa sz e o) && zjtk true sz gr fi o) = false := by
        cases hz : (decide (zPa sz e o) && zjtk true sz gr fi o) with
        | false => rfl
        | true =>
          exfalso
          unfold zjtk at hz
          simp only [Bool.and_eq_true, Bool.not_eq_true', decide_eq_true_eq, decide_eq_false_iff_not] at hz
          exact hc ⟨hz.1, hz.2.1, hz.2.2⟩
      rw [if_neg hc, ih l hl (by omega), zfil_neg (fun o => decide (zPa sz e o) && zjtk true sz gr fi o) hb]
theorem zjFJ_L {J : List zE} (hv : v < 5) (hJ : J.length ≤ 72) : ∀ n j, j + n = J.length → zjFJ v sz gr fi J n j (zLf (zjLn v sz gr fi J j)) = zLf (zjL v sz gr fi J) := by
  intro n
  induction n with
  | zero =>
    intro j hj
    obtain rfl : j = J.length := by omega
    rfl
  | succ n ih =>
    intro j hj
    have hlt : j < J.length := by omega
    have hx := List.getElem?_eq_getElem hlt
    generalize J[j] = e at hx
    have hlen := zjLn_len (v := v) (sz := sz) (gr := gr) (fi := fi) hJ j
    have hg := fun x hx => (zjLn_gd (sz := sz) (gr := gr) (fi := fi) (J := J) hv j x hx).1
    have hs : zjLn v sz gr fi J (j + 1) = zjLn v sz gr fi J j ++ zjR v sz gr fi (J.take j) e := by
      show zjLn v sz gr fi J j ++ (match J[j]? with
        | some e => zjR v sz gr fi (J.take j) e
        | none => []) = _
      rw [hx]
    have stp : zjFJ v sz gr fi J (n + 1) j (zLf (zjLn v sz gr fi J j)) = zjFJ v sz gr fi J n (j + 1) (if zLet true fi e = true ∧ ¬ (zeT e : Int) + (sz : Int) + 1 + (gr : Int) ≤ zeA e then zjFa v sz gr fi e (J.take j) (zLf (zjLn v sz gr fi J j)) else zLf (zjLn v sz gr fi J j)) := by
      show zjFJ v sz gr fi J n (j + 1) (match J[j]? with
        | some e => if zLet true fi e = true ∧ ¬ (zeT e : Int) + (sz : Int) + 1 + (gr : Int) ≤ zeA e then zjFa v sz gr fi e (J.take j) (zLf (zjLn v sz gr fi J j)) else zLf (zjLn v sz gr fi J j)
        | none => zLf (zjLn v sz gr fi J j)) = _
      rw [hx]
    rw [stp, ← ih (j + 1) (by omega), hs]
    congr 1
    unfold zjR
    by_cases hc : zLet true fi e = true ∧ ¬ (zeT e : Int) + (sz : Int) + 1 + (gr : Int) ≤ zeA e
    · have hb : zjtk true sz gr fi e = true := by
        unfold zjtk
        rw [hc.1, decide_eq_false hc.2]
        rfl
      rw [if_pos hc, if_pos hb, zjFa_L hv _ _ hg (by rw [List.length_take]; omega)]
    · have hb : ¬ zjtk true sz gr fi e = true := by
        intro z
        unfold zjtk at z
        simp only [Bool.and_eq_true, Bool.not_eq_true', decide_eq_false_iff_not] at z
        exact hc z
      rw [if_neg hc, if_neg hb, List.append_nil]
theorem zjFound_L {J : List zE} (hv : v < 5) (hJ : J.length ≤ 72) : zjFound v sz gr fi J = zLf (zjL v sz gr fi J) := zjFJ_L hv hJ J.length 0 (by omega)
/-- is a row kept -/
def zjal (sz gr : Nat) (m : Int) (o : zE) : Bool := decide (m ≤ (zeT o : Int) + 2 * (sz : Int) + (gr : Int))
/-- a join view behind a journal -/
def zjIv (v sz gr : Nat) (fi : Int) (J : List zE) (m : Int) (X : zJX) : Prop := X.2.2.2.1 = J.filter (fun o => zjtk true sz gr fi o && zjal sz gr m o) ∧ X.1 = zLf (zjL v sz gr fi J) ∧ ∀ k, X.2.1 k = Int32.ofInt (zkc k X.2.2.2.1 : Int)
theorem zjTs_L {e : zE} (hv : v < 5) : ∀ (K : List zE) (l : List Int64) (out : List Int64), (∀ x ∈ l, ¬ x = 0) → l.length + K.length < 12800 → zjTs v sz e K (zLf l, out) = (zLf (l ++ (K.filter (fun o => decide (zPa sz e o))).map (zjRes v e)), out ++ (K.filter (fun o => decide (zPa sz e o))).map (zjRes v e)) ∧ zTs v 12800 K.length (zLf l, out) (zjTs v sz e K (zLf l, out)) := by
  intro K
  induction K with
  | nil =>
    intro l out _ _
    refine ⟨?_, zTs.rf⟩
    show (zLf l, out) = _
    rw [List.filter_nil, List.map_nil, List.append_nil, List.append_nil]
  | cons o r ih =>
    intro l out hl hlen
    have hr : (o :: r).length = r.length + 1 := rfl
    have stp : zjTs v sz e (o :: r) (zLf l, out) = zjTs v sz e r (zjT1 v sz e (zLf l, out) o) := rfl
    rw [stp]
    unfold zjT1
    by_cases hc : zPa sz e o
    · rw [if_pos hc]
      dsimp only
      rw [zcnt_L hl, Nat.min_eq_right (by omega), zLf_push, zfil_pos (fun o => decide (zPa sz e o)) (decide_eq_true hc), List.map_cons]
      have hl2 : ∀ x ∈ l ++ [zjRes v e o], ¬ x = 0 := fun x hx => by
        rcases List.mem_append.mp hx with hx | hx
        · exact hl x hx
        · rw [List.mem_singleton.mp hx]
          exact (zjRes_gd hv).1
      obtain ⟨a1, a2⟩ := ih (l ++ [zjRes v e o]) (out ++ [zjRes v e o]) hl2 (by rw [List.length_append]; show l.length + 1 + r.length < 12800; omega)
      refine ⟨?_, ?_⟩
      · rw [a1, List.append_assoc, List.append_assoc]
        rfl
      · have h1 : zTs v 12800 1 (zLf l, out) (zLf (l ++ [zjRes v e o]), out ++ [zjRes v e o]) := by
          rw [← zLf_push]
          exact zTs.tell (by omega) (zLf_ge (Nat.le_refl _)) (zjRes_gd hv)
        exact (h1.tr a2).le (by omega)
    · rw [if_neg hc, zfil_neg (fun o => decide (zPa sz e o)) (decide_eq_false hc)]
      obtain ⟨a1, a2⟩ := ih l out hl (by omega)
      exact ⟨a1, a2.le (by omega)⟩
theorem zjTake_iv {J : List zE} {X : zJX} {e : zE} (hv : v < 5) (hJ : J.length < 72) (hle : zLet true fi e = true) (hm : zeA e = m) (h : zjIv v sz gr fi J m X) : zjIv v sz gr fi (J ++ [e]) m (zjTake v sz gr e X) ∧ zTs v 12800 72 (X.1, X.2.2.2.2) ((zjTake v sz gr e X).1, (zjTake v sz gr e X).2.2.2.2) := by
  obtain ⟨h1, h2, h3⟩ := h
  unfold zjTake
  by_cases hl : (zeT e : Int) + (sz : Int) + 1 + (gr : Int) ≤ zeA e
  · have hb : zjtk true sz gr fi e = false := by
      unfold zjtk
      rw [decide_eq_true hl]
      simp
    rw [if_pos hl]
    refine ⟨⟨?_, ?_, h3⟩, zTs.rf.le (Nat.zero_le _)⟩
    · show X.2.2.2.1 = _
      rw [List.filter_append, ← h1, zfil_neg (fun o => zjtk true sz gr fi o && zjal sz gr m o) (by rw [hb]; rfl), List.filter_nil, List.append_nil]
    · show X.1 = _
      rw [zjL_app]
      unfold zjR
      rw [if_neg (by rw [hb]; decide), List.append_nil]
      exact h2
  · have hb : zjtk true sz gr fi e = true := by
      unfold zjtk
      rw [decide_eq_false hl, hle]
      rfl
    rw [if_neg hl]
    have hlen := zjLn_len (v := v) (sz := sz) (gr := gr) (fi := fi) (by omega : J.length ≤ 72) J.length
    have hg := fun x hx => (zjLn_gd (sz := sz) (gr := gr) (fi := fi) (J := J) hv J.length x hx).1
    have hKl : X.2.2.2.1.length ≤ J.length := by
      rw [h1]
      exact List.length_filter_le _ _
    have hj : (zjL v sz gr fi J).length ≤ 72 * J.length := hlen
    obtain ⟨a1, a2⟩ := zjTs_L (sz := sz) (e := e) hv X.2.2.2.1 (zjL v sz gr fi J) X.2.2.2.2 hg (by omega)
    rw [← h2] at a1 a2
    refine ⟨⟨?_, ?_, fun k => ?_⟩, a2.le (by omega)⟩
    · show X.2.2.2.1 ++ [e] = _
      have hal : (zjtk true sz gr fi e && zjal sz gr m e) = true := by
        unfold zjal
        rw [hb, decide_eq_true (by omega)]
        rfl
      rw [List.filter_append, ← h1, zfil_pos (fun o => zjtk true sz gr fi o && zjal sz gr m o) hal, List.filter_nil]
    · show (zjTs v sz e X.2.2.2.1 (X.1, X.2.2.2.2)).1 = _
      rw [a1, zjL_app]
      unfold zjR
      rw [if_pos hb]
      show zLf _ = zLf _
      congr 3
      rw [h1, List.filter_filter]
      refine List.filter_congr (fun o _ => ?_)
      by_cases hp : zPa sz e o
      · rw [decide_eq_true hp]
        cases ht : zjtk true sz gr fi o with
        | false => rfl
        | true =>
          unfold zjal
          rw [decide_eq_true (by have := hp.2.2; omega)]
          rfl
      · rw [decide_eq_false hp]
        rfl
    · show zAd X.2.1 (zeK e) (Int32.ofInt 1) k = Int32.ofInt (zkc k (X.2.2.2.1 ++ [e]) : Int)
      rw [zAd_at, zkc_app]
      show _ = Int32.ofInt ((zkc k X.2.2.2.1 + ((if zeK e = k then 1 else 0) + 0) : Nat) : Int)
      by_cases hk : k = zeK e
      · subst hk
        rw [if_pos rfl, if_pos rfl, h3, ← Int32.ofInt_add]
        rfl
      · rw [if_neg hk, if_neg (fun z => hk z.symm), h3]
        rfl
theorem zjG_rm : ∀ (n : Nat) (G : List zE × (Nat → Int32)), zjG sz gr m n G = zRm (fun e => decide ((zeT e : Int) + 2 * (sz : Int) + (gr : Int) < m)) n G := by
  intro n
  induction n with
  | zero => intro G; rfl
  | succ n ih =>
    intro G
    show zjG sz gr m n _ = zRm _ n _
    rw [ih]
    congr 1
    cases G.1[n]? with
    | none => rfl
    | some e =>
      show (if _ then _ else _) = if decide _ = true then _ else _
      by_cases h : (zeT e : Int) + 2 * (sz : Int) + (gr : Int) < m
      · rw [if_pos h, if_pos (decide_eq_true h)]
      · rw [if_neg h, if_neg (by rw [decide_eq_false h]; decide)]
theorem zjGo_iv {J : List zE} {X : zJX} (hbm : b ≤ m) (h : zjIv v sz gr fi J b X) : zjIv v sz gr fi J m (zjGo sz gr m X) := by
  obtain ⟨h1, h2, h3⟩ := h
  refine ⟨?_, h2, ?_⟩
  · show (zjG sz gr m X.2.2.2.1.length (X.2.2.2.1, X.2.1)).1 = _
    rw [zjG_rm, zRm_all, h1, List.filter_filter]
    refine List.filter_congr (fun o _ => ?_)
    unfold zjal
    by_cases hc : (zeT o : Int) + 2 * (sz : Int) + (gr : Int) < m
    · rw [decide_eq_true hc, decide_eq_false (by omega : ¬ m ≤ (zeT o : Int) + 2 * (sz : Int) + (gr : Int))]
      simp
    · rw [decide_eq_false hc, decide_eq_true (by omega : m ≤ (zeT o : Int) + 2 * (sz : Int) + (gr : Int)), decide_eq_true (by omega : b ≤ (zeT o : Int) + 2 * (sz : Int) + (gr : Int))]
      simp
  · intro k
    show (zjG sz gr m X.2.2.2.1.length (X.2.2.2.1, X.2.1)).2 k = Int32.ofInt (zkc k (zjG sz gr m X.2.2.2.1.length (X.2.2.2.1, X.2.1)).1 : Int)
    rw [zjG_rm]
    exact (zRm_ok _ _ _ _ (Nat.le_refl _)).2 h3 k
end YB2
