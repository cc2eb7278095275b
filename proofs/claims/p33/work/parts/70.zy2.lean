set_option maxRecDepth 100000
section ZY70
variable {d v sz gr : Nat} {fi : Int} {Q : xR → Nat → Nat → xH → Prop}
abbrev zNm (K : List zE) : List (Nat × Nat) := K.map (fun e => (8, zeN e))
/-- rows that lie there -/
def zKs (h : xH) (K : List zE) : Prop := ∀ e ∈ K, zEr e ∧ zEn h e
theorem zKs.fr {v : Nat} {h h1 : xH} {K : List zE} (hk : zKs h K) (f : zFv v h h1) : zKs h1 K := fun e he => ⟨(hk e he).1, (hk e he).2.fr f⟩
theorem zKs.el {ro : Nat} {h : xH} {K : List zE} (hk : zKs h K) (hr : 10 ≤ ro) : zEl h ro (zNm K) := by
  intro x hx
  obtain ⟨e, he, rfl⟩ := List.mem_map.mp hx
  refine ⟨⟨by dsimp only; omega, by dsimp only; omega⟩, 1, _, (hk e he).2, rfl⟩
theorem zNm_erase {K : List zE} {j : Nat} : (zNm K).eraseIdx j = zNm (K.eraseIdx j) := by
  induction K generalizing j with
  | nil => rfl
  | cons a r ih =>
    cases j with
    | zero => rfl
    | succ j =>
      show (8, zeN a) :: (zNm r).eraseIdx j = (8, zeN a) :: zNm (r.eraseIdx j)
      rw [ih]
/-- joins: what is told, what is held, drops, the kept rows, the outputs -/
abbrev zJX : Type := (Nat → Int64) × (Nat → Int32) × Int32 × List zE × List Int64
def zVJ (h : xH) (N cap v : Nat) (fi : Int) (sz gr : Nat) (X : zJX) : Prop :=
  zVo h 2 v true fi sz gr X.2.2.1 [.inr (36, v)] ∧ zRes h 21 v 12800 X.1 ∧ h (25, v) = some (.inr (0, 8, zI X.2.1)) ∧ zAL h 36 v cap (zNm X.2.2.2.1) ∧ zOut h N X.2.2.2.2 ∧ ∃ fb, zRes h 23 v 12800 fb
theorem zVJ.fr {h h1 : xH} {N cap v : Nat} {fi : Int} {sz gr : Nat} {X : zJX} (hv : v < 8) (hV : zVJ h N cap v fi sz gr X) (e : ∀ a b : Nat, (20 ≤ a ∧ a < 60 ∧ b % 8 = v) ∨ (2 ≤ a ∧ a < 4) ∨ a = 0 → h1 (a, b) = h (a, b)) : zVJ h1 N cap v fi sz gr X := by
  obtain ⟨v1, v2, v3, v4, v5, fb, v6⟩ := hV
  exact ⟨(e _ _ (by omega)).trans v1, v2.fr (fun a b z => e a b (by omega)), (e _ _ (by omega)).trans v3, v4.fr (fun a b z => e a b (by omega)), v5.fr (fun a b z => e a b (by omega)), fb, v6.fr (fun a b z => e a b (by omega))⟩
/-- a row meets the kept ones -/
def zjT1 (v sz : Nat) (e : zE) (T : (Nat → Int64) × List Int64) (o : zE) : (Nat → Int64) × List Int64 := if zPa sz e o then (zfi T.1 (zcnt T.1 12800) (zjRes v e o), T.2 ++ [zjRes v e o]) else T
def zjTs (v sz : Nat) (e : zE) (K : List zE) (T : (Nat → Int64) × List Int64) : (Nat → Int64) × List Int64 := K.foldl (zjT1 v sz e) T
theorem zjT1_cnt {e o : zE} {T : (Nat → Int64) × List Int64} : zcnt (zjT1 v sz e T o).1 12800 ≤ zcnt T.1 12800 + 1 := by
  unfold zjT1
  split
  · by_cases h : zcnt T.1 12800 < 12800
    · have := zcnt_set (f := T.1) (x := zjRes v e o) h
      rw [if_neg zjRes_nz] at this
      dsimp only
      split at this <;> omega
    · have := zcnt_le (zfi T.1 (zcnt T.1 12800) (zjRes v e o)) 12800
      dsimp only
      omega
  · omega
theorem zjT1_len {e o : zE} {T : (Nat → Int64) × List Int64} : (zjT1 v sz e T o).2.length ≤ T.2.length + 1 := by
  unfold zjT1
  split
  · rw [List.length_append]
    exact Nat.le_refl _
  · omega
theorem l_jt {e : zE} {cap : Nat} {dr : Int32} {hd : Nat → Int32} {K : List zE} (hr : zVr v fi sz gr) (hE : zEr e) (hK : K.length ≤ 72) : ∀ (n j : Nat) (T : (Nat → Int64) × List Int64) (h : xH) (N c s : Nat), j + n = K.length → zcnt T.1 12800 + n < 12800 → T.2.length + n < 190000 → zVo h 2 v true fi sz gr dr [.inr (36, v)] → zRes h 21 v 12800 T.1 → h (25, v) = some (.inr (0, 8, zI hd)) → zAL h 36 v cap (zNm K) → zOut h N T.2 → zEn h e → zKs h K →
    (∀ h1 N1 cap1 c1 s1, zRes h1 21 v 12800 (zjTs v sz e (K.drop j) T).1 → zOut h1 N1 (zjTs v sz e (K.drop j) T).2 → h1 (25, v) = some (.inr (0, 8, zI (zAd hd (zeK e) (Int32.ofInt 1)))) → zAL h1 36 v cap1 (zNm (K ++ [e])) → (∀ a b : Nat, ¬ ((21 ≤ a ∧ a < 23 ∨ a = 25) ∧ b = v ∨ 2 ≤ a ∧ a < 4 ∨ 36 ≤ a ∧ a < 38 ∧ b % 8 = v) → h1 (a, b) = h (a, b)) → zCo (N + cap) c s (N1 + cap1) c1 s1 → Q (.inl none) c1 s1 h1) → zX (d + 7) 4 21 [(0, .inr (20, v)), (1, .inr (8, zeN e)), (2, zi (j : Int))] [] c s h Q := by
  obtain ⟨r1, r2, r3, r4⟩ := id hr
  obtain ⟨e1, e2, e3, e4, e5, e6⟩ := id hE
  intro n
  induction n with
  | zero =>
    intro j T h N c s hj hz ho hV hR hH hA hO he hk q
    refine r_jt2 (d := d) (ks := zNm K) hr r1 r3 r4 hE e2 e3 e4 e6 e5 (zbi_r _) (zbi_r _) (by rw [List.length_map]; exact hj) (by rw [List.length_map]; exact hK) (hk.el (by omega)) hV he hH hA (fun cap1 c1 s1 hb h1 a1 a2 a3 => ?_)
    rw [List.drop_of_length_le (by omega)] at q
    refine q h1 N cap1 c1 s1 (hR.fr (fun a b z => a3 a b (by omega))) (hO.fr (fun a b z => a3 a b (by omega))) a1 ?_ (fun a b hn => a3 a b (by omega)) ⟨by omega, by omega, by omega⟩
    show zAL h1 36 v cap1 ((K ++ [e]).map (fun e => (8, zeN e)))
    rw [List.map_append]
    exact a2
  | succ n ih =>
    intro j T h N c s hj hz ho hV hR hH hA hO he hk q
    have hlt : j < K.length := by omega
    have hx := List.getElem?_eq_getElem hlt
    obtain ⟨hP, hp⟩ := hk _ (List.getElem_mem hlt)
    obtain ⟨o1, o2, o3, o4, o5, o6⟩ := id hP
    have stp : zjTs v sz e (K.drop j) T = zjTs v sz e (K.drop (j + 1)) (zjT1 v sz e T K[j]) := by
      rw [List.drop_eq_getElem_cons hlt]
      rfl
    rw [stp] at q
    have hc1 := zjT1_cnt (v := v) (sz := sz) (e := e) (o := K[j]) (T := T)
    have hc2 := zjT1_len (v := v) (sz := sz) (e := e) (o := K[j]) (T := T)
    refine r_jt1 (d := d + 4) (o := K[j]) (ks := zNm K) hr r1 r3 r4 hE e2 e3 e4 e6 e5 (zbi_r _) (zbi_r _) hP o2 o3 o4 o6 o5 (zbi_r _) (zbi_r _) (by rw [List.length_map]; exact hlt) (by rw [List.length_map]; exact hK) (zmap_at hx) (by omega) (by omega) hV he hp hA hR hO (fun z => ?_) (fun z N1 c1 s1 hb h1 a1 a2 a3 => ?_)
    · rw [show zjT1 v sz e T K[j] = T from if_neg z] at q
      exact ih (j + 1) T h N c s (by omega) (by omega) (by omega) hV hR hH hA hO he hk q
    · have hF : zFv v h h1 := fun a b hn => a3 a b (by omega)
      have hx1 : zjT1 v sz e T K[j] = _ := if_pos z
      refine ih (j + 1) (zjT1 v sz e T K[j]) h1 N1 c1 s1 (by omega) (by omega) (by omega) ((a3 _ _ (by omega)).trans hV) (by rw [hx1]; exact a1) ((a3 _ _ (by omega)).trans hH) (hA.fr (fun a b z => a3 a b (by omega))) (by rw [hx1]; exact a2) (he.fr hF) (hk.fr hF) (fun h2 N2 cap2 c2 s2 b1 b2 b3 b4 b5 b6 => q h2 N2 cap2 c2 s2 b1 b2 b3 b4 (fun a b hn => (b5 a b hn).trans (a3 a b (by omega))) ⟨by have := hb.1; have := b6.1; omega, by have := hb.2.1; have := b6.2.1; omega, by have := hb.2.2; have := b6.2.2; omega⟩)
/-- a row is taken by a join -/
def zjTake (v sz gr : Nat) (e : zE) (X : zJX) : zJX :=
  if (zeT e : Int) + (sz : Int) + 1 + (gr : Int) ≤ zeA e then (X.1, X.2.1, X.2.2.1 + Int32.ofInt 1, X.2.2.2) else
  ((zjTs v sz e X.2.2.2.1 (X.1, X.2.2.2.2)).1, zAd X.2.1 (zeK e) (Int32.ofInt 1), X.2.2.1, X.2.2.2.1 ++ [e], (zjTs v sz e X.2.2.2.1 (X.1, X.2.2.2.2)).2)
theorem s_jtake {c s N cap : Nat} {h : xH} {X : zJX} {e : zE} (hr : zVr v fi sz gr) (hE : zEr e) (hK : X.2.2.2.1.length ≤ 72) (hz : zcnt X.1 12800 < 12700) (ho : X.2.2.2.2.length < 180000) (hV : zVJ h N cap v fi sz gr X) (he : zEn h e) (hk : zKs h X.2.2.2.1)
    (q : ∀ h1 N1 cap1 c1 s1, zVJ h1 N1 cap1 v fi sz gr (zjTake v sz gr e X) → zFv v h h1 → zCo (N + cap) c s (N1 + cap1) c1 s1 → Q (.inl none) c1 s1 h1) : zX (d + 7) 4 0 [(0, .inr (20, v)), (1, .inr (8, zeN e))] [] c s h Q := by
  obtain ⟨r1, r2, r3, r4⟩ := id hr
  obtain ⟨e1, e2, e3, e4, e5, e6⟩ := id hE
  obtain ⟨v1, v2, v3, v4, v5, fb, v6⟩ := hV
  refine r_jt0 (d := d + 6) hr r1 r3 r4 hE e2 e3 e4 e6 e5 (zbi_r _) (zbi_r _) v1 he (fun z => ?_) (fun z h1 a1 a2 => ?_)
  · refine l_jt hr hE hK X.2.2.2.1.length 0 (X.1, X.2.2.2.2) h N c s (by omega) (by dsimp only; omega) (by dsimp only; omega) v1 v2 v3 v4 v5 he hk (fun h1 N1 cap1 c1 s1 a1 a2 a3 a4 a5 a6 => ?_)
    refine q h1 N1 cap1 c1 s1 ?_ (fun a b hn => a5 a b (by omega)) a6
    unfold zjTake
    rw [if_neg (show ¬ (zeT e : Int) + (sz : Int) + 1 + (gr : Int) ≤ zeA e from z)]
    exact ⟨(a5 _ _ (by omega)).trans v1, a1, a3, a4, a2, fb, v6.fr (fun a b z => a5 a b (by omega))⟩
  · refine q h1 N cap c s ?_ (fun a b hn => a2 a b (by omega)) zCo.rf
    unfold zjTake
    rw [if_pos (show (zeT e : Int) + (sz : Int) + 1 + (gr : Int) ≤ zeA e from z)]
    exact ⟨a1, v2.fr (fun a b z => a2 a b (by omega)), (a2 _ _ (by omega)).trans v3, v4.fr (fun a b z => a2 a b (by omega)), v5.fr (fun a b z => a2 a b (by omega)), fb, v6.fr (fun a b z => a2 a b (by omega))⟩
/-- letting kept rows go, from the last -/
def zjG (sz gr : Nat) (m : Int) : Nat → List zE × (Nat → Int32) → List zE × (Nat → Int32)
  | 0, G => G
  | n + 1, G => zjG sz gr m n (match G.1[n]? with
    | some e => if (zeT e : Int) + 2 * (sz : Int) + (gr : Int) < m then (G.1.eraseIdx n, zAd G.2 (zeK e) (Int32.ofInt (-1))) else G
    | none => G)
theorem l_jg {m : Int} {dr : Int32} {cap c s : Nat} (hr : zVr v fi sz gr) (hm : -1 ≤ m ∧ m < 1000) : ∀ (n : Nat) (K : List zE) (hd : Nat → Int32) (h : xH), n ≤ K.length → K.length ≤ 72 → zVo h 2 v true fi sz gr dr [.inr (36, v)] → h (25, v) = some (.inr (0, 8, zI hd)) → zAL h 36 v cap (zNm K) → zKs h K →
    (∀ h1, h1 (25, v) = some (.inr (0, 8, zI (zjG sz gr m n (K, hd)).2)) → zAL h1 36 v cap (zNm (zjG sz gr m n (K, hd)).1) → (∀ a b : Nat, ¬ (a = 25 ∧ b = v ∨ 36 ≤ a ∧ a < 38 ∧ b % 8 = v) → h1 (a, b) = h (a, b)) → Q (.inl none) c s h1) → zX (d + 3) 6 10 [(0, .inr (20, v)), (2, zi m), (3, zi ((n : Int) - 1))] [] c s h Q := by
  obtain ⟨r1, r2, r3, r4⟩ := id hr
  intro n
  induction n with
  | zero =>
    intro K hd h hn hK hV hH hA hk q
    exact r_jg2 (d := d + 3) hr r1 r3 r4 hV (q h hH hA (fun _ _ _ => rfl))
  | succ n ih =>
    intro K hd h hn hK hV hH hA hk q
    have hlt : n < K.length := by omega
    have hx := List.getElem?_eq_getElem hlt
    obtain ⟨hE, he⟩ := hk _ (List.getElem_mem hlt)
    obtain ⟨e1, e2, e3, e4, e5, e6⟩ := id hE
    rw [show ((n + 1 : Nat) : Int) - 1 = (n : Int) from by omega]
    refine r_jg1 (e := K[n]) (ks := zNm K) hr r1 r3 r4 hE e2 e3 e4 e6 e5 (zbi_r _) (zbi_r _) hm (by rw [List.length_map]; exact hlt) (by rw [List.length_map]; exact hK) (hk.el (by omega)) (zmap_at hx) hV he hH hA (fun z => ?_) (fun z h1 a1 a2 a3 => ?_)
    · have hx2 : zjG sz gr m (n + 1) (K, hd) = zjG sz gr m n (K, hd) := by
        show zjG sz gr m n (match K[n]? with
          | some e => if (zeT e : Int) + 2 * (sz : Int) + (gr : Int) < m then (K.eraseIdx n, zAd hd (zeK e) (Int32.ofInt (-1))) else (K, hd)
          | none => (K, hd)) = _
        rw [hx]
        dsimp only
        rw [if_neg (by omega)]
      rw [hx2] at q
      exact ih K hd h (by omega) hK hV hH hA hk q
    · have hx2 : zjG sz gr m (n + 1) (K, hd) = zjG sz gr m n (K.eraseIdx n, zAd hd (zeK K[n]) (Int32.ofInt (-1))) := by
        show zjG sz gr m n (match K[n]? with
          | some e => if (zeT e : Int) + 2 * (sz : Int) + (gr : Int) < m then (K.eraseIdx n, zAd hd (zeK e) (Int32.ofInt (-1))) else (K, hd)
          | none => (K, hd)) = _
        rw [hx]
        dsimp only
        rw [if_pos (by omega)]
      rw [hx2] at q
      rw [zNm_erase] at a2
      have hF : zFv v h h1 := fun a b hn => a3 a b (by omega)
      have hln : (K.eraseIdx n).length = K.length - 1 := List.length_eraseIdx_of_lt hlt
      exact ih _ _ h1 (by omega) (by omega) ((a3 _ _ (by omega)).trans hV) a1 a2 (fun e he => (hk.fr hF) e (List.mem_of_mem_eraseIdx he)) (fun h2 b1 b2 b3 => q h2 b1 b2 (fun a b hn => (b3 a b hn).trans (a3 a b (by omega))))
def zjGo (sz gr : Nat) (m : Int) (X : zJX) : zJX := (X.1, (zjG sz gr m X.2.2.2.1.length (X.2.2.2.1, X.2.1)).2, X.2.2.1, (zjG sz gr m X.2.2.2.1.length (X.2.2.2.1, X.2.1)).1, X.2.2.2.2)
theorem s_jlg {b m : Int} {c s N cap : Nat} {h : xH} {X : zJX} (hr : zVr v fi sz gr) (hm : -1 ≤ m ∧ m < 1000) (hK : X.2.2.2.1.length ≤ 72) (hV : zVJ h N cap v fi sz gr X) (hk : zKs h X.2.2.2.1)
    (q : ∀ h1, zVJ h1 N cap v fi sz gr (zjGo sz gr m X) → zFv v h h1 → Q (.inl none) c s h1) : zX (d + 3) 6 0 [(0, .inr (20, v)), (1, zi b), (2, zi m)] [] c s h Q := by
  obtain ⟨r1, r2, r3, r4⟩ := id hr
  obtain ⟨v1, v2, v3, v4, v5, fb, v6⟩ := hV
  refine r_jg0 (d := d + 2) (ks := zNm X.2.2.2.1) hr r1 r3 r4 (by rw [List.length_map]; exact hK) v1 v4 ?_
  rw [List.length_map]
  refine l_jg hr hm X.2.2.2.1.length X.2.2.2.1 X.2.1 h (Nat.le_refl _) hK v1 v3 v4 hk (fun h1 a1 a2 a3 => q h1 ⟨(a3 _ _ (by omega)).trans v1, v2.fr (fun a b z => a3 a b (by omega)), a1, a2, v5.fr (fun a b z => a3 a b (by omega)), fb, v6.fr (fun a b z => a3 a b (by omega))⟩ (fun a b hn => a3 a b (by omega)))
end ZY70
