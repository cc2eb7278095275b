set_option maxRecDepth 100000
section ZZ80
variable {d v sz gr : Nat} {fi : Int} {Q : xR → Nat → Nat → xH → Prop}
/-- letting left rows go, from the last -/
def zvG (gr : Nat) (m : Int) : Nat → List zE × (Nat → Int32) → List zE × (Nat → Int32)
  | 0, G => G
  | n + 1, G => zvG gr m n (match G.1[n]? with
    | some e => if (zeT e : Int) + (gr : Int) < m then (G.1.eraseIdx n, zAd G.2 (zeK e) (Int32.ofInt (-1))) else G
    | none => G)
/-- is it the best of its key -/
def zvIs (lm : Int) (Vs : List zE) (e : zE) : Bool := match zvBest (zeK e) lm Vs with
  | some b => decide (zeN e = zeN b)
  | none => false
/-- letting versions go, from the last -/
def zvH (lm : Int) : Nat → List zE × (Nat → Int32) → List zE × (Nat → Int32)
  | 0, G => G
  | n + 1, G => zvH lm n (match G.1[n]? with
    | some e => if (zeT e : Int) ≤ lm ∧ zvIs lm G.1 e = false then (G.1.eraseIdx n, zAd G.2 (zeK e) (Int32.ofInt (-1))) else G
    | none => G)
theorem l_vg2 {lm : Int} {dr : Int32} {cap c s : Nat} (hr : zVr v fi sz gr) (hm : -1000 ≤ lm ∧ lm ≤ 1000) : ∀ (n : Nat) (K : List zE) (hd : Nat → Int32) (h : xH), n ≤ K.length → K.length ≤ 72 → zVo h 8 v true fi sz gr dr [.inr (36, v), .inr (38, v), .inr (40, v)] → h (25, v) = some (.inr (0, 8, zI hd)) → zAL h 38 v cap (zNm K) → zKs h K →
    (∀ h1, h1 (25, v) = some (.inr (0, 8, zI (zvH lm n (K, hd)).2)) → zAL h1 38 v cap (zNm (zvH lm n (K, hd)).1) → (∀ a b : Nat, ¬ (a = 25 ∧ b = v ∨ 38 ≤ a ∧ a < 40 ∧ b % 8 = v) → h1 (a, b) = h (a, b)) → Q (.inl none) c s h1) → zX (d + 4) 71 80 [(0, .inr (20, v)), (3, zi lm), (4, zi ((n : Int) - 1))] [] c s h Q := by
  obtain ⟨r1, r2, r3, r4⟩ := id hr
  intro n
  induction n with
  | zero =>
    intro K hd h hn hK hV hH hA hk q
    exact r_vg2e (d := d + 4) hr r1 r3 r4 hV (q h hH hA (fun _ _ _ => rfl))
  | succ n ih =>
    intro K hd h hn hK hV hH hA hk q
    have hlt : n < K.length := by omega
    have hx := List.getElem?_eq_getElem hlt
    obtain ⟨hE, he⟩ := hk _ (List.getElem_mem hlt)
    obtain ⟨e1, e2, e3, e4, e5, e6⟩ := id hE
    rw [show ((n + 1 : Nat) : Int) - 1 = (n : Int) from by omega]
    have step : zvH lm (n + 1) (K, hd) = zvH lm n (if (zeT K[n] : Int) ≤ lm ∧ zvIs lm K K[n] = false then (K.eraseIdx n, zAd hd (zeK K[n]) (Int32.ofInt (-1))) else (K, hd)) := by
      show zvH lm n (match K[n]? with
        | some e => if (zeT e : Int) ≤ lm ∧ zvIs lm K e = false then (K.eraseIdx n, zAd hd (zeK e) (Int32.ofInt (-1))) else (K, hd)
        | none => (K, hd)) = _
      rw [hx]
    rw [step] at q
    have stay : ¬ ((zeT K[n] : Int) ≤ lm ∧ zvIs lm K K[n] = false) → zX (d + 4) 71 80 [(0, .inr (20, v)), (3, zi lm), (4, zi ((n : Int) + (-1)))] [] c s h Q := fun z => by
      rw [if_neg z] at q
      exact ih K hd h (by omega) hK hV hH hA hk q
    have go : ((zeT K[n] : Int) ≤ lm ∧ zvIs lm K K[n] = false) → ∀ h1 : xH, h1 (25, v) = some (.inr (0, 8, zI (zAd hd (zeK K[n]) (Int32.ofInt (-1))))) → zAL h1 38 v cap ((zNm K).eraseIdx n) → (∀ a b : Nat, ¬ ((a = 25 ∧ b = v) ∨ (38 ≤ a ∧ a < 38 + 2 ∧ b % 8 = v % 8)) → h1 (a, b) = h (a, b)) → zX (d + 4) 71 80 [(0, .inr (20, v)), (3, zi lm), (4, zi ((n : Int) + (-1)))] [] c s h1 Q := fun z h1 a1 a2 a3 => by
      rw [if_pos z] at q
      rw [zNm_erase] at a2
      have hF : zFv v h h1 := fun a b hn => a3 a b (by omega)
      have hln : (K.eraseIdx n).length = K.length - 1 := List.length_eraseIdx_of_lt hlt
      exact ih _ _ h1 (by omega) (by omega) ((a3 _ _ (by omega)).trans hV) a1 a2 (fun e he => (hk.fr hF) e (List.mem_of_mem_eraseIdx he)) (fun h2 b1 b2 b3 => q h2 b1 b2 (fun a b hn => (b3 a b hn).trans (a3 a b (by omega))))
    refine r_vg2 (d := d) (e := K[n]) (Vs := K) (Lf := []) (cap1 := 0) hr r1 r3 r4 hE e2 e3 e4 e6 e5 (zbi_r _) (zbi_r _) hm (by omega) hk (by rw [List.length_map]; exact hlt) (by rw [List.length_map]; exact hK) (zmap_at hx) hV he hH hA (fun z => stay (fun y => by omega)) (fun z z2 h1 a1 a2 a3 => go ⟨z, by unfold zvIs; rw [z2]⟩ h1 a1 a2 a3) (fun z b1 z2 z3 => stay (fun y => ?_)) (fun z b1 z2 z3 h1 a1 a2 a3 => go ⟨z, ?_⟩ h1 a1 a2 a3)
    · have y2 := y.2
      unfold zvIs at y2
      rw [z2] at y2
      have z4 : zeN K[n] = zeN b1 := congrArg Prod.snd z3
      simp only [z4, decide_true] at y2
      exact absurd y2 (by decide)
    · unfold zvIs
      rw [z2]
      exact decide_eq_false (fun y => z3 (by rw [y]))
theorem l_vg1 {m : Int} {dr : Int32} {cap cap2 c s : Nat} {Vs : List zE} (hr : zVr v fi sz gr) (hm : -1 ≤ m ∧ m < 1000) (hVl : Vs.length ≤ 72) : ∀ (n : Nat) (K : List zE) (hd : Nat → Int32) (h : xH), n ≤ K.length → K.length ≤ 72 → zVo h 8 v true fi sz gr dr [.inr (36, v), .inr (38, v), .inr (40, v)] → h (25, v) = some (.inr (0, 8, zI hd)) → zAL h 36 v cap (zNm K) → zAL h 38 v cap2 (zNm Vs) → zKs h K →
    (∀ h1, h1 (25, v) = some (.inr (0, 8, zI (zvG gr m n (K, hd)).2)) → zAL h1 36 v cap (zNm (zvG gr m n (K, hd)).1) → (∀ a b : Nat, ¬ (a = 25 ∧ b = v ∨ 36 ≤ a ∧ a < 38 ∧ b % 8 = v) → h1 (a, b) = h (a, b)) → zX (d + 4) 71 80 [(0, .inr (20, v)), (3, zi (m - (gr : Int))), (4, zi ((Vs.length : Int) - 1))] [] c s h1 Q) → zX (d + 4) 71 10 [(0, .inr (20, v)), (2, zi m), (3, zi ((n : Int) - 1))] [] c s h Q := by
  obtain ⟨r1, r2, r3, r4⟩ := id hr
  intro n
  induction n with
  | zero =>
    intro K hd h hn hK hV hH hA hB hk q
    have hll : (zNm Vs).length = Vs.length := List.length_map _
    refine r_vg1e (d := d + 3) (Lf := []) (Vs := Vs) (cap1 := 0) hr r1 r3 r4 hm (by omega) hV hB ?_
    rw [hll]
    exact q h hH hA (fun _ _ _ => rfl)
  | succ n ih =>
    intro K hd h hn hK hV hH hA hB hk q
    have hlt : n < K.length := by omega
    have hx := List.getElem?_eq_getElem hlt
    obtain ⟨hE, he⟩ := hk _ (List.getElem_mem hlt)
    obtain ⟨e1, e2, e3, e4, e5, e6⟩ := id hE
    rw [show ((n + 1 : Nat) : Int) - 1 = (n : Int) from by omega]
    have step : zvG gr m (n + 1) (K, hd) = zvG gr m n (if (zeT K[n] : Int) + (gr : Int) < m then (K.eraseIdx n, zAd hd (zeK K[n]) (Int32.ofInt (-1))) else (K, hd)) := by
      show zvG gr m n (match K[n]? with
        | some e => if (zeT e : Int) + (gr : Int) < m then (K.eraseIdx n, zAd hd (zeK e) (Int32.ofInt (-1))) else (K, hd)
        | none => (K, hd)) = _
      rw [hx]
    rw [step] at q
    refine r_vg1 (d := d + 1) (e := K[n]) (Lf := K) (Vs := []) (cap2 := 0) hr r1 r3 r4 hE e2 e3 e4 e6 e5 (zbi_r _) (zbi_r _) hm hK hk (by rw [List.length_map]; exact hlt) (by rw [List.length_map]; exact hK) (zmap_at hx) hV he hH hA (fun z => ?_) (fun z h1 a1 a2 a3 => ?_)
    · rw [if_neg (by omega)] at q
      exact ih K hd h (by omega) hK hV hH hA hB hk q
    · rw [if_pos z] at q
      rw [zNm_erase] at a2
      have hF : zFv v h h1 := fun a b hn => a3 a b (by omega)
      have hln : (K.eraseIdx n).length = K.length - 1 := List.length_eraseIdx_of_lt hlt
      exact ih _ _ h1 (by omega) (by omega) ((a3 _ _ (by omega)).trans hV) a1 a2 (hB.fr (fun a b z => a3 a b (by omega))) (fun e he => (hk.fr hF) e (List.mem_of_mem_eraseIdx he)) (fun h2 b1 b2 b3 => q h2 b1 b2 (fun a b hn => (b3 a b hn).trans (a3 a b (by omega))))
def zvGo (gr : Nat) (m : Int) (X : zVX) : zVX := (X.1, (zvH (m - (gr : Int)) X.2.2.2.2.1.length (X.2.2.2.2.1, (zvG gr m X.2.2.2.1.length (X.2.2.2.1, X.2.1)).2)).2, X.2.2.1, (zvG gr m X.2.2.2.1.length (X.2.2.2.1, X.2.1)).1, (zvH (m - (gr : Int)) X.2.2.2.2.1.length (X.2.2.2.2.1, (zvG gr m X.2.2.2.1.length (X.2.2.2.1, X.2.1)).2)).1, X.2.2.2.2.2)
theorem s_vlg {b m : Int} {c s N cap1 cap2 cap3 : Nat} {h : xH} {X : zVX} (hr : zVr v fi sz gr) (hm : -1 ≤ m ∧ m < 1000) (hL : X.2.2.2.1.length ≤ 72) (hK : X.2.2.2.2.1.length ≤ 72) (hV : zVV h N cap1 cap2 cap3 v fi sz gr X) (hkL : zKs h X.2.2.2.1) (hkV : zKs h X.2.2.2.2.1)
    (q : ∀ h1, zVV h1 N cap1 cap2 cap3 v fi sz gr (zvGo gr m X) → zFv v h h1 → Q (.inl none) c s h1) : zX (d + 4) 71 0 [(0, .inr (20, v)), (1, zi b), (2, zi m)] [] c s h Q := by
  obtain ⟨r1, r2, r3, r4⟩ := id hr
  obtain ⟨v1, v2, v3, v4, v5, v6, ⟨fb, v7⟩, Ag, v8⟩ := hV
  have hll : (zNm X.2.2.2.1).length = X.2.2.2.1.length := List.length_map _
  refine r_vg0 (d := d + 3) (Lf := X.2.2.2.1) (Vs := []) (cap2 := 0) hr r1 r3 r4 hm (by omega) v1 v4 ?_
  rw [hll]
  refine l_vg1 (d := d) hr hm hK X.2.2.2.1.length X.2.2.2.1 X.2.1 h (Nat.le_refl _) hL v1 v3 v4 v5 hkL (fun h1 a1 a2 a3 => ?_)
  have hF : zFv v h h1 := fun a b hn => a3 a b (by omega)
  refine l_vg2 (d := d) hr ⟨by omega, by omega⟩ X.2.2.2.2.1.length X.2.2.2.2.1 _ h1 (Nat.le_refl _) hK ((a3 _ _ (by omega)).trans v1) a1 (v5.fr (fun a b z => a3 a b (by omega))) (hkV.fr hF) (fun h2 b1 b2 b3 => ?_)
  have hG : ∀ a b : Nat, ¬ (a = 25 ∧ b = v ∨ 36 ≤ a ∧ a < 40 ∧ b % 8 = v) → h2 (a, b) = h (a, b) := fun a b hn => (b3 a b (by omega)).trans (a3 a b (by omega))
  exact q h2 ⟨(hG _ _ (by omega)).trans v1, v2.fr (fun a b z => hG a b (by omega)), b1, a2.fr (fun a b z => b3 a b (by omega)), b2, v6.fr (fun a b z => hG a b (by omega)), ⟨fb, v7.fr (fun a b z => hG a b (by omega))⟩, Ag, v8.fr (fun a b z => hG a b (by omega))⟩ (fun a b hn => hG a b (by omega))
end ZZ80
