set_option maxRecDepth 100000
section YC5
variable {v sz gr : Nat} {me fi m b : Int}
theorem zsTK_at {fn fs : Nat → Int32} {ff : Nat → Int} {l : Nat} : ∀ (n k : Nat) (T : (Nat → Int64) × List Int64), k + n ≤ 8 → l < 1000 → (∀ j, (zsTK v me fn fs ff l n k T).1 j = if j / 8 = l ∧ k ≤ j % 8 ∧ j % 8 < k + n ∧ 0 < fn j then zsRes v me fn fs ff j else T.1 j) ∧ (v < 5 → zTs v 8000 (2 * n) T (zsTK v me fn fs ff l n k T)) := by
  intro n
  induction n with
  | zero => intro k T _ _; exact ⟨fun j => (if_neg (by omega)).symm, fun _ => zTs.rf⟩
  | succ n ih =>
    intro k T hk hl
    obtain ⟨a1, a2⟩ := ih (k + 1) (zsT1 v me fn fs ff l k T) (by omega) hl
    refine ⟨fun j => ?_, fun hv => ?_⟩
    · show (zsTK v me fn fs ff l n (k + 1) (zsT1 v me fn fs ff l k T)).1 j = _
      rw [a1 j]
      have hT : (zsT1 v me fn fs ff l k T).1 j = if j = l * 8 + k ∧ 0 < fn j then zsRes v me fn fs ff j else T.1 j := by
        unfold zsT1
        by_cases hf : 0 < fn (l * 8 + k)
        · rw [if_pos hf]
          show zanF T.1 (l * 8 + k) (l * 8 + k) _ j = _
          rw [zanF_at]
          by_cases hj : j = l * 8 + k
          · subst hj
            rw [if_pos rfl, if_pos ⟨rfl, hf⟩]
          · rw [if_neg hj, if_neg (fun z => hj z.1)]
        · rw [if_neg hf]
          refine (if_neg (fun z => hf ?_)).symm
          rw [← z.1]
          exact z.2
      rw [hT]
      by_cases c1 : j / 8 = l ∧ k + 1 ≤ j % 8 ∧ j % 8 < k + 1 + n ∧ 0 < fn j
      · rw [if_pos c1, if_pos ⟨c1.1, by omega, by omega, c1.2.2.2⟩]
      · rw [if_neg c1]
        by_cases c2 : j = l * 8 + k ∧ 0 < fn j
        · rw [if_pos c2, if_pos ⟨by omega, by omega, by omega, c2.2⟩]
        · rw [if_neg c2, if_neg (fun z => ?_)]
          by_cases h8 : k = j % 8
          · exact c2 ⟨by omega, z.2.2.2⟩
          · exact c1 ⟨z.1, by omega, by omega, z.2.2.2⟩
    · have h1 : zTs v 8000 2 T (zsT1 v me fn fs ff l k T) := by
        unfold zsT1
        split
        · exact zTs.anew (by omega) (by omega) (Or.inl rfl) (zro_gd hv)
        · exact zTs.rf.le (Nat.zero_le _)
      exact (h1.tr (a2 hv)).le (by omega)
theorem zsTL_at {fn fs : Nat → Int32} {ff : Nat → Int} : ∀ (n l : Nat) (T : (Nat → Int64) × List Int64), l + n ≤ 1000 → (∀ j, (zsTL v me fn fs ff n l T).1 j = if l ≤ j / 8 ∧ j / 8 < l + n ∧ 0 < fn j then zsRes v me fn fs ff j else T.1 j) ∧ (v < 5 → zTs v 8000 (16 * n) T (zsTL v me fn fs ff n l T)) := by
  intro n
  induction n with
  | zero => intro l T _; exact ⟨fun j => (if_neg (by omega)).symm, fun _ => zTs.rf⟩
  | succ n ih =>
    intro l T hl
    obtain ⟨k1, k2⟩ := zsTK_at (v := v) (me := me) (fn := fn) (fs := fs) (ff := ff) (l := l) 8 0 T (by omega) (by omega)
    obtain ⟨a1, a2⟩ := ih (l + 1) (zsTK v me fn fs ff l 8 0 T) (by omega)
    refine ⟨fun j => ?_, fun hv => ((k2 hv).tr (a2 hv)).le (by omega)⟩
    show (zsTL v me fn fs ff n (l + 1) (zsTK v me fn fs ff l 8 0 T)).1 j = _
    rw [a1 j, k1 j]
    have h8 : j % 8 < 8 := Nat.mod_lt _ (by omega)
    by_cases c1 : l + 1 ≤ j / 8 ∧ j / 8 < l + 1 + n ∧ 0 < fn j
    · rw [if_pos c1, if_pos ⟨by omega, by omega, c1.2.2⟩]
    · rw [if_neg c1]
      by_cases c2 : j / 8 = l ∧ 0 ≤ j % 8 ∧ j % 8 < 0 + 8 ∧ 0 < fn j
      · rw [if_pos c2, if_pos ⟨by omega, by omega, c2.2.2.2⟩]
      · rw [if_neg c2, if_neg (fun z => ?_)]
        by_cases h9 : j / 8 = l
        · exact c2 ⟨h9, by omega, by omega, z.2.2⟩
        · exact c1 ⟨by omega, by omega, z.2.2⟩
/-- held: what the count says -/
def zsGi (G : zSG) : Prop := (∀ k, k < 8 → G.1 k = Int32.ofInt (zsH G.2.1 k : Int)) ∧ ∀ t, 8 ≤ t → G.1 t = 0
theorem zsG1_ok {l k : Nat} {G : zSG} (hl : l < 1000) (hk : k < 8) : (zsGi G → zsGi (zsG1 l k G)) ∧ ∀ j, (zsG1 l k G).2.1 j = (if j = l * 8 + k ∧ 0 < G.2.1 j then 0 else G.2.1 j) ∧ (zsG1 l k G).2.2 j = (if j = l * 8 + k ∧ 0 < G.2.1 j then 0 else G.2.2 j) := by
  unfold zsG1
  by_cases hf : 0 < G.2.1 (l * 8 + k)
  · rw [if_pos hf]
    refine ⟨fun h => ⟨fun k2 hk2 => ?_, fun t ht => ?_⟩, fun j => ?_⟩
    · show zAd G.1 k (Int32.ofInt (-1)) k2 = Int32.ofInt (zsH (zfi G.2.1 (l * 8 + k) 0) k2 : Int)
      rw [zAd_at]
      by_cases hkk : k2 = k
      · subst hkk
        rw [if_pos rfl, h.1 _ hk2, ← Int32.ofInt_add]
        congr 1
        have hone := znb_one (p := fun l2 => decide (0 < zfi G.2.1 (l * 8 + k2) 0 (l2 * 8 + k2))) (q := fun l2 => decide (0 < G.2.1 (l2 * 8 + k2))) (w := l) 1000 hl (fun l2 _ hne => by
          have hsl : ¬ l2 * 8 + k2 = l * 8 + k2 := by omega
          show decide (0 < (if l2 * 8 + k2 = l * 8 + k2 then 0 else G.2.1 (l2 * 8 + k2))) = _
          rw [if_neg hsl])
        have hp : decide (0 < zfi G.2.1 (l * 8 + k2) 0 (l * 8 + k2)) = false := by
          show decide (0 < (if l * 8 + k2 = l * 8 + k2 then (0 : Int32) else G.2.1 (l * 8 + k2))) = _
          rw [if_pos rfl]
          rfl
        rw [hp, decide_eq_true hf] at hone
        simp only [Bool.toNat_true, Bool.toNat_false] at hone
        unfold zsH
        omega
      · rw [if_neg hkk, h.1 _ hk2]
        congr 2
        refine znb_same _ (fun l2 hl2 => ?_)
        have hsl : ¬ l2 * 8 + k2 = l * 8 + k := by omega
        show _ = decide (0 < (if l2 * 8 + k2 = l * 8 + k then 0 else G.2.1 (l2 * 8 + k2)))
        rw [if_neg hsl]
    · show zAd G.1 k (Int32.ofInt (-1)) t = 0
      have hsl : ¬ t = k := by omega
      rw [zAd_at, if_neg hsl]
      exact h.2 t ht
    · show (if j = l * 8 + k then (0 : Int32) else G.2.1 j) = _ ∧ (if j = l * 8 + k then (0 : Int32) else G.2.2 j) = _
      by_cases hj : j = l * 8 + k
      · subst hj
        rw [if_pos rfl, if_pos rfl, if_pos ⟨rfl, hf⟩, if_pos ⟨rfl, hf⟩]
        exact ⟨rfl, rfl⟩
      · have hc : ¬ (j = l * 8 + k ∧ 0 < G.2.1 j) := fun z => hj z.1
        rw [if_neg hj, if_neg hj, if_neg hc, if_neg hc]
        exact ⟨rfl, rfl⟩
  · rw [if_neg hf]
    refine ⟨fun h => h, fun j => ?_⟩
    have hc : ¬ (j = l * 8 + k ∧ 0 < G.2.1 j) := fun z => hf (by rw [← z.1]; exact z.2)
    rw [if_neg hc, if_neg hc]
    exact ⟨rfl, rfl⟩
theorem zsGK_ok {l : Nat} (hl : l < 1000) : ∀ (n k : Nat) (G : zSG), k + n ≤ 8 → (zsGi G → zsGi (zsGK l n k G)) ∧ ∀ j, (zsGK l n k G).2.1 j = (if j / 8 = l ∧ k ≤ j % 8 ∧ j % 8 < k + n ∧ 0 < G.2.1 j then 0 else G.2.1 j) ∧ (zsGK l n k G).2.2 j = (if j / 8 = l ∧ k ≤ j % 8 ∧ j % 8 < k + n ∧ 0 < G.2.1 j then 0 else G.2.2 j) := by
  intro n
  induction n with
  | zero =>
    intro k G _
    refine ⟨fun h => h, fun j => ?_⟩
    have hc : ¬ (j / 8 = l ∧ k ≤ j % 8 ∧ j % 8 < k + 0 ∧ 0 < G.2.1 j) := fun z => by omega
    rw [if_neg hc, if_neg hc]
    exact ⟨rfl, rfl⟩
  | succ n ih =>
    intro k G hk
    obtain ⟨g1, g2⟩ := zsG1_ok (G := G) hl (show k < 8 from by omega)
    obtain ⟨a1, a2⟩ := ih (k + 1) (zsG1 l k G) (by omega)
    refine ⟨fun h => a1 (g1 h), fun j => ?_⟩
    show (zsGK l n (k + 1) (zsG1 l k G)).2.1 j = _ ∧ (zsGK l n (k + 1) (zsG1 l k G)).2.2 j = _
    obtain ⟨b1, b2⟩ := a2 j
    obtain ⟨c1, c2⟩ := g2 j
    rw [b1, b2]
    by_cases hf : 0 < G.2.1 j
    · by_cases h1 : j = l * 8 + k
      · have hx : j = l * 8 + k ∧ 0 < G.2.1 j := ⟨h1, hf⟩
        have hy : j / 8 = l ∧ k ≤ j % 8 ∧ j % 8 < k + (n + 1) ∧ 0 < G.2.1 j := ⟨by omega, by omega, by omega, hf⟩
        have hz : ¬ (j / 8 = l ∧ k + 1 ≤ j % 8 ∧ j % 8 < k + 1 + n ∧ 0 < (zsG1 l k G).2.1 j) := fun z => by omega
        rw [if_neg hz, if_neg hz, c1, c2, if_pos hx, if_pos hx, if_pos hy, if_pos hy]
        exact ⟨rfl, rfl⟩
      · have hx : ¬ (j = l * 8 + k ∧ 0 < G.2.1 j) := fun z => h1 z.1
        rw [if_neg hx] at c1 c2
        rw [c1, c2]
        by_cases h2 : j / 8 = l ∧ k + 1 ≤ j % 8 ∧ j % 8 < k + 1 + n ∧ 0 < G.2.1 j
        · have hy : j / 8 = l ∧ k ≤ j % 8 ∧ j % 8 < k + (n + 1) ∧ 0 < G.2.1 j := ⟨h2.1, by omega, by omega, hf⟩
          rw [if_pos h2, if_pos h2, if_pos hy, if_pos hy]
          exact ⟨rfl, rfl⟩
        · have hy : ¬ (j / 8 = l ∧ k ≤ j % 8 ∧ j % 8 < k + (n + 1) ∧ 0 < G.2.1 j) := fun z => by
            by_cases h3 : j % 8 = k
            · omega
            · exact h2 ⟨z.1, by omega, by omega, hf⟩
          rw [if_neg h2, if_neg h2, if_neg hy, if_neg hy]
          exact ⟨rfl, rfl⟩
    · have hx : ¬ (j = l * 8 + k ∧ 0 < G.2.1 j) := fun z => hf z.2
      rw [if_neg hx] at c1 c2
      rw [c1, c2]
      have h2 : ¬ (j / 8 = l ∧ k + 1 ≤ j % 8 ∧ j % 8 < k + 1 + n ∧ 0 < G.2.1 j) := fun z => hf z.2.2.2
      have hy : ¬ (j / 8 = l ∧ k ≤ j % 8 ∧ j % 8 < k + (n + 1) ∧ 0 < G.2.1 j) := fun z => hf z.2.2.2
      rw [if_neg h2, if_neg h2, if_neg hy, if_neg hy]
      exact ⟨rfl, rfl⟩
theorem zsGL_ok : ∀ (n l : Nat) (G : zSG), l + n ≤ 1000 → (zsGi G → zsGi (zsGL n l G)) ∧ ∀ j, (zsGL n l G).2.1 j = (if l ≤ j / 8 ∧ j / 8 < l + n ∧ 0 < G.2.1 j then 0 else G.2.1 j) ∧ (zsGL n l G).2.2 j = (if l ≤ j / 8 ∧ j / 8 < l + n ∧ 0 < G.2.1 j then 0 else G.2.2 j) := by
  intro n
  induction n with
  | zero =>
    intro l G _
    refine ⟨fun h => h, fun j => ?_⟩
    have hc : ¬ (l ≤ j / 8 ∧ j / 8 < l + 0 ∧ 0 < G.2.1 j) := fun z => by omega
    rw [if_neg hc, if_neg hc]
    exact ⟨rfl, rfl⟩
  | succ n ih =>
    intro l G hl
    obtain ⟨g1, g2⟩ := zsGK_ok (l := l) (by omega) 8 0 G (by omega)
    obtain ⟨a1, a2⟩ := ih (l + 1) (zsGK l 8 0 G) (by omega)
    refine ⟨fun h => a1 (g1 h), fun j => ?_⟩
    show (zsGL n (l + 1) (zsGK l 8 0 G)).2.1 j = _ ∧ (zsGL n (l + 1) (zsGK l 8 0 G)).2.2 j = _
    obtain ⟨b1, b2⟩ := a2 j
    obtain ⟨c1, c2⟩ := g2 j
    have h8 : j % 8 < 8 := Nat.mod_lt _ (by omega)
    rw [b1, b2]
    by_cases hf : 0 < G.2.1 j
    · by_cases h1 : j / 8 = l
      · have hx : j / 8 = l ∧ 0 ≤ j % 8 ∧ j % 8 < 0 + 8 ∧ 0 < G.2.1 j := ⟨h1, by omega, by omega, hf⟩
        have hy : l ≤ j / 8 ∧ j / 8 < l + (n + 1) ∧ 0 < G.2.1 j := ⟨by omega, by omega, hf⟩
        have hz : ¬ (l + 1 ≤ j / 8 ∧ j / 8 < l + 1 + n ∧ 0 < (zsGK l 8 0 G).2.1 j) := fun z => by omega
        rw [if_neg hz, if_neg hz, c1, c2, if_pos hx, if_pos hx, if_pos hy, if_pos hy]
        exact ⟨rfl, rfl⟩
      · have hx : ¬ (j / 8 = l ∧ 0 ≤ j % 8 ∧ j % 8 < 0 + 8 ∧ 0 < G.2.1 j) := fun z => h1 z.1
        rw [if_neg hx] at c1 c2
        rw [c1, c2]
        by_cases h2 : l + 1 ≤ j / 8 ∧ j / 8 < l + 1 + n ∧ 0 < G.2.1 j
        · have hy : l ≤ j / 8 ∧ j / 8 < l + (n + 1) ∧ 0 < G.2.1 j := ⟨by omega, by omega, hf⟩
          rw [if_pos h2, if_pos h2, if_pos hy, if_pos hy]
          exact ⟨rfl, rfl⟩
        · have hy : ¬ (l ≤ j / 8 ∧ j / 8 < l + (n + 1) ∧ 0 < G.2.1 j) := fun z => h2 ⟨by omega, by omega, hf⟩
          rw [if_neg h2, if_neg h2, if_neg hy, if_neg hy]
          exact ⟨rfl, rfl⟩
    · have hx : ¬ (j / 8 = l ∧ 0 ≤ j % 8 ∧ j % 8 < 0 + 8 ∧ 0 < G.2.1 j) := fun z => hf z.2.2.2
      rw [if_neg hx] at c1 c2
      rw [c1, c2]
      have h2 : ¬ (l + 1 ≤ j / 8 ∧ j / 8 < l + 1 + n ∧ 0 < G.2.1 j) := fun z => hf z.2.2
      have hy : ¬ (l ≤ j / 8 ∧ j / 8 < l + (n + 1) ∧ 0 < G.2.1 j) := fun z => hf z.2.2
      rw [if_neg h2, if_neg h2, if_neg hy, if_neg hy]
      exact ⟨rfl, rfl⟩
theorem zsGL_8 {n l : Nat} {G : zSG} (h : zsGi G) (hl : l + n ≤ 1000) : zsGi (zsGL n l G) := (zsGL_ok n l G hl).1 h
theorem zsStop_r {st : Nat} : ∃ n, zsStop st m - (b - (st : Int)).toNat = n ∧ (n = 0 ∨ (b - (st : Int)).toNat + n ≤ 1000) ∧ (b ≤ m → n ≤ (m - b).toNat) ∧ ∀ l, l < 1000 → ((b - (st : Int)).toNat ≤ l ∧ l < (b - (st : Int)).toNat + n ↔ b ≤ (l : Int) + (st : Int) ∧ (l : Int) + (st : Int) < m) := by
  refine ⟨_, rfl, ?_, fun hb => ?_, fun l hl => ?_⟩
  · have : zsStop st m ≤ 1000 := Nat.min_le_left _ _
    omega
  · have : zsStop st m ≤ (m - (st : Int)).toNat := Nat.min_le_right _ _
    omega
  · have h := zsStop_iff (st := st) (m := m) (u := l)
    omega
set_option maxHeartbeats 1000000 in
/-- due ones are told, and what need not be held is let go -/
theorem zsDG_iv {J : List zE} {X : zSX} (hv : v < 5) (hJ : J.length ≤ 72) (hbm : b ≤ m) (h : zsIv v sz gr me fi J b X) : zsIv v sz gr me fi J m (zsGo sz gr b m (zsDue v sz me b m X)) ∧ zTs v 8000 (16 * (m - b).toNat) (X.1, X.2.2.2.2.2.2) ((zsDue v sz me b m X).1, (zsDue v sz me b m X).2.2.2.2.2.2) := by
  have hiv := h
  obtain ⟨i1, i2, i3, i4, i5, i6, i7⟩ := h
  obtain ⟨n1, en1, n11, n12, n13⟩ := zsStop_r (m := m) (b := b) (st := sz)
  obtain ⟨n2, en2, n21, n22, n23⟩ := zsStop_r (m := m) (b := b) (st := 2 * sz + gr)
  have htd : (∀ l k, l < 1000 → k < 8 → (zsDue v sz me b m X).1 (l * 8 + k) = if (b ≤ (l : Int) + (sz : Int) ∧ (l : Int) + (sz : Int) < m) ∧ 0 < X.2.2.2.1 (l * 8 + k) then zsRes v me X.2.2.2.1 X.2.2.2.2.1 X.2.2.2.2.2.1 (l * 8 + k) else X.1 (l * 8 + k)) ∧ (∀ j, 8000 ≤ j → (zsDue v sz me b m X).1 j = X.1 j) ∧ zTs v 8000 (16 * (m - b).toNat) (X.1, X.2.2.2.2.2.2) ((zsDue v sz me b m X).1, (zsDue v sz me b m X).2.2.2.2.2.2) := by
    unfold zsDue
    rw [en1]
    rcases n11 with n0 | n0
    · rw [n0]
      refine ⟨fun l k hl hk => ?_, fun _ _ => rfl, zTs.rf.le (Nat.zero_le _)⟩
      have := n13 l hl
      have hc : ¬ ((b ≤ (l : Int) + (sz : Int) ∧ (l : Int) + (sz : Int) < m) ∧ 0 < X.2.2.2.1 (l * 8 + k)) := fun z => by omega
      rw [if_neg hc]
      rfl
    · obtain ⟨a1, a2⟩ := zsTL_at (v := v) (me := me) (fn := X.2.2.2.1) (fs := X.2.2.2.2.1) (ff := X.2.2.2.2.2.1) n1 (b - (sz : Int)).toNat (X.1, X.2.2.2.2.2.2) n0
      have hn := n12 hbm
      refine ⟨fun l k hl hk => ?_, fun j hj => ?_, (a2 hv).le (by omega)⟩
      · show (zsTL v me X.2.2.2.1 X.2.2.2.2.1 X.2.2.2.2.2.1 n1 (b - (sz : Int)).toNat (X.1, X.2.2.2.2.2.2)).1 (l * 8 + k) = _
        rw [a1, show (l * 8 + k) / 8 = l from by omega]
        have := n13 l hl
        by_cases c : ((b ≤ (l : Int) + (sz : Int) ∧ (l : Int) + (sz : Int) < m) ∧ 0 < X.2.2.2.1 (l * 8 + k))
        · rw [if_pos c, if_pos ⟨(this.mpr c.1).1, (this.mpr c.1).2, c.2⟩]
        · rw [if_neg c, if_neg (fun z => c ⟨this.mp ⟨z.1, z.2.1⟩, z.2.2⟩)]
      · show (zsTL v me X.2.2.2.1 X.2.2.2.2.1 X.2.2.2.2.2.1 n1 (b - (sz : Int)).toNat (X.1, X.2.2.2.2.2.2)).1 j = _
        rw [a1, if_neg (fun z => by omega)]
  have hgl : (∀ l k, l < 1000 → k < 8 → (zsGo sz gr b m (zsDue v sz me b m X)).2.2.2.1 (l * 8 + k) = (if (b ≤ (l : Int) + ((2 * sz + gr : Nat) : Int) ∧ (l : Int) + ((2 * sz + gr : Nat) : Int) < m) ∧ 0 < X.2.2.2.1 (l * 8 + k) then 0 else X.2.2.2.1 (l * 8 + k)) ∧ (zsGo sz gr b m (zsDue v sz me b m X)).2.2.2.2.1 (l * 8 + k) = (if (b ≤ (l : Int) + ((2 * sz + gr : Nat) : Int) ∧ (l : Int) + ((2 * sz + gr : Nat) : Int) < m) ∧ 0 < X.2.2.2.1 (l * 8 + k) then 0 else X.2.2.2.2.1 (l * 8 + k))) ∧ zsGi ((zsGo sz gr b m (zsDue v sz me b m X)).2.1, (zsGo sz gr b m (zsDue v sz me b m X)).2.2.2.1, (zsGo sz gr b m (zsDue v sz me b m X)).2.2.2.2.1) := by
    have hgi : zsGi (X.2.1, X.2.2.2.1, X.2.2.2.2.1) := ⟨i6, i7⟩
    unfold zsGo
    rw [en2]
    rcases n21 with n0 | n0
    · rw [n0]
      refine ⟨fun l k hl hk => ?_, hgi⟩
      have := n23 l hl
      have hc : ¬ ((b ≤ (l : Int) + ((2 * sz + gr : Nat) : Int) ∧ (l : Int) + ((2 * sz + gr : Nat) : Int) < m) ∧ 0 < X.2.2.2.1 (l * 8 + k)) := fun z => by omega
      rw [if_neg hc, if_neg hc]
      exact ⟨rfl, rfl⟩
    · obtain ⟨a1, a2⟩ := zsGL_ok n2 (b - ((2 * sz + gr : Nat) : Int)).toNat (X.2.1, X.2.2.2.1, X.2.2.2.2.1) n0
      refine ⟨fun l k hl hk => ?_, a1 hgi⟩
      show (zsGL n2 (b - ((2 * sz + gr : Nat) : Int)).toNat (X.2.1, X.2.2.2.1, X.2.2.2.2.1)).2.1 (l * 8 + k) = _ ∧ (zsGL n2 (b - ((2 * sz + gr : Nat) : Int)).toNat (X.2.1, X.2.2.2.1, X.2.2.2.2.1)).2.2 (l * 8 + k) = _
      obtain ⟨b1, b2⟩ := a2 (l * 8 + k)
      rw [b1, b2, show (l * 8 + k) / 8 = l from by omega]
      have := n23 l hl
      by_cases c : ((b ≤ (l : Int) + ((2 * sz + gr : Nat) : Int) ∧ (l : Int) + ((2 * sz + gr : Nat) : Int) < m) ∧ 0 < X.2.2.2.1 (l * 8 + k))
      · have c2 := this.mpr c.1
        have c3 : (b - ((2 * sz + gr : Nat) : Int)).toNat ≤ l ∧ l < (b - ((2 * sz + gr : Nat) : Int)).toNat + n2 ∧ 0 < X.2.2.2.1 (l * 8 + k) := ⟨c2.1, c2.2, c.2⟩
        rw [if_pos c, if_pos c, if_pos c3, if_pos c3]
        exact ⟨rfl, rfl⟩
      · have c3 : ¬ ((b - ((2 * sz + gr : Nat) : Int)).toNat ≤ l ∧ l < (b - ((2 * sz + gr : Nat) : Int)).toNat + n2 ∧ 0 < X.2.2.2.1 (l * 8 + k)) := fun z => c ⟨this.mp ⟨z.1, z.2.1⟩, z.2.2⟩
        rw [if_neg c, if_neg c, if_neg c3, if_neg c3]
        exact ⟨rfl, rfl⟩
  obtain ⟨t1, t2, t3⟩ := htd
  obtain ⟨g1, g2⟩ := hgl
  refine ⟨⟨fun k l f hk hl hc hm => ?_, fun k l hk hl hn => ?_, fun k l f hk hl hc hm => ?_, fun k l hk hl hn => ?_, fun j hj => (t2 j hj).trans (i5 j hj), g2.1, g2.2⟩, t3⟩
  · obtain ⟨a1, a2⟩ := g1 l k hl hk
    have hx : ¬ ((b ≤ (l : Int) + ((2 * sz + gr : Nat) : Int) ∧ (l : Int) + ((2 * sz + gr : Nat) : Int) < m) ∧ 0 < X.2.2.2.1 (l * 8 + k)) := fun z => by omega
    rw [a1, a2, if_neg hx, if_neg hx]
    exact i1 k l f hk hl hc (by omega)
  · obtain ⟨a1, a2⟩ := g1 l k hl hk
    rw [a1, a2]
    by_cases hx : ((b ≤ (l : Int) + ((2 * sz + gr : Nat) : Int) ∧ (l : Int) + ((2 * sz + gr : Nat) : Int) < m) ∧ 0 < X.2.2.2.1 (l * 8 + k))
    · rw [if_pos hx, if_pos hx]
      exact ⟨rfl, rfl⟩
    · rw [if_neg hx, if_neg hx]
      refine i2 k l hk hl (fun f hc hb => hx ⟨?_, (hiv.rows hJ hk hl).mpr ⟨f, hc, hb⟩⟩)
      have := hn f hc
      omega
  · show (zsDue v sz me b m X).1 (l * 8 + k) = _
    rw [t1 l k hl hk]
    by_cases hd : (l : Int) + (sz : Int) < b
    · have hx : ¬ ((b ≤ (l : Int) + (sz : Int) ∧ (l : Int) + (sz : Int) < m) ∧ 0 < X.2.2.2.1 (l * 8 + k)) := fun z => by omega
      rw [if_neg hx]
      exact i3 k l f hk hl hc hd
    · have hb2 : b ≤ (l : Int) + 2 * (sz : Int) + (gr : Int) := by omega
      have hx : ((b ≤ (l : Int) + (sz : Int) ∧ (l : Int) + (sz : Int) < m) ∧ 0 < X.2.2.2.1 (l * 8 + k)) := ⟨⟨by omega, hm⟩, (hiv.rows hJ hk hl).mpr ⟨f, hc, hb2⟩⟩
      rw [if_pos hx]
      obtain ⟨e1, e2, e3⟩ := i1 k l f hk hl hc hb2
      unfold zsRes zsR
      rw [e1, e2, e3, show ((l * 8 + k : Nat) : Int) % 8 = (k : Int) from by omega, show ((l * 8 + k : Nat) : Int) / 8 = (l : Int) from by omega]
  · show (zsDue v sz me b m X).1 (l * 8 + k) = 0
    rw [t1 l k hl hk]
    have hx : ¬ ((b ≤ (l : Int) + (sz : Int) ∧ (l : Int) + (sz : Int) < m) ∧ 0 < X.2.2.2.1 (l * 8 + k)) := fun z => by
      obtain ⟨f, hc, -⟩ := (hiv.rows hJ hk hl).mp z.2
      exact hn f hc z.1.2
    rw [if_neg hx]
    refine i4 k l hk hl (fun f hc hd => hn f hc (by omega))
end YC5
