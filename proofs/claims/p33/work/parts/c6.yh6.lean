set_option maxRecDepth 100000
section YC6
variable {v sz gr : Nat} {me fi m b : Int}
theorem zsm_len (k t : Nat) : ∀ (J : List zE), zsm sz gr fi J k t ≤ (J.length : Int) := by
  intro J
  induction J with
  | nil => exact Int.le_refl _
  | cons a r ih =>
    have h := zsy_r (sz := sz) (gr := gr) (fi := fi) k a
    have hl : ((a :: r).length : Int) = (r.length : Int) + 1 := rfl
    show zsm sz gr fi r k t + (if t = zeT a then zsy sz gr fi k a else 0) ≤ _
    rw [hl]
    split <;> omega
theorem zsN_p {J : List zE} {k f l : Nat} (h : zsP sz gr fi J k f) (hfl : f ≤ l) : 0 < zsN sz gr fi J k f l ∧ zsN sz gr fi J k f l ≤ (J.length : Int) := by
  have h1 := zsm_le (sz := sz) (gr := gr) (fi := fi) k (l + 1) J
  have h2 := zsm_le (sz := sz) (gr := gr) (fi := fi) k f J
  have h3 := zpr_mono (g := zsm sz gr fi J k) (fun x => zsm_0 k x J) (a := f + 1) (b := l + 1) (by omega)
  have h4 : zpr (zsm sz gr fi J k) (f + 1) = zpr (zsm sz gr fi J k) f + zsm sz gr fi J k f := rfl
  have h5 : 0 < zsm sz gr fi J k f := h
  show 0 < zpr (zsm sz gr fi J k) (l + 1) - zpr (zsm sz gr fi J k) f ∧ zpr (zsm sz gr fi J k) (l + 1) - zpr (zsm sz gr fi J k) f ≤ (J.length : Int)
  omega
/-- the journal's counts and sums -/
theorem zsJ_at {k t : Nat} (hk : k < 8) : ∀ (J : List zE) (G : (Nat → Int32) × (Nat → Int32)), (∀ e ∈ J, zeK e < 8) → (zsJ sz gr fi J G).1 (t * 8 + k) = G.1 (t * 8 + k) + Int32.ofInt (zsm sz gr fi J k t) ∧ (zsJ sz gr fi J G).2 (t * 8 + k) = G.2 (t * 8 + k) + Int32.ofInt (zss sz gr fi J k t) := by
  intro J
  induction J with
  | nil =>
    intro G _
    show G.1 _ = G.1 _ + Int32.ofInt 0 ∧ G.2 _ = G.2 _ + Int32.ofInt 0
    rw [show Int32.ofInt 0 = (0 : Int32) from rfl, Int32.add_zero, Int32.add_zero]
    exact ⟨rfl, rfl⟩
  | cons e r ih =>
    intro G hK
    obtain ⟨a1, a2⟩ := ih (zsJ1 sz gr fi G e) (fun x hx => hK x (List.mem_cons_of_mem _ hx))
    have hke := hK e List.mem_cons_self
    show (zsJ sz gr fi r (zsJ1 sz gr fi G e)).1 (t * 8 + k) = G.1 _ + Int32.ofInt (zsm sz gr fi r k t + (if t = zeT e then zsy sz gr fi k e else 0)) ∧ (zsJ sz gr fi r (zsJ1 sz gr fi G e)).2 (t * 8 + k) = G.2 _ + Int32.ofInt (zss sz gr fi r k t + (if t = zeT e then zsz sz gr fi k e else 0))
    rw [a1, a2]
    have hq : (zLet false fi e = true ∧ ¬ (zeT e : Int) + (sz : Int) + 1 + (gr : Int) ≤ zeA e) ↔ zjtk false sz gr fi e = true := by
      unfold zjtk
      rw [Bool.and_eq_true]
      constructor
      · rintro ⟨h1, h2⟩
        exact ⟨h1, by rw [decide_eq_false h2]; rfl⟩
      · rintro ⟨h1, h2⟩
        refine ⟨h1, fun z => ?_⟩
        rw [decide_eq_true z] at h2
        cases h2
    have hs : (zsJ1 sz gr fi G e).1 (t * 8 + k) = G.1 (t * 8 + k) + Int32.ofInt (if t = zeT e then zsy sz gr fi k e else 0) ∧ (zsJ1 sz gr fi G e).2 (t * 8 + k) = G.2 (t * 8 + k) + Int32.ofInt (if t = zeT e then zsz sz gr fi k e else 0) := by
      have h0 : ∀ x : Int32, x + Int32.ofInt 0 = x := fun x => Int32.add_zero x
      unfold zsJ1
      by_cases hc : zLet false fi e = true ∧ ¬ (zeT e : Int) + (sz : Int) + 1 + (gr : Int) ≤ zeA e
      · rw [if_pos hc]
        show zAd G.1 (zeT e * 8 + zeK e) 1 (t * 8 + k) = _ ∧ zAd G.2 (zeT e * 8 + zeK e) (Int32.ofInt (zeV e)) (t * 8 + k) = _
        rw [zAd_at, zAd_at]
        by_cases ht : t = zeT e ∧ zeK e = k
        · obtain ⟨t1, t2⟩ := ht
          have hsl : t * 8 + k = zeT e * 8 + zeK e := by omega
          have hy : zsy sz gr fi k e = 1 := if_pos ⟨hq.mp hc, t2⟩
          have hz : zsz sz gr fi k e = zeV e := if_pos ⟨hq.mp hc, t2⟩
          rw [if_pos hsl, if_pos hsl, if_pos t1, if_pos t1, hy, hz, ← hsl]
          exact ⟨rfl, rfl⟩
        · have hsl : ¬ t * 8 + k = zeT e * 8 + zeK e := by omega
          rw [if_neg hsl, if_neg hsl]
          by_cases t1 : t = zeT e
          · have hy : zsy sz gr fi k e = 0 := if_neg (fun z => ht ⟨t1, z.2⟩)
            have hz : zsz sz gr fi k e = 0 := if_neg (fun z => ht ⟨t1, z.2⟩)
            rw [if_pos t1, if_pos t1, hy, hz, h0, h0]
            exact ⟨rfl, rfl⟩
          · rw [if_neg t1, if_neg t1, h0, h0]
            exact ⟨rfl, rfl⟩
      · rw [if_neg hc]
        have hy : zsy sz gr fi k e = 0 := if_neg (fun z => hc (hq.mpr z.1))
        have hz : zsz sz gr fi k e = 0 := if_neg (fun z => hc (hq.mpr z.1))
        rw [hy, hz]
        by_cases t1 : t = zeT e
        · rw [if_pos t1, h0, h0]
          exact ⟨rfl, rfl⟩
        · rw [if_neg t1, h0, h0]
          exact ⟨rfl, rfl⟩
    rw [hs.1, hs.2, Int32.add_assoc, Int32.add_assoc, ← Int32.ofInt_add, ← Int32.ofInt_add]
    exact ⟨by rw [Int.add_comm], by rw [Int.add_comm]⟩
/-- sessions found so far: those that end below a time -/
def zsFd (v sz gr : Nat) (me fi : Int) (J : List zE) (k : Nat) (m : Int) (B : Nat) (fb : Nat → Int64) : Prop := ∀ l, l < 1000 → (∀ f, zCl (zsP sz gr fi J k) sz f l → l < B → (l : Int) + (sz : Int) < m → fb (l * 8 + k) = zsR v sz gr me fi J k f l) ∧ ((∀ f, zCl (zsP sz gr fi J k) sz f l → l < B → ¬ (l : Int) + (sz : Int) < m) → fb (l * 8 + k) = 0)
theorem zsO1_fd {J : List zE} {k f l t : Nat} {gn gs : Nat → Int32} {fb : Nat → Int64} (hl : l < 1000) (hlt : l < t) (hc : zCl (zsP sz gr fi J k) sz f l) (hno : ∀ x, l < x → x < t → ¬ zsP sz gr fi J k x) (h1 : gn (l * 8 + k) = Int32.ofInt (zsN sz gr fi J k f l)) (h2 : gs (l * 8 + k) = Int32.ofInt (zsSu sz gr fi J k f l)) (h : zsFd v sz gr me fi J k m f fb) : zsFd v sz gr me fi J k m t (zsO1 v sz me gn gs k (f : Int) (l : Int) m fb) ∧ ∀ j, j ≠ l * 8 + k → zsO1 v sz me gn gs k (f : Int) (l : Int) m fb j = fb j := by
  have hat : ∀ j, zsO1 v sz me gn gs k (f : Int) (l : Int) m fb j = if j = l * 8 + k ∧ (l : Int) + (sz : Int) < m then zsR v sz gr me fi J k f l else fb j := fun j => by
    unfold zsO1
    by_cases hd : (l : Int) + (sz : Int) < m
    · have hx : 0 ≤ (l : Int) ∧ (l : Int) + (sz : Int) < m := ⟨by omega, hd⟩
      rw [if_pos hx, show ((l : Int)).toNat = l from rfl, h1, h2]
      show (if j = l * 8 + k then _ else fb j) = _
      by_cases hj : j = l * 8 + k
      · rw [if_pos hj, if_pos ⟨hj, hd⟩]
        rfl
      · rw [if_neg hj, if_neg (fun z => hj z.1)]
    · rw [if_neg (fun z => hd z.2), if_neg (fun z => hd z.2)]
  have hfl := hc.2.2.1
  refine ⟨fun l2 hl2 => ?_, fun j hj => by rw [hat, if_neg (fun z => hj z.1)]⟩
  obtain ⟨g1, g2⟩ := h l2 hl2
  have hcase : ∀ f2, zCl (zsP sz gr fi J k) sz f2 l2 → l2 < t → (f2 = f ∧ l2 = l) ∨ l2 < f := fun f2 hc2 hlt2 => by
    have := hc2.2.2.1
    rcases zCl_2 hc2 hc with z | z | z
    · exact Or.inl z
    · exact Or.inr (by omega)
    · exact absurd hc2.2.1 (hno l2 (by omega) hlt2)
  refine ⟨fun f2 hc2 hlt2 hd => ?_, fun hn => ?_⟩
  · rw [hat]
    rcases hcase f2 hc2 hlt2 with ⟨e1, e2⟩ | e
    · subst e1
      subst e2
      rw [if_pos ⟨rfl, hd⟩]
    · have hsl : ¬ (l2 * 8 + k = l * 8 + k ∧ (l : Int) + (sz : Int) < m) := fun z => by omega
      rw [if_neg hsl]
      exact g1 f2 hc2 e hd
  · rw [hat]
    have hsl : ¬ (l2 * 8 + k = l * 8 + k ∧ (l : Int) + (sz : Int) < m) := fun z => by
      have hll : l2 = l := by omega
      subst hll
      exact hn f hc hlt z.2
    rw [if_neg hsl]
    exact g2 (fun f2 hc2 hlt2 => hn f2 hc2 (by omega))
/-- the walk over the times of a key -/
def zsWk (v sz gr : Nat) (me fi : Int) (J : List zE) (k : Nat) (m : Int) (G0 : (Nat → Int32) × (Nat → Int32) × (Nat → Int64)) (t : Nat) (O : zSO) : Prop :=
  (∀ x, t ≤ x → x < 1000 → O.2.2.1 (x * 8 + k) = Int32.ofInt (zsm sz gr fi J k x) ∧ O.2.2.2.1 (x * 8 + k) = Int32.ofInt (zss sz gr fi J k x)) ∧
  (∀ j, j % 8 ≠ k → O.2.2.1 j = G0.1 j ∧ O.2.2.2.1 j = G0.2.1 j) ∧ (∀ j, (j % 8 ≠ k ∨ 8000 ≤ j) → O.2.2.2.2 j = G0.2.2 j) ∧
  ((O.2.1 = -1 ∧ (∀ x, x < t → ¬ zsP sz gr fi J k x) ∧ ∀ l, l < 1000 → O.2.2.2.2 (l * 8 + k) = 0) ∨
   ∃ f l : Nat, O.1 = (f : Int) ∧ O.2.1 = (l : Int) ∧ l < t ∧ f ≤ l ∧ zsP sz gr fi J k f ∧ zsP sz gr fi J k l ∧ (∀ x, f ≤ x → x < l → zsP sz gr fi J k x → ∃ y, x < y ∧ y ≤ x + sz ∧ y ≤ l ∧ zsP sz gr fi J k y) ∧ (∀ y, zsP sz gr fi J k y → y < f → y + sz < f) ∧ (∀ x, l < x → x < t → ¬ zsP sz gr fi J k x) ∧ O.2.2.1 (l * 8 + k) = Int32.ofInt (zsN sz gr fi J k f l) ∧ O.2.2.2.1 (l * 8 + k) = Int32.ofInt (zsSu sz gr fi J k f l) ∧ zsFd v sz gr me fi J k m f O.2.2.2.2)
theorem zsN_ext {J : List zE} {k f l t : Nat} (hfl : f ≤ l) (hlt : l < t) (hno : ∀ x, l < x → x < t → ¬ zsP sz gr fi J k x) : zsN sz gr fi J k f t = zsm sz gr fi J k t + zsN sz gr fi J k f l ∧ zsSu sz gr fi J k f t = zss sz gr fi J k t + zsSu sz gr fi J k f l := by
  obtain ⟨g1, g2⟩ := zsGap (J := J) (sz := sz) (gr := gr) (fi := fi) (k := k) (a := l + 1) (b := t) (by omega) (fun x h1 h2 => hno x (by omega) h2)
  have h1 : zpr (zsm sz gr fi J k) (t + 1) = zpr (zsm sz gr fi J k) t + zsm sz gr fi J k t := rfl
  have h2 : zpr (zss sz gr fi J k) (t + 1) = zpr (zss sz gr fi J k) t + zss sz gr fi J k t := rfl
  show zpr (zsm sz gr fi J k) (t + 1) - zpr (zsm sz gr fi J k) f = zsm sz gr fi J k t + (zpr (zsm sz gr fi J k) (l + 1) - zpr (zsm sz gr fi J k) f) ∧ zpr (zss sz gr fi J k) (t + 1) - zpr (zss sz gr fi J k) f = zss sz gr fi J k t + (zpr (zss sz gr fi J k) (l + 1) - zpr (zss sz gr fi J k) f)
  omega
set_option maxHeartbeats 1000000 in
theorem zsW1_ok {J : List zE} {k t : Nat} {G0 : (Nat → Int32) × (Nat → Int32) × (Nat → Int64)} {O : zSO} (hJ : J.length ≤ 72) (hk : k < 8) (ht : t < 1000) (h : zsWk v sz gr me fi J k m G0 t O) : zsWk v sz gr me fi J k m G0 (t + 1) (zsW1 v sz me k t m O) := by
  obtain ⟨h1, h2, h3, h4⟩ := h
  obtain ⟨c1, c2⟩ := h1 t (Nat.le_refl _) ht
  have hm0 := zsm_0 (sz := sz) (gr := gr) (fi := fi) k t J
  have hml := zsm_len (sz := sz) (gr := gr) (fi := fi) k t J
  have hpt : 0 < O.2.2.1 (t * 8 + k) ↔ zsP sz gr fi J k t := by
    rw [c1, zpos2 (by omega)]
  unfold zsW1
  by_cases hp : 0 < O.2.2.1 (t * 8 + k)
  · rw [if_pos hp]
    have hpt2 := hpt.mp hp
    by_cases hj : 0 ≤ O.2.1 ∧ (t : Int) - O.2.1 ≤ (sz : Int)
    · rw [if_pos hj]
      rcases h4 with ⟨w1, -, -⟩ | ⟨f, l, w1, w2, w3, w4, w5, w6, w7, w8, w9, w10, w11, w12⟩
      · omega
      · obtain ⟨e1, e2⟩ := zsN_ext (J := J) (sz := sz) (gr := gr) (fi := fi) w4 w3 w9
        have hN := zsN_p (sz := sz) (gr := gr) (fi := fi) w5 w4
        have hg : 0 < O.2.2.1 (l * 8 + k) := by
          rw [w10, zpos2 (by omega)]
          exact hN.1
        have ha : ∀ j, zaaN O.2.2.1 (t * 8 + k) (O.2.1.toNat * 8 + k) j = (if j = t * 8 + k then O.2.2.1 (t * 8 + k) + O.2.2.1 (l * 8 + k) else O.2.2.1 j) ∧ zaaS O.2.2.1 O.2.2.2.1 (t * 8 + k) (O.2.1.toNat * 8 + k) j = (if j = t * 8 + k then O.2.2.2.1 (t * 8 + k) + O.2.2.2.1 (l * 8 + k) else O.2.2.2.1 j) := fun j => by
          rw [w2, show ((l : Int)).toNat = l from rfl]
          unfold zaaN zaaS
          rw [if_pos hg, if_pos hg]
          exact ⟨rfl, rfl⟩
        refine ⟨fun x x1 x2 => ?_, fun j hj8 => ?_, h3, Or.inr ⟨f, t, w1, rfl, by omega, by omega, w5, hpt2, fun x x1 x2 x3 => ?_, w8, fun x x1 x2 => by omega, ?_, ?_, w12⟩⟩
        · show zaaN O.2.2.1 (t * 8 + k) (O.2.1.toNat * 8 + k) (x * 8 + k) = _ ∧ zaaS O.2.2.1 O.2.2.2.1 (t * 8 + k) (O.2.1.toNat * 8 + k) (x * 8 + k) = _
          obtain ⟨a1, a2⟩ := ha (x * 8 + k)
          have hsl : ¬ x * 8 + k = t * 8 + k := by omega
          rw [a1, a2, if_neg hsl, if_neg hsl]
          exact h1 x (by omega) x2
        · show zaaN O.2.2.1 (t * 8 + k) (O.2.1.toNat * 8 + k) j = _ ∧ zaaS O.2.2.1 O.2.2.2.1 (t * 8 + k) (O.2.1.toNat * 8 + k) j = _
          obtain ⟨a1, a2⟩ := ha j
          have hsl : ¬ j = t * 8 + k := by omega
          rw [a1, a2, if_neg hsl, if_neg hsl]
          exact h2 j hj8
        · by_cases hxl : x < l
          · obtain ⟨y, y1, y2, y3, y4⟩ := w7 x x1 hxl x3
            exact ⟨y, y1, y2, by omega, y4⟩
          · by_cases hxe : x = l
            · exact ⟨t, x2, by omega, Nat.le_refl _, hpt2⟩
            · exact absurd x3 (w9 x (by omega) x2)
        · show zaaN O.2.2.1 (t * 8 + k) (O.2.1.toNat * 8 + k) (t * 8 + k) = _
          rw [(ha _).1, if_pos rfl, c1, w10, ← Int32.ofInt_add, e1]
        · show zaaS O.2.2.1 O.2.2.2.1 (t * 8 + k) (O.2.1.toNat * 8 + k) (t * 8 + k) = _
          rw [(ha _).2, if_pos rfl, c2, w11, ← Int32.ofInt_add, e2]
    · rw [if_neg hj]
      have hNt : zsN sz gr fi J k t t = zsm sz gr fi J k t ∧ zsSu sz gr fi J k t t = zss sz gr fi J k t := by
        show zpr (zsm sz gr fi J k) t + zsm sz gr fi J k t - zpr (zsm sz gr fi J k) t = _ ∧ zpr (zss sz gr fi J k) t + zss sz gr fi J k t - zpr (zss sz gr fi J k) t = _
        omega
      rcases h4 with ⟨w1, w2, w3⟩ | ⟨f, l, w1, w2, w3, w4, w5, w6, w7, w8, w9, w10, w11, w12⟩
      · have hO : zsO1 v sz me O.2.2.1 O.2.2.2.1 k O.1 O.2.1 m O.2.2.2.2 = O.2.2.2.2 := if_neg (fun z => by omega)
        rw [hO]
        refine ⟨fun x x1 x2 => h1 x (by omega) x2, h2, h3, Or.inr ⟨t, t, rfl, rfl, by omega, Nat.le_refl _, hpt2, hpt2, fun x x1 x2 => by omega, fun y y1 y2 => absurd y1 (w2 y y2), fun x x1 x2 => by omega, by rw [hNt.1]; exact c1, by rw [hNt.2]; exact c2, fun l2 hl2 => ⟨fun f2 hc2 hlt2 => absurd hc2.2.1 (w2 l2 hlt2), fun _ => w3 l2 hl2⟩⟩⟩
      · have hcl : zCl (zsP sz gr fi J k) sz f l := ⟨w5, w6, w4, w7, w8, fun y y1 y2 => by
          by_cases hy : y < t
          · exact absurd y1 (w9 y y2 hy)
          · omega⟩
        obtain ⟨o1, o2⟩ := zsO1_fd (v := v) (me := me) (m := m) (gn := O.2.2.1) (gs := O.2.2.2.1) (fb := O.2.2.2.2) (by omega) w3 hcl w9 w10 w11 w12
        rw [w1, w2]
        refine ⟨fun x x1 x2 => h1 x (by omega) x2, h2, fun j hj8 => (o2 j (by omega)).trans (h3 j hj8), Or.inr ⟨t, t, rfl, rfl, by omega, Nat.le_refl _, hpt2, hpt2, fun x x1 x2 => by omega, fun y y1 y2 => ?_, fun x x1 x2 => by omega, by rw [hNt.1]; exact c1, by rw [hNt.2]; exact c2, o1⟩⟩
        by_cases hy : l < y
        · exact absurd y1 (w9 y hy y2)
        · omega
  · rw [if_neg hp]
    have hnp : ¬ zsP sz gr fi J k t := fun z => hp (hpt.mpr z)
    refine ⟨fun x x1 x2 => h1 x (by omega) x2, h2, h3, ?_⟩
    rcases h4 with ⟨w1, w2, w3⟩ | ⟨f, l, w1, w2, w3, w4, w5, w6, w7, w8, w9, w10, w11, w12⟩
    · refine Or.inl ⟨w1, fun x hx => ?_, w3⟩
      by_cases hxt : x = t
      · rw [hxt]; exact hnp
      · exact w2 x (by omega)
    · refine Or.inr ⟨f, l, w1, w2, by omega, w4, w5, w6, w7, w8, fun x x1 x2 => ?_, w10, w11, w12⟩
      by_cases hxt : x = t
      · rw [hxt]; exact hnp
      · exact w9 x x1 (by omega)
theorem zsWN_ok {J : List zE} {k : Nat} {G0 : (Nat → Int32) × (Nat → Int32) × (Nat → Int64)} (hJ : J.length ≤ 72) (hk : k < 8) : ∀ (n t : Nat) (O : zSO), t + n ≤ 1000 → zsWk v sz gr me fi J k m G0 t O → zsWk v sz gr me fi J k m G0 (t + n) (zsWN v sz me k m n t O) := by
  intro n
  induction n with
  | zero => intro t O _ h; exact h
  | succ n ih =>
    intro t O ht h
    have := ih (t + 1) _ (by omega) (zsW1_ok hJ hk (by omega) h)
    rw [show t + 1 + n = t + (n + 1) from by omega] at this
    exact this
/-- the sessions of a key are found -/
theorem zsOfG_ok {J : List zE} {k : Nat} {G : (Nat → Int32) × (Nat → Int32) × (Nat → Int64)} (hJ : J.length ≤ 72) (hT : ∀ x, zsP sz gr fi J k x → x < 1000) (hk : k < 8) (h1 : ∀ x, x < 1000 → G.1 (x * 8 + k) = Int32.ofInt (zsm sz gr fi J k x) ∧ G.2.1 (x * 8 + k) = Int32.ofInt (zss sz gr fi J k x)) (h2 : ∀ l, l < 1000 → G.2.2 (l * 8 + k) = 0) :
    (∀ j, j % 8 ≠ k → (zsOfG v sz me k m G).1 j = G.1 j ∧ (zsOfG v sz me k m G).2.1 j = G.2.1 j) ∧ (∀ j, (j % 8 ≠ k ∨ 8000 ≤ j) → (zsOfG v sz me k m G).2.2 j = G.2.2 j) ∧ zsFd v sz gr me fi J k m 1000 (zsOfG v sz me k m G).2.2 := by
  unfold zsOfG zsOf
  rw [zHide_eq]
  have hw := zsWN_ok (v := v) (sz := sz) (gr := gr) (me := me) (fi := fi) (m := m) (G0 := G) hJ hk 1000 0 (0, -1, G.1, G.2.1, G.2.2) (Nat.le_refl _) ⟨fun x _ hx => h1 x hx, fun j _ => ⟨rfl, rfl⟩, fun j _ => rfl, Or.inl ⟨rfl, fun x hx => absurd hx (Nat.not_lt_zero x), h2⟩⟩
  rw [Nat.zero_add] at hw
  generalize zsWN v sz me k m 1000 0 (0, -1, G.1, G.2.1, G.2.2) = O at hw
  obtain ⟨-, b2, b3, b4⟩ := hw
  refine ⟨b2, ?_⟩
  show (∀ j, (j % 8 ≠ k ∨ 8000 ≤ j) → zsO1 v sz me O.2.2.1 O.2.2.2.1 k O.1 O.2.1 m O.2.2.2.2 j = G.2.2 j) ∧ zsFd v sz gr me fi J k m 1000 (zsO1 v sz me O.2.2.1 O.2.2.2.1 k O.1 O.2.1 m O.2.2.2.2)
  rcases b4 with ⟨w1, w2, w3⟩ | ⟨f, l, w1, w2, w3, w4, w5, w6, w7, w8, w9, w10, w11, w12⟩
  · have hO : zsO1 v sz me O.2.2.1 O.2.2.2.1 k O.1 O.2.1 m O.2.2.2.2 = O.2.2.2.2 := if_neg (fun z => by omega)
    rw [hO]
    exact ⟨b3, fun l2 hl2 => ⟨fun f2 hc2 hlt2 => absurd hc2.2.1 (w2 l2 hlt2), fun _ => w3 l2 hl2⟩⟩
  · have hcl : zCl (zsP sz gr fi J k) sz f l := ⟨w5, w6, w4, w7, w8, fun y y1 y2 => absurd y1 (w9 y y2 (hT y y1))⟩
    obtain ⟨o1, o2⟩ := zsO1_fd (v := v) (me := me) (m := m) (gn := O.2.2.1) (gs := O.2.2.2.1) (fb := O.2.2.2.2) w3 w3 hcl w9 w10 w11 w12
    rw [w1, w2]
    exact ⟨fun j hj8 => (o2 j (by omega)).trans (b3 j hj8), o1⟩
theorem zsKs_ok {J : List zE} (hJ : J.length ≤ 72) (hT : ∀ k x, zsP sz gr fi J k x → x < 1000) : ∀ (n k : Nat) (G : (Nat → Int32) × (Nat → Int32) × (Nat → Int64)), k + n ≤ 8 → (∀ k2, k ≤ k2 → k2 < 8 → (∀ x, x < 1000 → G.1 (x * 8 + k2) = Int32.ofInt (zsm sz gr fi J k2 x) ∧ G.2.1 (x * 8 + k2) = Int32.ofInt (zss sz gr fi J k2 x)) ∧ ∀ l, l < 1000 → G.2.2 (l * 8 + k2) = 0) →
    (∀ j, (j % 8 < k ∨ 8000 ≤ j) → (zsKs v sz me m n k G).2.2 j = G.2.2 j) ∧ ∀ k2, k ≤ k2 → k2 < k + n → zsFd v sz gr me fi J k2 m 1000 (zsKs v sz me m n k G).2.2 := by
  intro n
  induction n with
  | zero => intro k G _ _; exact ⟨fun j _ => rfl, fun k2 h1 h2 => by omega⟩
  | succ n ih =>
    intro k G hk hG
    obtain ⟨g1, g2⟩ := hG k (Nat.le_refl _) (by omega)
    obtain ⟨a1, a2, a3⟩ := zsOfG_ok (v := v) (me := me) (m := m) hJ (hT k) (by omega) g1 g2
    obtain ⟨i1, i2⟩ := ih (k + 1) (zsOfG v sz me k m G) (by omega) (fun k2 h1 h2 => by
      obtain ⟨e1, e2⟩ := hG k2 (by omega) h2
      refine ⟨fun x hx => ?_, fun l hl => ?_⟩
      · obtain ⟨c1, c2⟩ := a1 (x * 8 + k2) (by omega)
        rw [c1, c2]
        exact e1 x hx
      · rw [a2 (l * 8 + k2) (Or.inl (by omega))]
        exact e2 l hl)
    refine ⟨fun j hj => ?_, fun k2 h1 h2 => ?_⟩
    · show (zsKs v sz me m n (k + 1) (zsOfG v sz me k m G)).2.2 j = _
      rw [i1 j (by omega)]
      exact a2 j (by omega)
    · show zsFd v sz gr me fi J k2 m 1000 (zsKs v sz me m n (k + 1) (zsOfG v sz me k m G)).2.2
      by_cases hkk : k2 = k
      · subst hkk
        have e : ∀ l, (zsKs v sz me m n (k2 + 1) (zsOfG v sz me k2 m G)).2.2 (l * 8 + k2) = (zsOfG v sz me k2 m G).2.2 (l * 8 + k2) := fun l => i1 _ (Or.inl (by omega))
        intro l hl
        rw [e]
        exact a3 l hl
      · exact i2 k2 (by omega) (by omega)
/-- what is found is what is told -/
theorem zsIv.found {J : List zE} {X : zSX} (hJ : J.length ≤ 72) (hJk : ∀ e ∈ J, zeK e < 8) (hJt : ∀ e ∈ J, zeT e < 1000) (h : zsIv v sz gr me fi J m X) : zsFound v sz gr me fi J m = X.1 := by
  obtain ⟨i1, i2, i3, i4, i5, i6, i7⟩ := h
  have h0 : ∀ x : Int32, (0 : Int32) + x = x := fun x => Int32.zero_add x
  obtain ⟨a1, a2⟩ := zsKs_ok (v := v) (sz := sz) (gr := gr) (me := me) (fi := fi) (m := m) hJ (fun k x hx => zsm_T hJt hx) 8 0 ((zsJ sz gr fi J (fun _ => 0, fun _ => 0)).1, (zsJ sz gr fi J (fun _ => 0, fun _ => 0)).2, fun _ => 0) (by omega) (fun k2 _ hk2 => ⟨fun x _ => by
    obtain ⟨c1, c2⟩ := zsJ_at (sz := sz) (gr := gr) (fi := fi) (t := x) hk2 J (fun _ => 0, fun _ => 0) hJk
    exact ⟨c1.trans (h0 _), c2.trans (h0 _)⟩, fun _ _ => rfl⟩)
  funext j
  unfold zsFound
  by_cases hj : 8000 ≤ j
  · rw [a1 j (Or.inr hj), i5 j hj]
  · have hj8 : j = j / 8 * 8 + j % 8 := by omega
    have hk : j % 8 < 8 := Nat.mod_lt _ (by omega)
    have hl : j / 8 < 1000 := by omega
    obtain ⟨b1, b2⟩ := a2 (j % 8) (Nat.zero_le _) (by omega) (j / 8) hl
    rw [← hj8] at b1 b2
    by_cases hc : ∃ f, zCl (zsP sz gr fi J (j % 8)) sz f (j / 8) ∧ ((j / 8 : Nat) : Int) + (sz : Int) < m
    · obtain ⟨f, hc, hd⟩ := hc
      rw [b1 f hc hl hd]
      have := i3 (j % 8) (j / 8) f hk hl hc hd
      rw [← hj8] at this
      exact this.symm
    · rw [b2 (fun f hcl _ hd => hc ⟨f, hcl, hd⟩)]
      have := i4 (j % 8) (j / 8) hk hl (fun f hcl hd => hc ⟨f, hcl, hd⟩)
      rw [← hj8] at this
      exact this.symm
/-- the first state -/
theorem zsIv_0 {hd : Nat → Int32} {dr : Int32} {ff : Nat → Int} {out : List Int64} (hhd : ∀ k, hd k = 0) : zsIv v sz gr me fi [] m (fun _ => 0, hd, dr, fun _ => 0, fun _ => 0, ff, out) := by
  have hn : ∀ k f l, ¬ zCl (zsP sz gr fi [] k) sz f l := fun k f l hc => absurd hc.1 (Int.lt_irrefl 0)
  refine ⟨fun k l f _ _ hc => absurd hc (hn k f l), fun k l _ _ _ => ⟨rfl, rfl⟩, fun k l f _ _ hc => absurd hc (hn k f l), fun k l _ _ _ => rfl, fun j _ => rfl, fun k _ => ?_, fun t _ => hhd t⟩
  show hd k = _
  rw [hhd]
  have : zsH (fun _ => 0) k = 0 := by
    unfold zsH
    have h : ∀ n, znb (fun _ => decide (0 < (0 : Int32))) n = 0 := fun n => by
      induction n with
      | zero => rfl
      | succ n ih =>
        have := znb_same (p := fun _ => decide (0 < (0 : Int32))) (q := fun _ => false) (n + 1) (fun _ _ => rfl)
        rw [this]
        clear this ih
        induction n with
        | zero => rfl
        | succ n ih => exact ih
    exact h 1000
  show (0 : Int32) = Int32.ofInt ((zsH (fun _ => 0) k : Nat) : Int)
  rw [this]
  rfl
end YC6
