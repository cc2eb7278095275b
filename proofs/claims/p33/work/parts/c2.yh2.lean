set_option maxRecDepth 100000
section YC2
variable {v sz gr : Nat} {me fi m b : Int}
theorem zsm_ne {J : List zE} {e : zE} {k : Nat} (hk : k ≠ zeK e) : zsm sz gr fi (J ++ [e]) k = zsm sz gr fi J k := by
  funext t
  rw [zsm_app, show zsy sz gr fi k e = 0 from if_neg (fun z => hk z.2.symm)]
  split <;> omega
theorem zss_ne {J : List zE} {e : zE} {k : Nat} (hk : k ≠ zeK e) : zss sz gr fi (J ++ [e]) k = zss sz gr fi J k := by
  funext t
  rw [zss_app, show zsz sz gr fi k e = 0 from if_neg (fun z => hk z.2.symm)]
  split <;> omega
theorem zsm_no {J : List zE} {e : zE} (ht : zjtk false sz gr fi e = false) (k : Nat) : zsm sz gr fi (J ++ [e]) k = zsm sz gr fi J k := by
  funext t
  rw [zsm_app, show zsy sz gr fi k e = 0 from if_neg (fun z => by rw [ht] at z; exact absurd z.1 (by decide))]
  split <;> omega
theorem zss_no {J : List zE} {e : zE} (ht : zjtk false sz gr fi e = false) (k : Nat) : zss sz gr fi (J ++ [e]) k = zss sz gr fi J k := by
  funext t
  rw [zss_app, show zsz sz gr fi k e = 0 from if_neg (fun z => by rw [ht] at z; exact absurd z.1 (by decide))]
  split <;> omega
theorem zsm_in {J : List zE} {e : zE} (ht : zjtk false sz gr fi e = true) (t : Nat) : zsm sz gr fi (J ++ [e]) (zeK e) t = zsm sz gr fi J (zeK e) t + (if t = zeT e then 1 else 0) := by
  rw [zsm_app, show zsy sz gr fi (zeK e) e = 1 from if_pos ⟨ht, rfl⟩]
theorem zss_in {J : List zE} {e : zE} (ht : zjtk false sz gr fi e = true) (t : Nat) : zss sz gr fi (J ++ [e]) (zeK e) t = zss sz gr fi J (zeK e) t + (if t = zeT e then zeV e else 0) := by
  rw [zss_app, show zsz sz gr fi (zeK e) e = zeV e from if_pos ⟨ht, rfl⟩]
theorem zsP_in {J : List zE} {e : zE} (ht : zjtk false sz gr fi e = true) : zsP sz gr fi (J ++ [e]) (zeK e) = fun x => zsP sz gr fi J (zeK e) x ∨ x = zeT e := by
  funext x
  apply propext
  show 0 < zsm sz gr fi (J ++ [e]) (zeK e) x ↔ 0 < zsm sz gr fi J (zeK e) x ∨ x = zeT e
  have h0 := zsm_0 (sz := sz) (gr := gr) (fi := fi) (zeK e) x J
  rw [zsm_in ht]
  split <;> omega
theorem zss_z {k t : Nat} : ∀ {J : List zE}, zsm sz gr fi J k t = 0 → zss sz gr fi J k t = 0 := by
  intro J
  induction J with
  | nil => intro _; rfl
  | cons a r ih =>
    intro h
    have h : zsm sz gr fi r k t + (if t = zeT a then zsy sz gr fi k a else 0) = 0 := h
    have h0 := zsm_0 (sz := sz) (gr := gr) (fi := fi) k t r
    have h1 := zsy_r (sz := sz) (gr := gr) (fi := fi) k a
    show zss sz gr fi r k t + (if t = zeT a then zsz sz gr fi k a else 0) = 0
    by_cases ht : t = zeT a
    · rw [if_pos ht] at h ⊢
      rw [ih (by omega)]
      have hy : zsy sz gr fi k a = 0 := by omega
      unfold zsy at hy
      unfold zsz
      split at hy
      · cases hy
      · rename_i hc
        rw [if_neg hc]
        rfl
    · rw [if_neg ht] at h ⊢
      rw [ih (by omega)]
      rfl
theorem zsGap {J : List zE} {k a b : Nat} (hab : a ≤ b) (h : ∀ x, a ≤ x → x < b → ¬ zsP sz gr fi J k x) : zpr (zsm sz gr fi J k) b = zpr (zsm sz gr fi J k) a ∧ zpr (zss sz gr fi J k) b = zpr (zss sz gr fi J k) a := by
  have h0 : ∀ x, a ≤ x → x < b → zsm sz gr fi J k x = 0 := fun x h1 h2 => by
    have := h x h1 h2
    have h3 := zsm_0 (sz := sz) (gr := gr) (fi := fi) k x J
    have : ¬ 0 < zsm sz gr fi J k x := this
    omega
  exact ⟨zpr_0 hab h0, zpr_0 hab (fun x h1 h2 => zss_z (h0 x h1 h2))⟩
/-- sums of the journal with one row more -/
theorem zsN_in {J : List zE} {e : zE} (ht : zjtk false sz gr fi e = true) (f l : Nat) : zsN sz gr fi (J ++ [e]) (zeK e) f l = zsN sz gr fi J (zeK e) f l + ((if zeT e < l + 1 then 1 else 0) - (if zeT e < f then 1 else 0)) ∧ zsSu sz gr fi (J ++ [e]) (zeK e) f l = zsSu sz gr fi J (zeK e) f l + ((if zeT e < l + 1 then zeV e else 0) - (if zeT e < f then zeV e else 0)) := by
  have h1 := fun x => zpr_ins (g := zsm sz gr fi J (zeK e)) (g2 := zsm sz gr fi (J ++ [e]) (zeK e)) (t := zeT e) (y := 1) (fun x => zsm_in ht x) x
  have h2 := fun x => zpr_ins (g := zss sz gr fi J (zeK e)) (g2 := zss sz gr fi (J ++ [e]) (zeK e)) (t := zeT e) (y := zeV e) (fun x => zss_in ht x) x
  unfold zsN zsSu
  rw [h1, h1, h2, h2]
  omega
theorem zsN_out {J : List zE} {e : zE} {f l : Nat} (ht : zjtk false sz gr fi e = true) (hfl : f ≤ l) (hr : ¬ zRc sz f l (zeT e)) : zsN sz gr fi (J ++ [e]) (zeK e) f l = zsN sz gr fi J (zeK e) f l ∧ zsSu sz gr fi (J ++ [e]) (zeK e) f l = zsSu sz gr fi J (zeK e) f l := by
  obtain ⟨h1, h2⟩ := zsN_in (J := J) ht f l
  rw [h1, h2]
  have hc : (zeT e < l + 1 ∧ zeT e < f) ∨ (¬ zeT e < l + 1 ∧ ¬ zeT e < f) := by omega
  rcases hc with ⟨c1, c2⟩ | ⟨c1, c2⟩
  · rw [if_pos c1, if_pos c2, if_pos c1, if_pos c2]
    omega
  · rw [if_neg c1, if_neg c2, if_neg c1, if_neg c2]
    omega
theorem zsR_eq {J1 J2 : List zE} {k f l : Nat} (h1 : zsN sz gr fi J1 k f l = zsN sz gr fi J2 k f l) (h2 : zsSu sz gr fi J1 k f l = zsSu sz gr fi J2 k f l) : zsR v sz gr me fi J1 k f l = zsR v sz gr me fi J2 k f l := by
  unfold zsR
  rw [h1, h2]
/-- a row that is taken: what comes of the view, as slots say it -/
theorem zsTake_core {J : List zE} {X : zSX} {e : zE} {F L : Nat} {js : List Nat} {fn2 fs2 : Nat → Int32} {ff2 : Nat → Int} {td2 : Nat → Int64} {hd2 : Nat → Int32} {dr2 : Int32} {out2 : List Int64} (hk : zeK e < 8) (htk : zjtk false sz gr fi e = true) (hal : m ≤ (zeT e : Int) + (sz : Int) + (gr : Int)) (h : zsIv v sz gr me fi J m X)
    (h1 : F ≤ zeT e ∧ zeT e ≤ L) (hL : L < 1000) (hC1 : zCl (fun x => zsP sz gr fi J (zeK e) x ∨ x = zeT e) sz F L) (hC2 : ∀ f l, zCl (fun x => zsP sz gr fi J (zeK e) x ∨ x = zeT e) sz f l ↔ (f = F ∧ l = L) ∨ (zCl (zsP sz gr fi J (zeK e)) sz f l ∧ ¬ zRc sz f l (zeT e)))
    (hjs : ∀ l, l < 1000 → (l * 8 + zeK e ∈ js ↔ ∃ f, zCl (zsP sz gr fi J (zeK e)) sz f l ∧ zRc sz f l (zeT e))) (hjs2 : ∀ x ∈ js, x < 8000 ∧ x % 8 = zeK e)
    (hfn : ∀ j, j < 8000 → fn2 j = if j = L * 8 + zeK e then Int32.ofInt (zsN sz gr fi (J ++ [e]) (zeK e) F L) else if j ∈ js then 0 else X.2.2.2.1 j)
    (hfs : ∀ j, j < 8000 → fs2 j = if j = L * 8 + zeK e then Int32.ofInt (zsSu sz gr fi (J ++ [e]) (zeK e) F L) else if j ∈ js then 0 else X.2.2.2.2.1 j)
    (hff : ∀ j, ff2 j = if j = L * 8 + zeK e then (F : Int) else X.2.2.2.2.2.1 j)
    (htd : ∀ j, td2 j = if j = L * 8 + zeK e then (if (L : Int) + (sz : Int) < m then zsR v sz gr me fi (J ++ [e]) (zeK e) F L else 0) else if j ∈ js then 0 else X.1 j)
    (hhd : hd2 (zeK e) = Int32.ofInt (zsH fn2 (zeK e) : Int)) (hhd2 : ∀ k, k ≠ zeK e → hd2 k = X.2.1 k) : zsIv v sz gr me fi (J ++ [e]) m (td2, hd2, dr2, fn2, fs2, ff2, out2) := by
  obtain ⟨i1, i2, i3, i4, i5, i6, i7⟩ := h
  have hne : ∀ f l, zCl (zsP sz gr fi J (zeK e)) sz f l → ¬ zRc sz f l (zeT e) → l ≠ L := fun f l hc hr hlL => by
    subst hlL
    have := zCl_1 ((hC2 f l).mpr (Or.inr ⟨hc, hr⟩)) hC1
    subst this
    exact hr ⟨by omega, by omega⟩
  have hnj : ∀ f l, l < 1000 → zCl (zsP sz gr fi J (zeK e)) sz f l → ¬ zRc sz f l (zeT e) → l * 8 + zeK e ∉ js := fun f l hl hc hr hx => by
    obtain ⟨f2, c2, r2⟩ := (hjs l hl).mp hx
    have := zCl_1 hc c2
    subst this
    exact hr r2
  have hother : ∀ k l, k < 8 → k ≠ zeK e → l * 8 + k ≠ L * 8 + zeK e ∧ l * 8 + k ∉ js := fun k l hk8 hkk => ⟨by omega, fun hx => by have := (hjs2 _ hx).2; omega⟩
  have hkf : ∀ k, k ≠ zeK e → zsP sz gr fi (J ++ [e]) k = zsP sz gr fi J k ∧ (∀ f l, zsN sz gr fi (J ++ [e]) k f l = zsN sz gr fi J k f l) ∧ ∀ f l, zsSu sz gr fi (J ++ [e]) k f l = zsSu sz gr fi J k f l := fun k hkk => by
    unfold zsP zsN zsSu
    rw [zsm_ne hkk, zss_ne hkk]
    exact ⟨rfl, fun _ _ => rfl, fun _ _ => rfl⟩
  have hPk := zsP_in (J := J) htk
  refine ⟨fun k l f hk8 hl hc hm => ?_, fun k l hk8 hl hn => ?_, fun k l f hk8 hl hc hm => ?_, fun k l hk8 hl hn => ?_, fun j hj => ?_, fun k hk8 => ?_, fun t ht => ?_⟩
  · show fn2 (l * 8 + k) = _ ∧ fs2 (l * 8 + k) = _ ∧ ff2 (l * 8 + k) = _
    rw [hfn _ (by omega), hfs _ (by omega), hff]
    by_cases hkk : k = zeK e
    · subst hkk
      rw [hPk] at hc
      rcases (hC2 f l).mp hc with ⟨rfl, rfl⟩ | ⟨hc2, hr⟩
      · rw [if_pos rfl, if_pos rfl, if_pos rfl]
        exact ⟨rfl, rfl, rfl⟩
      · have hlL := hne f l hc2 hr
        have hsl : ¬ l * 8 + zeK e = L * 8 + zeK e := by omega
        have hnn := hnj f l hl hc2 hr
        rw [if_neg hsl, if_neg hsl, if_neg hsl, if_neg hnn, if_neg hnn, (zsN_out htk hc2.2.2.1 hr).1, (zsN_out htk hc2.2.2.1 hr).2]
        exact i1 _ l f hk8 hl hc2 hm
    · obtain ⟨o1, o2⟩ := hother k l hk8 hkk
      obtain ⟨k1, k2, k3⟩ := hkf k hkk
      rw [if_neg o1, if_neg o1, if_neg o1, if_neg o2, if_neg o2, k2, k3]
      rw [k1] at hc
      exact i1 k l f hk8 hl hc hm
  · show fn2 (l * 8 + k) = 0 ∧ fs2 (l * 8 + k) = 0
    rw [hfn _ (by omega), hfs _ (by omega)]
    by_cases hkk : k = zeK e
    · subst hkk
      rw [hPk] at hn
      have hlL : l ≠ L := fun z => by
        subst z
        exact hn F hC1 (by omega)
      have hsl : ¬ l * 8 + zeK e = L * 8 + zeK e := by omega
      rw [if_neg hsl, if_neg hsl]
      by_cases hx : l * 8 + zeK e ∈ js
      · rw [if_pos hx, if_pos hx]
        exact ⟨rfl, rfl⟩
      · rw [if_neg hx, if_neg hx]
        refine i2 _ l hk8 hl (fun f hc => ?_)
        by_cases hr : zRc sz f l (zeT e)
        · exact absurd ((hjs l hl).mpr ⟨f, hc, hr⟩) hx
        · exact hn f ((hC2 f l).mpr (Or.inr ⟨hc, hr⟩))
    · obtain ⟨o1, o2⟩ := hother k l hk8 hkk
      obtain ⟨k1, k2, k3⟩ := hkf k hkk
      rw [if_neg o1, if_neg o1, if_neg o2, if_neg o2]
      rw [k1] at hn
      exact i2 k l hk8 hl hn
  · show td2 (l * 8 + k) = _
    rw [htd]
    by_cases hkk : k = zeK e
    · subst hkk
      rw [hPk] at hc
      rcases (hC2 f l).mp hc with ⟨rfl, rfl⟩ | ⟨hc2, hr⟩
      · rw [if_pos rfl, if_pos hm]
      · have hlL := hne f l hc2 hr
        have hsl : ¬ l * 8 + zeK e = L * 8 + zeK e := by omega
        rw [if_neg hsl, if_neg (hnj f l hl hc2 hr), zsR_eq (zsN_out htk hc2.2.2.1 hr).1 (zsN_out htk hc2.2.2.1 hr).2]
        exact i3 _ l f hk8 hl hc2 hm
    · obtain ⟨o1, o2⟩ := hother k l hk8 hkk
      obtain ⟨k1, k2, k3⟩ := hkf k hkk
      rw [if_neg o1, if_neg o2, zsR_eq (k2 f l) (k3 f l)]
      rw [k1] at hc
      exact i3 k l f hk8 hl hc hm
  · show td2 (l * 8 + k) = 0
    rw [htd]
    by_cases hkk : k = zeK e
    · subst hkk
      rw [hPk] at hn
      by_cases hlL : l = L
      · subst hlL
        rw [if_pos rfl, if_neg (hn F hC1)]
      · have hsl : ¬ l * 8 + zeK e = L * 8 + zeK e := by omega
        rw [if_neg hsl]
        by_cases hx : l * 8 + zeK e ∈ js
        · rw [if_pos hx]
        · rw [if_neg hx]
          refine i4 _ l hk8 hl (fun f hc => ?_)
          by_cases hr : zRc sz f l (zeT e)
          · exact absurd ((hjs l hl).mpr ⟨f, hc, hr⟩) hx
          · exact hn f ((hC2 f l).mpr (Or.inr ⟨hc, hr⟩))
    · obtain ⟨o1, o2⟩ := hother k l hk8 hkk
      obtain ⟨k1, k2, k3⟩ := hkf k hkk
      rw [if_neg o1, if_neg o2]
      rw [k1] at hn
      exact i4 k l hk8 hl hn
  · show td2 j = 0
    have hsl : ¬ j = L * 8 + zeK e := by omega
    rw [htd, if_neg hsl, if_neg (fun hx => by have := (hjs2 _ hx).1; omega)]
    exact i5 j hj
  · show hd2 k = Int32.ofInt (zsH fn2 k : Int)
    by_cases hkk : k = zeK e
    · subst hkk
      exact hhd
    · rw [hhd2 k hkk, i6 k hk8]
      have : zsH fn2 k = zsH X.2.2.2.1 k := znb_same _ (fun l hl => by
        obtain ⟨o1, o2⟩ := hother k l hk8 hkk
        rw [hfn _ (by omega), if_neg o1, if_neg o2])
      rw [this]
  · show hd2 t = 0
    rw [hhd2 t (by omega)]
    exact i7 t ht
end YC2
