set_option maxRecDepth 100000
section YC0
/-- a session of the times that p has: from f to l, with no gap greater than sz, and more than sz apart from all others -/
def zCl (p : Nat → Prop) (sz f l : Nat) : Prop := p f ∧ p l ∧ f ≤ l ∧ (∀ x, f ≤ x → x < l → p x → ∃ y, x < y ∧ y ≤ x + sz ∧ y ≤ l ∧ p y) ∧ (∀ y, p y → y < f → y + sz < f) ∧ ∀ y, p y → l < y → l + sz < y
variable {p : Nat → Prop} {sz : Nat}
theorem zCl_no {f f2 l : Nat} (h : zCl p sz f l) (h2 : ∀ y, p y → y < f2 → y + sz < f2) (hl : f2 ≤ l) : ∀ (d x : Nat), f2 - x ≤ d → f ≤ x → x < f2 → p x → False := by
  intro d
  induction d with
  | zero => intro x h1 h3 h4 h5; omega
  | succ d ih =>
    intro x h1 h3 h4 h5
    obtain ⟨y, y1, y2, y3, y4⟩ := h.2.2.2.1 x h3 (by omega) h5
    have := h2 x h5 h4
    exact ih y (by omega) (by omega) (by omega) y4
theorem zCl_1 {f f2 l : Nat} (h : zCl p sz f l) (h2 : zCl p sz f2 l) : f = f2 := by
  rcases Nat.lt_trichotomy f f2 with z | z | z
  · exact (zCl_no h h2.2.2.2.2.1 h2.2.2.1 (f2 - f) f (Nat.le_refl _) (Nat.le_refl _) z h.1).elim
  · exact z
  · exact (zCl_no h2 h.2.2.2.2.1 h.2.2.1 (f - f2) f2 (Nat.le_refl _) (Nat.le_refl _) z h2.1).elim
theorem zCl_2 {f l f2 l2 : Nat} (h : zCl p sz f l) (h2 : zCl p sz f2 l2) : (f = f2 ∧ l = l2) ∨ l + sz < f2 ∨ l2 + sz < f := by
  rcases Nat.lt_trichotomy l l2 with z | z | z
  · by_cases hf : l < f2
    · exact Or.inr (Or.inl (h2.2.2.2.2.1 l h.2.1 hf))
    · obtain ⟨y, y1, y2, y3, y4⟩ := h2.2.2.2.1 l (by omega) z h.2.1
      have := h.2.2.2.2.2 y y4 y1
      omega
  · subst z
    exact Or.inl ⟨zCl_1 h h2, rfl⟩
  · by_cases hf : l2 < f
    · exact Or.inr (Or.inr (h.2.2.2.2.1 l2 h2.2.1 hf))
    · obtain ⟨y, y1, y2, y3, y4⟩ := h.2.2.2.1 l2 (by omega) z h2.2.1
      have := h2.2.2.2.2.2 y y4 y1
      omega
/-- the last one before a time -/
theorem zlast (p : Nat → Prop) : ∀ x, (∃ y, y < x ∧ p y) → ∃ y, y < x ∧ p y ∧ ∀ z, y < z → z < x → ¬ p z := by
  intro x
  induction x with
  | zero => rintro ⟨y, h, -⟩; omega
  | succ x ih =>
    rintro ⟨y, h1, h2⟩
    by_cases hx : p x
    · exact ⟨x, by omega, hx, fun z a b => by omega⟩
    · have hyx : y ≠ x := fun z => hx (by rw [← z]; exact h2)
      obtain ⟨w, w1, w2, w3⟩ := ih ⟨y, by omega, h2⟩
      refine ⟨w, by omega, w2, fun z a b => ?_⟩
      by_cases hz : z = x
      · subst hz; exact hx
      · exact w3 z a (by omega)
/-- the next one behind a time -/
theorem znext (p : Nat → Prop) (x : Nat) : ∀ d, p (x + 1 + d) → ∃ y, x < y ∧ p y ∧ ∀ z, x < z → z < y → ¬ p z := by
  intro d
  induction d using Nat.strongRecOn with
  | ind d ih =>
    intro h
    by_cases hc : ∃ e, e < d ∧ p (x + 1 + e)
    · obtain ⟨e, e1, e2⟩ := hc
      exact ih e e1 e2
    · refine ⟨x + 1 + d, by omega, h, fun z a b hz => hc ⟨z - (x + 1), by omega, ?_⟩⟩
      rw [show x + 1 + (z - (x + 1)) = z from by omega]
      exact hz
/-- where a session begins -/
theorem zLeft (p : Nat → Prop) (sz : Nat) : ∀ x, p x → ∃ f, f ≤ x ∧ p f ∧ (∀ z, f ≤ z → z < x → p z → ∃ y, z < y ∧ y ≤ z + sz ∧ y ≤ x ∧ p y) ∧ ∀ y, p y → y < f → y + sz < f := by
  intro x
  induction x using Nat.strongRecOn with
  | ind x ih =>
    intro hx
    by_cases hc : ∃ y, y < x ∧ p y
    · obtain ⟨y, y1, y2, y3⟩ := zlast p x hc
      by_cases hg : x ≤ y + sz
      · obtain ⟨f, f1, f2, f3, f4⟩ := ih y y1 y2
        refine ⟨f, by omega, f2, fun z a b hz => ?_, f4⟩
        rcases Nat.lt_trichotomy z y with w | w | w
        · obtain ⟨u, u1, u2, u3, u4⟩ := f3 z a w hz
          exact ⟨u, u1, u2, by omega, u4⟩
        · subst w
          exact ⟨x, b, hg, Nat.le_refl _, hx⟩
        · exact absurd hz (y3 z w b)
      · refine ⟨x, Nat.le_refl _, hx, fun z a b => by omega, fun z hz hzx => ?_⟩
        by_cases hzy : z ≤ y
        · omega
        · exact absurd hz (y3 z (by omega) hzx)
    · exact ⟨x, Nat.le_refl _, hx, fun z a b => by omega, fun z hz hzx => absurd ⟨z, hzx, hz⟩ hc⟩
/-- where it ends -/
theorem zRight {T : Nat} (hT : ∀ x, p x → x < T) (sz : Nat) : ∀ d x, T - x ≤ d → p x → ∃ l, x ≤ l ∧ p l ∧ (∀ z, x ≤ z → z < l → p z → ∃ y, z < y ∧ y ≤ z + sz ∧ y ≤ l ∧ p y) ∧ ∀ y, p y → l < y → l + sz < y := by
  intro d
  induction d with
  | zero => intro x h hx; have := hT x hx; omega
  | succ d ih =>
    intro x h hx
    by_cases hc : ∃ e, p (x + 1 + e)
    · obtain ⟨e, he⟩ := hc
      obtain ⟨y, y1, y2, y3⟩ := znext p x e he
      by_cases hg : y ≤ x + sz
      · obtain ⟨l, l1, l2, l3, l4⟩ := ih y (by omega) y2
        refine ⟨l, by omega, l2, fun z a b hz => ?_, l4⟩
        by_cases hzx : z = x
        · subst hzx
          exact ⟨y, y1, hg, l1, y2⟩
        · by_cases hzy : z < y
          · exact absurd hz (y3 z (by omega) hzy)
          · exact l3 z (by omega) b hz
      · refine ⟨x, Nat.le_refl _, hx, fun z a b => by omega, fun z hz hzx => ?_⟩
        by_cases hzy : z < y
        · exact absurd hz (y3 z hzx hzy)
        · omega
    · refine ⟨x, Nat.le_refl _, hx, fun z a b => by omega, fun z hz hzx => ?_⟩
      exact absurd ⟨z - (x + 1), by rw [show x + 1 + (z - (x + 1)) = z from by omega]; exact hz⟩ hc
/-- every time belongs to a session -/
theorem zCl_in {T : Nat} (hT : ∀ x, p x → x < T) {x : Nat} (hx : p x) : ∃ f l, f ≤ x ∧ x ≤ l ∧ zCl p sz f l := by
  obtain ⟨f, f1, f2, f3, f4⟩ := zLeft p sz x hx
  obtain ⟨l, l1, l2, l3, l4⟩ := zRight hT sz (T - x) x (Nat.le_refl _) hx
  refine ⟨f, l, f1, l1, f2, l2, by omega, fun z a b hz => ?_, f4, l4⟩
  by_cases h : z < x
  · obtain ⟨y, y1, y2, y3, y4⟩ := f3 z a h hz
    exact ⟨y, y1, y2, by omega, y4⟩
  · exact l3 z (by omega) b hz
/-- does a session reach a time -/
abbrev zRc (sz f l t : Nat) : Prop := f ≤ t + sz ∧ t ≤ l + sz
/-- a time more: those who reach it become one session -/
theorem zCl_ins {T t F L : Nat} (hT : ∀ x, p x → x < T) (h1 : F ≤ t ∧ t ≤ L) (h2 : ∀ f l, zCl p sz f l → zRc sz f l t → F ≤ f ∧ l ≤ L) (h3 : F = t ∨ ∃ l, zCl p sz F l ∧ zRc sz F l t) (h4 : L = t ∨ ∃ f, zCl p sz f L ∧ zRc sz f L t) :
    zCl (fun x => p x ∨ x = t) sz F L ∧ (∀ f l, zCl (fun x => p x ∨ x = t) sz f l ↔ (f = F ∧ l = L) ∨ (zCl p sz f l ∧ ¬ zRc sz f l t)) ∧ ∀ z, F ≤ z → z ≤ L → p z → ∃ f l, f ≤ z ∧ z ≤ l ∧ zCl p sz f l ∧ zRc sz f l t := by
  have inside : ∀ z, F ≤ z → z ≤ L → p z → ∃ f l, f ≤ z ∧ z ≤ l ∧ zCl p sz f l ∧ zRc sz f l t := by
    intro z a b hz
    obtain ⟨f, l, f1, l1, hc⟩ := zCl_in (sz := sz) hT hz
    refine ⟨f, l, f1, l1, hc, ?_⟩
    by_cases hr : zRc sz f l t
    · exact hr
    · exfalso
      by_cases hlt : l + sz < t
      · rcases h3 with z3 | ⟨l3, c3, r3⟩
        · omega
        · rcases zCl_2 hc c3 with ⟨e1, e2⟩ | e | e
          · omega
          · omega
          · omega
      · have hft : t + sz < f := by omega
        rcases h4 with z4 | ⟨f4, c4, r4⟩
        · omega
        · rcases zCl_2 hc c4 with ⟨e1, e2⟩ | e | e
          · omega
          · omega
          · omega
  have hpF : p F ∨ F = t := by
    rcases h3 with z | ⟨l3, c3, -⟩
    · exact Or.inr z
    · exact Or.inl c3.1
  have hpL : p L ∨ L = t := by
    rcases h4 with z | ⟨f4, c4, -⟩
    · exact Or.inr z
    · exact Or.inl c4.2.1
  have hFL : zCl (fun x => p x ∨ x = t) sz F L := by
    refine ⟨hpF, hpL, by omega, fun z a b hz => ?_, fun y hy hyF => ?_, fun y hy hyL => ?_⟩
    · by_cases hzt : z = t
      · subst hzt
        rcases h4 with w | ⟨f4, c4, r4⟩
        · omega
        · by_cases hf : z < f4
          · exact ⟨f4, hf, r4.1, c4.2.2.1, Or.inl c4.1⟩
          · obtain ⟨w, w1, w2, w3⟩ := zlast p (z + 1) ⟨f4, by omega, c4.1⟩
            have hfw : f4 ≤ w := by
              by_cases hlt : w < f4
              · exact absurd c4.1 (w3 f4 hlt (by omega))
              · omega
            obtain ⟨y, y1, y2, y3, y4⟩ := c4.2.2.2.1 w hfw (by omega) w2
            refine ⟨y, ?_, by omega, y3, Or.inl y4⟩
            by_cases hyz : y ≤ z
            · exact absurd y4 (w3 y y1 (by omega))
            · omega
      · have hpz : p z := by
          rcases hz with w | w
          · exact w
          · exact absurd w hzt
        obtain ⟨f, l, f1, l1, hc, hr⟩ := inside z a (by omega) hpz
        have hin := h2 f l hc hr
        by_cases hzl : z < l
        · obtain ⟨y, y1, y2, y3, y4⟩ := hc.2.2.2.1 z f1 hzl hpz
          exact ⟨y, y1, y2, by omega, Or.inl y4⟩
        · have hzl : z = l := by omega
          by_cases hlt : l < t
          · exact ⟨t, by omega, by omega, by omega, Or.inr rfl⟩
          · rcases h4 with w | ⟨f4, c4, r4⟩
            · omega
            · rcases zCl_2 hc c4 with ⟨e1, e2⟩ | e | e
              · omega
              · omega
              · omega
    · have hyt : y ≠ t := by omega
      have hpy : p y := by
        rcases hy with w | w
        · exact w
        · exact absurd w hyt
      rcases h3 with w | ⟨l3, c3, r3⟩
      · obtain ⟨f, l, f1, l1, hc⟩ := zCl_in (sz := sz) hT hpy
        by_cases hr : zRc sz f l t
        · have := h2 f l hc hr
          omega
        · omega
      · exact c3.2.2.2.2.1 y hpy hyF
    · have hyt : y ≠ t := by omega
      have hpy : p y := by
        rcases hy with w | w
        · exact w
        · exact absurd w hyt
      rcases h4 with w | ⟨f4, c4, r4⟩
      · obtain ⟨f, l, f1, l1, hc⟩ := zCl_in (sz := sz) hT hpy
        by_cases hr : zRc sz f l t
        · have := h2 f l hc hr
          omega
        · omega
      · exact c4.2.2.2.2.2 y hpy hyL
  refine ⟨hFL, fun f l => ⟨fun h => ?_, fun h => ?_⟩, inside⟩
  · by_cases ht : f ≤ t ∧ t ≤ l
    · rcases zCl_2 h hFL with e | e | e
      · exact Or.inl e
      · omega
      · omega
    · refine Or.inr ⟨?_, fun hr => ?_⟩
      · obtain ⟨a1, a2, a3, a4, a5, a6⟩ := h
        have np : ∀ x, f ≤ x → x ≤ l → (p x ∨ x = t) → p x := fun x b1 b2 b3 => by
          rcases b3 with w | w
          · exact w
          · omega
        refine ⟨np f (Nat.le_refl _) a3 a1, np l a3 (Nat.le_refl _) a2, a3, fun x b1 b2 b3 => ?_, fun y b1 b2 => a5 y (Or.inl b1) b2, fun y b1 b2 => a6 y (Or.inl b1) b2⟩
        obtain ⟨y, y1, y2, y3, y4⟩ := a4 x b1 b2 (Or.inl b3)
        exact ⟨y, y1, y2, y3, np y (by omega) y3 y4⟩
      · by_cases htf : t < f
        · have := h.2.2.2.2.1 t (Or.inr rfl) htf
          omega
        · have := h.2.2.2.2.2 t (Or.inr rfl) (by omega)
          omega
  · rcases h with ⟨rfl, rfl⟩ | ⟨hc, hr⟩
    · exact hFL
    · obtain ⟨a1, a2, a3, a4, a5, a6⟩ := hc
      have ht : t + sz < f ∨ l + sz < t := by omega
      refine ⟨Or.inl a1, Or.inl a2, a3, fun x b1 b2 b3 => ?_, fun y b1 b2 => ?_, fun y b1 b2 => ?_⟩
      · rcases b3 with w | w
        · obtain ⟨y, y1, y2, y3, y4⟩ := a4 x b1 b2 w
          exact ⟨y, y1, y2, y3, Or.inl y4⟩
        · omega
      · rcases b1 with w | w
        · exact a5 y w b2
        · omega
      · rcases b1 with w | w
        · exact a6 y w b2
        · omega
/-- sums from the beginning -/
def zpr (g : Nat → Int) : Nat → Int
  | 0 => 0
  | x + 1 => zpr g x + g x
theorem zpr_z {g : Nat → Int} {a : Nat} : ∀ d, (∀ x, a ≤ x → x < a + d → g x = 0) → zpr g (a + d) = zpr g a := by
  intro d
  induction d with
  | zero => intro _; rfl
  | succ d ih =>
    intro h
    show zpr g (a + d) + g (a + d) = _
    rw [ih (fun x h1 h2 => h x h1 (by omega)), h (a + d) (by omega) (by omega)]
    omega
theorem zpr_0 {g : Nat → Int} {a b : Nat} (hab : a ≤ b) (h : ∀ x, a ≤ x → x < b → g x = 0) : zpr g b = zpr g a := by
  have := zpr_z (g := g) (a := a) (b - a) (fun x h1 h2 => h x h1 (by omega))
  rw [show a + (b - a) = b from by omega] at this
  exact this
theorem zpr_ins {g g2 : Nat → Int} {t : Nat} {y : Int} (h : ∀ x, g2 x = g x + (if x = t then y else 0)) : ∀ x, zpr g2 x = zpr g x + (if t < x then y else 0) := by
  intro x
  induction x with
  | zero => rfl
  | succ x ih =>
    show zpr g2 x + g2 x = zpr g x + g x + _
    rw [ih, h x]
    by_cases h1 : x = t
    · subst h1
      rw [if_pos rfl, if_neg (by omega), if_pos (by omega)]
      omega
    · rw [if_neg h1]
      by_cases h2 : t < x
      · rw [if_pos h2, if_pos (by omega)]
        omega
      · rw [if_neg h2, if_neg (by omega)]
        omega
theorem zpr_mono {g : Nat → Int} (h : ∀ x, 0 ≤ g x) : ∀ {a b : Nat}, a ≤ b → zpr g a ≤ zpr g b := by
  intro a b hab
  induction b with
  | zero => rw [Nat.le_zero.mp hab]; exact Int.le_refl _
  | succ b ih =>
    by_cases h1 : a = b + 1
    · rw [h1]; exact Int.le_refl _
    · have := ih (by omega)
      have h2 := h b
      show zpr g a ≤ zpr g b + g b
      omega
end YC0
