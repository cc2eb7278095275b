set_option maxRecDepth 100000
section YC1
variable {v sz gr : Nat} {me fi m b : Int}
def zsy (sz gr : Nat) (fi : Int) (k : Nat) (e : zE) : Int := if zjtk false sz gr fi e = true ∧ zeK e = k then 1 else 0
def zsz (sz gr : Nat) (fi : Int) (k : Nat) (e : zE) : Int := if zjtk false sz gr fi e = true ∧ zeK e = k then zeV e else 0
/-- how many rows of a key and a time are taken, and their sum -/
def zsm (sz gr : Nat) (fi : Int) : List zE → Nat → Nat → Int
  | [], _, _ => 0
  | e :: r, k, t => zsm sz gr fi r k t + (if t = zeT e then zsy sz gr fi k e else 0)
def zss (sz gr : Nat) (fi : Int) : List zE → Nat → Nat → Int
  | [], _, _ => 0
  | e :: r, k, t => zss sz gr fi r k t + (if t = zeT e then zsz sz gr fi k e else 0)
theorem zsm_app (e : zE) (k t : Nat) : ∀ (J : List zE), zsm sz gr fi (J ++ [e]) k t = zsm sz gr fi J k t + (if t = zeT e then zsy sz gr fi k e else 0) := by
  intro J
  induction J with
  | nil => rfl
  | cons a r ih =>
    show zsm sz gr fi (r ++ [e]) k t + _ = zsm sz gr fi r k t + _ + _
    rw [ih]
    omega
theorem zss_app (e : zE) (k t : Nat) : ∀ (J : List zE), zss sz gr fi (J ++ [e]) k t = zss sz gr fi J k t + (if t = zeT e then zsz sz gr fi k e else 0) := by
  intro J
  induction J with
  | nil => rfl
  | cons a r ih =>
    show zss sz gr fi (r ++ [e]) k t + _ = zss sz gr fi r k t + _ + _
    rw [ih]
    omega
theorem zsy_r (k : Nat) (e : zE) : 0 ≤ zsy sz gr fi k e ∧ zsy sz gr fi k e ≤ 1 := by
  unfold zsy
  split <;> omega
theorem zsm_0 (k t : Nat) : ∀ (J : List zE), 0 ≤ zsm sz gr fi J k t := by
  intro J
  induction J with
  | nil => exact Int.le_refl _
  | cons a r ih =>
    have := zsy_r (sz := sz) (gr := gr) (fi := fi) k a
    show 0 ≤ zsm sz gr fi r k t + _
    split <;> omega
theorem zsm_T {k t : Nat} : ∀ {J : List zE}, (∀ e ∈ J, zeT e < 1000) → 0 < zsm sz gr fi J k t → t < 1000 := by
  intro J
  induction J with
  | nil => intro _ h; exact absurd h (Int.lt_irrefl _)
  | cons a r ih =>
    intro hJ h
    have h : 0 < zsm sz gr fi r k t + (if t = zeT a then zsy sz gr fi k a else 0) := h
    by_cases ht : t = zeT a
    · rw [ht]; exact hJ a List.mem_cons_self
    · rw [if_neg ht, Int.add_zero] at h
      exact ih (fun e he => hJ e (List.mem_cons_of_mem _ he)) h
theorem zsm_le (k x : Nat) : ∀ (J : List zE), 0 ≤ zpr (zsm sz gr fi J k) x ∧ zpr (zsm sz gr fi J k) x ≤ (J.length : Int) := by
  intro J
  induction J with
  | nil =>
    have h0 : ∀ x, zpr (zsm sz gr fi [] k) x = 0 := fun x => by
      induction x with
      | zero => rfl
      | succ x ih => show zpr (zsm sz gr fi [] k) x + 0 = 0; rw [ih]; rfl
    rw [h0]
    exact ⟨Int.le_refl _, Int.le_refl _⟩
  | cons a r ih =>
    have h := zpr_ins (g := zsm sz gr fi r k) (g2 := zsm sz gr fi (a :: r) k) (t := zeT a) (y := zsy sz gr fi k a) (fun _ => rfl) x
    have := zsy_r (sz := sz) (gr := gr) (fi := fi) k a
    rw [h]
    have hl : ((a :: r).length : Int) = (r.length : Int) + 1 := rfl
    rw [hl]
    split <;> omega
/-- the rows of a session: their number, their sum -/
abbrev zsN (sz gr : Nat) (fi : Int) (J : List zE) (k f l : Nat) : Int := zpr (zsm sz gr fi J k) (l + 1) - zpr (zsm sz gr fi J k) f
abbrev zsSu (sz gr : Nat) (fi : Int) (J : List zE) (k f l : Nat) : Int := zpr (zss sz gr fi J k) (l + 1) - zpr (zss sz gr fi J k) f
abbrev zsP (sz gr : Nat) (fi : Int) (J : List zE) (k : Nat) : Nat → Prop := fun x => 0 < zsm sz gr fi J k x
theorem zsN_pos {J : List zE} {k f l : Nat} (h : zCl (zsP sz gr fi J k) sz f l) : 0 < zsN sz gr fi J k f l ∧ zsN sz gr fi J k f l ≤ (J.length : Int) := by
  have h1 := zsm_le (sz := sz) (gr := gr) (fi := fi) k (l + 1) J
  have h2 := zsm_le (sz := sz) (gr := gr) (fi := fi) k f J
  have h3 := zpr_mono (g := zsm sz gr fi J k) (fun x => zsm_0 k x J) (a := f + 1) (b := l + 1) (by have := h.2.2.1; omega)
  have h4 : zpr (zsm sz gr fi J k) (f + 1) = zpr (zsm sz gr fi J k) f + zsm sz gr fi J k f := rfl
  have h5 : 0 < zsm sz gr fi J k f := h.1
  show 0 < zpr (zsm sz gr fi J k) (l + 1) - zpr (zsm sz gr fi J k) f ∧ zpr (zsm sz gr fi J k) (l + 1) - zpr (zsm sz gr fi J k) f ≤ (J.length : Int)
  omega
/-- the result of a session -/
noncomputable def zsR (v sz gr : Nat) (me fi : Int) (J : List zE) (k f l : Nat) : Int64 := zro (v : Int) (k : Int) (f : Int) (l : Int) (zme me (Int32.ofInt (zsN sz gr fi J k f l)) (Int32.ofInt (zsSu sz gr fi J k f l)))
/-- how many sessions of a key are held -/
def zsH (fn : Nat → Int32) (k : Nat) : Nat := znb (fun l => decide (0 < fn (l * 8 + k))) 1000
/-- a session view behind a journal -/
def zsIv (v sz gr : Nat) (me fi : Int) (J : List zE) (m : Int) (X : zSX) : Prop :=
  (∀ k l f, k < 8 → l < 1000 → zCl (zsP sz gr fi J k) sz f l → m ≤ (l : Int) + 2 * (sz : Int) + (gr : Int) → X.2.2.2.1 (l * 8 + k) = Int32.ofInt (zsN sz gr fi J k f l) ∧ X.2.2.2.2.1 (l * 8 + k) = Int32.ofInt (zsSu sz gr fi J k f l) ∧ X.2.2.2.2.2.1 (l * 8 + k) = (f : Int)) ∧
  (∀ k l, k < 8 → l < 1000 → (∀ f, zCl (zsP sz gr fi J k) sz f l → ¬ m ≤ (l : Int) + 2 * (sz : Int) + (gr : Int)) → X.2.2.2.1 (l * 8 + k) = 0 ∧ X.2.2.2.2.1 (l * 8 + k) = 0) ∧
  (∀ k l f, k < 8 → l < 1000 → zCl (zsP sz gr fi J k) sz f l → (l : Int) + (sz : Int) < m → X.1 (l * 8 + k) = zsR v sz gr me fi J k f l) ∧
  (∀ k l, k < 8 → l < 1000 → (∀ f, zCl (zsP sz gr fi J k) sz f l → ¬ (l : Int) + (sz : Int) < m) → X.1 (l * 8 + k) = 0) ∧
  (∀ j, 8000 ≤ j → X.1 j = 0) ∧ (∀ k, k < 8 → X.2.1 k = Int32.ofInt (zsH X.2.2.2.1 k : Int)) ∧ ∀ t, 8 ≤ t → X.2.1 t = 0
theorem zpos2 {n : Int} (h : -2147483648 ≤ n ∧ n < 2147483648) : 0 < Int32.ofInt n ↔ 0 < n := by
  rw [show (0 : Int32) = Int32.ofInt 0 from rfl, zI_lt (by omega) h]
/-- a slot has rows: a session that is held ends there -/
theorem zsIv.rows {J : List zE} {X : zSX} (hJ : J.length ≤ 72) (h : zsIv v sz gr me fi J m X) {k l : Nat} (hk : k < 8) (hl : l < 1000) : 0 < X.2.2.2.1 (l * 8 + k) ↔ ∃ f, zCl (zsP sz gr fi J k) sz f l ∧ m ≤ (l : Int) + 2 * (sz : Int) + (gr : Int) := by
  obtain ⟨h1, h2, -⟩ := h
  constructor
  · intro hp
    apply Classical.byContradiction
    intro hn
    have := (h2 k l hk hl (fun f hc hm => hn ⟨f, hc, hm⟩)).1
    rw [this] at hp
    exact absurd hp (by decide)
  · rintro ⟨f, hc, hm⟩
    have hp := zsN_pos hc
    rw [(h1 k l f hk hl hc hm).1, zpos2 (by omega)]
    exact hp.1
/-- who reaches a row -/
theorem zsRe_iff {J : List zE} {X : zSX} {e : zE} {l : Nat} (hJ : J.length ≤ 72) (hk : zeK e < 8) (hl : l < 1000) (hlate : ¬ (zeT e : Int) + (sz : Int) + 1 + (gr : Int) ≤ m) (h : zsIv v sz gr me fi J m X) : zsRe sz X.2.2.2.1 X.2.2.2.2.2.1 (l * 8 + zeK e) (zeT e : Int) ↔ ∃ f, zCl (zsP sz gr fi J (zeK e)) sz f l ∧ zRc sz f l (zeT e) := by
  have hd : (((l * 8 + zeK e : Nat) : Int)) / 8 = (l : Int) := by omega
  constructor
  · rintro ⟨a, c1, c2⟩
    obtain ⟨f, hc, hm⟩ := (h.rows hJ hk hl).mp a
    have hf := (h.1 _ l f hk hl hc hm).2.2
    rw [hf] at c1
    exact ⟨f, hc, by omega, by omega⟩
  · rintro ⟨f, hc, hr⟩
    have hm : m ≤ (l : Int) + 2 * (sz : Int) + (gr : Int) := by have := hr.2; omega
    have hf := (h.1 _ l f hk hl hc hm).2.2
    refine ⟨(h.rows hJ hk hl).mpr ⟨f, hc, hm⟩, ?_, ?_⟩
    · rw [hf]; have := hr.1; omega
    · have := hr.2; omega
/-- the search: the first two, in their order -/
theorem zsLk_sp {fn : Nat → Int32} {ff : Nat → Int} {e : zE} : ∀ (n l : Nat) (js : List Nat), js.length ≤ 2 → ∃ r : List Nat, zsLk sz fn ff e n l js = js ++ r ∧ js.length + r.length ≤ 2 ∧ (∀ x ∈ r, ∃ u, x = u * 8 + zeK e ∧ l ≤ u ∧ u < l + n ∧ zsRe sz fn ff (u * 8 + zeK e) (zeT e : Int)) ∧ List.Pairwise (fun a b => a < b) r ∧ (js.length + r.length < 2 → ∀ u, l ≤ u → u < l + n → zsRe sz fn ff (u * 8 + zeK e) (zeT e : Int) → u * 8 + zeK e ∈ r) := by
  intro n
  induction n with
  | zero => intro l js hj; exact ⟨[], (List.append_nil _).symm, hj, fun x hx => (by cases hx), List.Pairwise.nil, fun _ u h1 h2 => by omega⟩
  | succ n ih =>
    intro l js hj
    show ∃ r : List Nat, (if 2 ≤ js.length then js else zsLk sz fn ff e n (l + 1) (if zsRe sz fn ff (l * 8 + zeK e) (zeT e : Int) then js ++ [l * 8 + zeK e] else js)) = js ++ r ∧ _
    by_cases h2 : 2 ≤ js.length
    · rw [if_pos h2]
      exact ⟨[], (List.append_nil _).symm, hj, fun x hx => (by cases hx), List.Pairwise.nil, fun hlt => by simp only [List.length_nil] at hlt; omega⟩
    · rw [if_neg h2]
      by_cases hq : zsRe sz fn ff (l * 8 + zeK e) (zeT e : Int)
      · rw [if_pos hq]
        have hl1 : (js ++ [l * 8 + zeK e]).length = js.length + 1 := by rw [List.length_append]; rfl
        obtain ⟨r, r1, r2, r3, r4, r5⟩ := ih (l + 1) (js ++ [l * 8 + zeK e]) (by omega)
        refine ⟨(l * 8 + zeK e) :: r, by rw [r1, List.append_assoc]; rfl, by rw [List.length_cons]; omega, fun x hx => ?_, List.Pairwise.cons (fun x hx => ?_) r4, fun hlt u u1 u2 u3 => ?_⟩
        · rcases List.mem_cons.mp hx with rfl | hx
          · exact ⟨l, rfl, Nat.le_refl _, by omega, hq⟩
          · obtain ⟨u, u1, u2, u3, u4⟩ := r3 x hx
            exact ⟨u, u1, by omega, by omega, u4⟩
        · obtain ⟨u, u1, u2, u3, u4⟩ := r3 x hx
          omega
        · by_cases hu : u = l
          · subst hu
            exact List.mem_cons_self
          · rw [List.length_cons] at hlt
            exact List.mem_cons_of_mem _ (r5 (by omega) u (by omega) (by omega) u3)
      · rw [if_neg hq]
        obtain ⟨r, r1, r2, r3, r4, r5⟩ := ih (l + 1) js hj
        refine ⟨r, r1, r2, fun x hx => ?_, r4, fun hlt u u1 u2 u3 => ?_⟩
        · obtain ⟨u, u1, u2, u3, u4⟩ := r3 x hx
          exact ⟨u, u1, by omega, by omega, u4⟩
        · by_cases hu : u = l
          · subst hu
            exact absurd u3 hq
          · exact r5 hlt u (by omega) (by omega) u3
/-- the sessions that a row joins: none, one, or two -/
theorem zsLook_c {J : List zE} {X : zSX} {e : zE} (hJ : J.length ≤ 72) (hk : zeK e < 8) (hT : ∀ x, zsP sz gr fi J (zeK e) x → x < 1000) (hlate : ¬ (zeT e : Int) + (sz : Int) + 1 + (gr : Int) ≤ m) (ht : zeT e < 1000) (h : zsIv v sz gr me fi J m X) :
    (zsLook sz X.2.2.2.1 X.2.2.2.2.2.1 e = [] ∧ ∀ f l, zCl (zsP sz gr fi J (zeK e)) sz f l → ¬ zRc sz f l (zeT e)) ∨
    (∃ f1 l1, zsLook sz X.2.2.2.1 X.2.2.2.2.2.1 e = [l1 * 8 + zeK e] ∧ l1 < 1000 ∧ zCl (zsP sz gr fi J (zeK e)) sz f1 l1 ∧ zRc sz f1 l1 (zeT e) ∧ ∀ f l, zCl (zsP sz gr fi J (zeK e)) sz f l → zRc sz f l (zeT e) → l = l1) ∨
    (∃ f1 l1 f2 l2, zsLook sz X.2.2.2.1 X.2.2.2.2.2.1 e = [l1 * 8 + zeK e, l2 * 8 + zeK e] ∧ l1 + sz < f2 ∧ l2 < 1000 ∧ zCl (zsP sz gr fi J (zeK e)) sz f1 l1 ∧ zRc sz f1 l1 (zeT e) ∧ zCl (zsP sz gr fi J (zeK e)) sz f2 l2 ∧ zRc sz f2 l2 (zeT e) ∧ ∀ f l, zCl (zsP sz gr fi J (zeK e)) sz f l → zRc sz f l (zeT e) → l = l1 ∨ l = l2) := by
  obtain ⟨r, r1, r2, r3, r4, r5⟩ := zsLk_sp (sz := sz) (fn := X.2.2.2.1) (ff := X.2.2.2.2.2.1) (e := e) (1000 - (zeT e - sz)) (zeT e - sz) [] (Nat.zero_le _)
  have hlook : zsLook sz X.2.2.2.1 X.2.2.2.2.2.1 e = r := r1
  have hall : (0 + r.length < 2) → ∀ f l, zCl (zsP sz gr fi J (zeK e)) sz f l → zRc sz f l (zeT e) → l * 8 + zeK e ∈ r := fun hlt f l hc hr => by
    have hl := hT l hc.2.1
    exact r5 hlt l (by have := hr.2; omega) (by omega) ((zsRe_iff hJ hk hl hlate h).mpr ⟨f, hc, hr⟩)
  have hin : ∀ x ∈ r, ∃ f l, x = l * 8 + zeK e ∧ l < 1000 ∧ zCl (zsP sz gr fi J (zeK e)) sz f l ∧ zRc sz f l (zeT e) := fun x hx => by
    obtain ⟨u, u1, u2, u3, u4⟩ := r3 x hx
    obtain ⟨f, hc, hr⟩ := (zsRe_iff hJ hk (by omega : u < 1000) hlate h).mp u4
    exact ⟨f, u, u1, by omega, hc, hr⟩
  rw [hlook]
  match r, r2, r4, hall, hin with
  | [], _, _, hall, _ =>
    refine Or.inl ⟨rfl, fun f l hc hr => ?_⟩
    have := hall (by decide) f l hc hr
    cases this
  | [a], _, _, hall, hin =>
    obtain ⟨f1, l1, rfl, hl1, hc1, hr1⟩ := hin a List.mem_cons_self
    refine Or.inr (Or.inl ⟨f1, l1, rfl, hl1, hc1, hr1, fun f l hc hr => ?_⟩)
    have := List.mem_singleton.mp (hall (by simp) f l hc hr)
    omega
  | [a, b], _, r4, _, hin =>
    obtain ⟨f1, l1, rfl, hl1, hc1, hr1⟩ := hin a List.mem_cons_self
    obtain ⟨f2, l2, rfl, hl2, hc2, hr2⟩ := hin b (List.mem_cons_of_mem _ List.mem_cons_self)
    have hlt : l1 * 8 + zeK e < l2 * 8 + zeK e := by
      cases r4 with
      | cons h1 _ => exact h1 _ List.mem_cons_self
    have hap : l1 + sz < f2 := by
      rcases zCl_2 hc1 hc2 with z | z | z
      · omega
      · exact z
      · have := hc1.2.2.1
        have := hc2.2.2.1
        omega
    refine Or.inr (Or.inr ⟨f1, l1, f2, l2, rfl, hap, hl2, hc1, hr1, hc2, hr2, fun f l hc hr => ?_⟩)
    have x1 := hc.2.2.1
    have x2 := hc1.2.2.1
    have x3 := hc2.2.2.1
    rcases zCl_2 hc hc1 with z | z | z
    · exact Or.inl z.2
    · rcases zCl_2 hc hc2 with y | y | y
      · exact Or.inr y.2
      · omega
      · omega
    · rcases zCl_2 hc hc2 with y | y | y
      · exact Or.inr y.2
      · omega
      · omega
  | a :: b :: c :: r, r2, _, _, _ =>
    simp only [List.length_nil, List.length_cons] at r2
    omega
end YC1
