set_option maxRecDepth 100000
section YC3
variable {v sz gr : Nat} {me fi m b : Int}
theorem zro_t0 {a b f t : Int} {y : Int32} : zb (zro a b f t y) 32 = (BitVec.ofInt 32 (t + 1)).getLsbD 0 := by
  show (zro a b f t y).toBitVec.getLsbD 32 = _
  rw [zro_bv]
  simp only [BitVec.getLsbD_or, BitVec.getLsbD_shiftLeft, BitVec.getLsbD_signExtend, BitVec.getLsbD_and]
  have h1 : (576460752303423488#64).getLsbD 32 = false := by decide
  have h2 : (4294967295#64).getLsbD 32 = false := by decide
  have h5 : (BitVec.ofInt 32 2047).getLsbD (32 - 32) = true := by decide
  rw [h1, h2]
  simp [h5]
theorem zro_t1 {a b f t : Int} {y : Int32} : zb (zro a b f t y) 33 = (BitVec.ofInt 32 (t + 1)).getLsbD 1 := by
  show (zro a b f t y).toBitVec.getLsbD 33 = _
  rw [zro_bv]
  simp only [BitVec.getLsbD_or, BitVec.getLsbD_shiftLeft, BitVec.getLsbD_signExtend, BitVec.getLsbD_and]
  have h1 : (576460752303423488#64).getLsbD 33 = false := by decide
  have h2 : (4294967295#64).getLsbD 33 = false := by decide
  have h5 : (BitVec.ofInt 32 2047).getLsbD (33 - 32) = true := by decide
  rw [h1, h2]
  simp [h5]
theorem zro_t2 {a b f t : Int} {y : Int32} : zb (zro a b f t y) 34 = (BitVec.ofInt 32 (t + 1)).getLsbD 2 := by
  show (zro a b f t y).toBitVec.getLsbD 34 = _
  rw [zro_bv]
  simp only [BitVec.getLsbD_or, BitVec.getLsbD_shiftLeft, BitVec.getLsbD_signExtend, BitVec.getLsbD_and]
  have h1 : (576460752303423488#64).getLsbD 34 = false := by decide
  have h2 : (4294967295#64).getLsbD 34 = false := by decide
  have h5 : (BitVec.ofInt 32 2047).getLsbD (34 - 32) = true := by decide
  rw [h1, h2]
  simp [h5]
theorem zro_t3 {a b f t : Int} {y : Int32} : zb (zro a b f t y) 35 = (BitVec.ofInt 32 (t + 1)).getLsbD 3 := by
  show (zro a b f t y).toBitVec.getLsbD 35 = _
  rw [zro_bv]
  simp only [BitVec.getLsbD_or, BitVec.getLsbD_shiftLeft, BitVec.getLsbD_signExtend, BitVec.getLsbD_and]
  have h1 : (576460752303423488#64).getLsbD 35 = false := by decide
  have h2 : (4294967295#64).getLsbD 35 = false := by decide
  have h5 : (BitVec.ofInt 32 2047).getLsbD (35 - 32) = true := by decide
  rw [h1, h2]
  simp [h5]
theorem zro_t4 {a b f t : Int} {y : Int32} : zb (zro a b f t y) 36 = (BitVec.ofInt 32 (t + 1)).getLsbD 4 := by
  show (zro a b f t y).toBitVec.getLsbD 36 = _
  rw [zro_bv]
  simp only [BitVec.getLsbD_or, BitVec.getLsbD_shiftLeft, BitVec.getLsbD_signExtend, BitVec.getLsbD_and]
  have h1 : (576460752303423488#64).getLsbD 36 = false := by decide
  have h2 : (4294967295#64).getLsbD 36 = false := by decide
  have h5 : (BitVec.ofInt 32 2047).getLsbD (36 - 32) = true := by decide
  rw [h1, h2]
  simp [h5]
theorem zro_t5 {a b f t : Int} {y : Int32} : zb (zro a b f t y) 37 = (BitVec.ofInt 32 (t + 1)).getLsbD 5 := by
  show (zro a b f t y).toBitVec.getLsbD 37 = _
  rw [zro_bv]
  simp only [BitVec.getLsbD_or, BitVec.getLsbD_shiftLeft, BitVec.getLsbD_signExtend, BitVec.getLsbD_and]
  have h1 : (576460752303423488#64).getLsbD 37 = false := by decide
  have h2 : (4294967295#64).getLsbD 37 = false := by decide
  have h5 : (BitVec.ofInt 32 2047).getLsbD (37 - 32) = true := by decide
  rw [h1, h2]
  simp [h5]
theorem zro_t6 {a b f t : Int} {y : Int32} : zb (zro a b f t y) 38 = (BitVec.ofInt 32 (t + 1)).getLsbD 6 := by
  show (zro a b f t y).toBitVec.getLsbD 38 = _
  rw [zro_bv]
  simp only [BitVec.getLsbD_or, BitVec.getLsbD_shiftLeft, BitVec.getLsbD_signExtend, BitVec.getLsbD_and]
  have h1 : (576460752303423488#64).getLsbD 38 = false := by decide
  have h2 : (4294967295#64).getLsbD 38 = false := by decide
  have h5 : (BitVec.ofInt 32 2047).getLsbD (38 - 32) = true := by decide
  rw [h1, h2]
  simp [h5]
theorem zro_t7 {a b f t : Int} {y : Int32} : zb (zro a b f t y) 39 = (BitVec.ofInt 32 (t + 1)).getLsbD 7 := by
  show (zro a b f t y).toBitVec.getLsbD 39 = _
  rw [zro_bv]
  simp only [BitVec.getLsbD_or, BitVec.getLsbD_shiftLeft, BitVec.getLsbD_signExtend, BitVec.getLsbD_and]
  have h1 : (576460752303423488#64).getLsbD 39 = false := by decide
  have h2 : (4294967295#64).getLsbD 39 = false := by decide
  have h5 : (BitVec.ofInt 32 2047).getLsbD (39 - 32) = true := by decide
  rw [h1, h2]
  simp [h5]
theorem zro_t8 {a b f t : Int} {y : Int32} : zb (zro a b f t y) 40 = (BitVec.ofInt 32 (t + 1)).getLsbD 8 := by
  show (zro a b f t y).toBitVec.getLsbD 40 = _
  rw [zro_bv]
  simp only [BitVec.getLsbD_or, BitVec.getLsbD_shiftLeft, BitVec.getLsbD_signExtend, BitVec.getLsbD_and]
  have h1 : (576460752303423488#64).getLsbD 40 = false := by decide
  have h2 : (4294967295#64).getLsbD 40 = false := by decide
  have h5 : (BitVec.ofInt 32 2047).getLsbD (40 - 32) = true := by decide
  rw [h1, h2]
  simp [h5]
theorem zro_t9 {a b f t : Int} {y : Int32} : zb (zro a b f t y) 41 = (BitVec.ofInt 32 (t + 1)).getLsbD 9 := by
  show (zro a b f t y).toBitVec.getLsbD 41 = _
  rw [zro_bv]
  simp only [BitVec.getLsbD_or, BitVec.getLsbD_shiftLeft, BitVec.getLsbD_signExtend, BitVec.getLsbD_and]
  have h1 : (576460752303423488#64).getLsbD 41 = false := by decide
  have h2 : (4294967295#64).getLsbD 41 = false := by decide
  have h5 : (BitVec.ofInt 32 2047).getLsbD (41 - 32) = true := by decide
  rw [h1, h2]
  simp [h5]
theorem zro_t10 {a b f t : Int} {y : Int32} : zb (zro a b f t y) 42 = (BitVec.ofInt 32 (t + 1)).getLsbD 10 := by
  show (zro a b f t y).toBitVec.getLsbD 42 = _
  rw [zro_bv]
  simp only [BitVec.getLsbD_or, BitVec.getLsbD_shiftLeft, BitVec.getLsbD_signExtend, BitVec.getLsbD_and]
  have h1 : (576460752303423488#64).getLsbD 42 = false := by decide
  have h2 : (4294967295#64).getLsbD 42 = false := by decide
  have h5 : (BitVec.ofInt 32 2047).getLsbD (42 - 32) = true := by decide
  rw [h1, h2]
  simp [h5]
theorem zro_to {a b f a2 b2 f2 : Int} {y y2 : Int32} {t t2 : Nat} (ht : t < 1000) (ht2 : t2 < 1000) (h : zro a b f (t : Int) y = zro a2 b2 f2 (t2 : Int) y2) : t = t2 := by
  have e1 : ∀ u : Nat, BitVec.ofInt 32 ((u : Int) + 1) = BitVec.ofNat 32 (u + 1) := fun u => BitVec.ofInt_natCast 32 (u + 1)
  have hb : ∀ i, i < 11 → (BitVec.ofNat 32 (t + 1)).getLsbD i = (BitVec.ofNat 32 (t2 + 1)).getLsbD i := by
    intro i hi
    rw [← e1, ← e1]
    match i, hi with
    | 0, _ => rw [← zro_t0 (a := a) (b := b) (f := f) (y := y), ← zro_t0 (a := a2) (b := b2) (f := f2) (y := y2), h]
    | 1, _ => rw [← zro_t1 (a := a) (b := b) (f := f) (y := y), ← zro_t1 (a := a2) (b := b2) (f := f2) (y := y2), h]
    | 2, _ => rw [← zro_t2 (a := a) (b := b) (f := f) (y := y), ← zro_t2 (a := a2) (b := b2) (f := f2) (y := y2), h]
    | 3, _ => rw [← zro_t3 (a := a) (b := b) (f := f) (y := y), ← zro_t3 (a := a2) (b := b2) (f := f2) (y := y2), h]
    | 4, _ => rw [← zro_t4 (a := a) (b := b) (f := f) (y := y), ← zro_t4 (a := a2) (b := b2) (f := f2) (y := y2), h]
    | 5, _ => rw [← zro_t5 (a := a) (b := b) (f := f) (y := y), ← zro_t5 (a := a2) (b := b2) (f := f2) (y := y2), h]
    | 6, _ => rw [← zro_t6 (a := a) (b := b) (f := f) (y := y), ← zro_t6 (a := a2) (b := b2) (f := f2) (y := y2), h]
    | 7, _ => rw [← zro_t7 (a := a) (b := b) (f := f) (y := y), ← zro_t7 (a := a2) (b := b2) (f := f2) (y := y2), h]
    | 8, _ => rw [← zro_t8 (a := a) (b := b) (f := f) (y := y), ← zro_t8 (a := a2) (b := b2) (f := f2) (y := y2), h]
    | 9, _ => rw [← zro_t9 (a := a) (b := b) (f := f) (y := y), ← zro_t9 (a := a2) (b := b2) (f := f2) (y := y2), h]
    | 10, _ => rw [← zro_t10 (a := a) (b := b) (f := f) (y := y), ← zro_t10 (a := a2) (b := b2) (f := f2) (y := y2), h]
  have hn : ∀ i, (t + 1).testBit i = (t2 + 1).testBit i := by
    intro i
    by_cases hi : i < 11
    · have := hb i hi
      rw [BitVec.getLsbD_ofNat, BitVec.getLsbD_ofNat] at this
      have h32 : decide (i < 32) = true := decide_eq_true (by omega)
      rw [h32, Bool.true_and, Bool.true_and] at this
      exact this
    · have hp : 2 ^ 11 ≤ 2 ^ i := Nat.pow_le_pow_right (by omega) (by omega)
      rw [Nat.testBit_lt_two_pow (by omega), Nat.testBit_lt_two_pow (by omega)]
  have := Nat.eq_of_testBit_eq hn
  omega
/-- one session goes into the spare cell -/
theorem zsSt_at {G : (Nat → Int32) × (Nat → Int32)} {a : Nat} (ha : a ≠ 8000) (hp : 0 < G.1 a) (j : Nat) : (zfi (zaaN G.1 8000 a) a 0) j = (if j = a then 0 else if j = 8000 then G.1 8000 + G.1 a else G.1 j) ∧ (zfi (zaaS G.1 G.2 8000 a) a 0) j = (if j = a then 0 else if j = 8000 then G.2 8000 + G.2 a else G.2 j) := by
  unfold zaaN zaaS
  rw [if_pos hp, if_pos hp]
  exact ⟨rfl, rfl⟩
abbrev zsSf (G : (Nat → Int32) × (Nat → Int32)) (a : Nat) : (Nat → Int32) × (Nat → Int32) := (zfi (zaaN G.1 8000 a) a 0, zfi (zaaS G.1 G.2 8000 a) a 0)
theorem zfoldl_c {α : Type} {f g : Nat → α} {op : α → α → α} : ∀ (js : List Nat) (x : α), (∀ a ∈ js, f a = g a) → js.foldl (fun x a => op x (f a)) x = js.foldl (fun x a => op x (g a)) x := by
  intro js
  induction js with
  | nil => intro x _; rfl
  | cons a r ih =>
    intro x h
    show r.foldl _ (op x (f a)) = r.foldl _ (op x (g a))
    rw [h a List.mem_cons_self]
    exact ih _ (fun y hy => h y (List.mem_cons_of_mem _ hy))
theorem zsJs_at : ∀ (js : List Nat) (G : (Nat → Int32) × (Nat → Int32)), (∀ a ∈ js, a < 8000 ∧ 0 < G.1 a) → js.Nodup → ((js.foldl zsSf G).1 8000 = js.foldl (fun x a => x + G.1 a) (G.1 8000) ∧ (js.foldl zsSf G).2 8000 = js.foldl (fun x a => x + G.2 a) (G.2 8000)) ∧ ∀ j, j ≠ 8000 → (js.foldl zsSf G).1 j = (if j ∈ js then 0 else G.1 j) ∧ (js.foldl zsSf G).2 j = (if j ∈ js then 0 else G.2 j) := by
  intro js
  induction js with
  | nil => intro G _ _; exact ⟨⟨rfl, rfl⟩, fun j _ => ⟨(if_neg (fun z => by cases z)).symm, (if_neg (fun z => by cases z)).symm⟩⟩
  | cons a r ih =>
    intro G hG hnd
    obtain ⟨ha, hp⟩ := hG a List.mem_cons_self
    have hnd2 := List.nodup_cons.mp hnd
    have hs := fun j => zsSt_at (G := G) (a := a) (by omega) hp j
    have hr : ∀ x ∈ r, (zsSf G a).1 x = G.1 x ∧ (zsSf G a).2 x = G.2 x := fun x hx => by
      have hxa : x ≠ a := fun z => hnd2.1 (by rw [← z]; exact hx)
      have hx8 := (hG x (List.mem_cons_of_mem _ hx)).1
      obtain ⟨s1, s2⟩ := hs x
      have h8 : ¬ x = 8000 := by omega
      rw [if_neg hxa, if_neg h8] at s1 s2
      exact ⟨s1, s2⟩
    obtain ⟨⟨i1, i2⟩, i3⟩ := ih (zsSf G a) (fun x hx => ⟨(hG x (List.mem_cons_of_mem _ hx)).1, by rw [(hr x hx).1]; exact (hG x (List.mem_cons_of_mem _ hx)).2⟩) hnd2.2
    obtain ⟨s1, s2⟩ := hs 8000
    have h8a : ¬ 8000 = a := by omega
    rw [if_neg h8a, if_pos rfl] at s1 s2
    show ((r.foldl zsSf (zsSf G a)).1 8000 = r.foldl (fun x a => x + G.1 a) (G.1 8000 + G.1 a) ∧ (r.foldl zsSf (zsSf G a)).2 8000 = r.foldl (fun x a => x + G.2 a) (G.2 8000 + G.2 a)) ∧ ∀ j, j ≠ 8000 → (r.foldl zsSf (zsSf G a)).1 j = _ ∧ (r.foldl zsSf (zsSf G a)).2 j = _
    refine ⟨⟨?_, ?_⟩, fun j hj => ?_⟩
    · rw [i1, zfoldl_c (op := fun x y => x + y) r _ (fun x hx => (hr x hx).1)]
      show List.foldl _ ((zfi (zaaN G.1 8000 a) a 0) 8000) r = _
      rw [s1]
    · rw [i2, zfoldl_c (op := fun x y => x + y) r _ (fun x hx => (hr x hx).2)]
      show List.foldl _ ((zfi (zaaS G.1 G.2 8000 a) a 0) 8000) r = _
      rw [s2]
    · obtain ⟨j1, j2⟩ := i3 j hj
      obtain ⟨t1, t2⟩ := hs j
      rw [j1, j2]
      by_cases hjr : j ∈ r
      · have hjc : j ∈ a :: r := List.mem_cons_of_mem _ hjr
        rw [if_pos hjr, if_pos hjr, if_pos hjc, if_pos hjc]
        exact ⟨rfl, rfl⟩
      · rw [if_neg hjr, if_neg hjr]
        by_cases hja : j = a
        · have hjc : j ∈ a :: r := by rw [hja]; exact List.mem_cons_self
          rw [if_pos hja] at t1 t2
          rw [if_pos hjc, if_pos hjc]
          exact ⟨t1, t2⟩
        · have hjc : j ∉ a :: r := fun z => by
            rcases List.mem_cons.mp z with z | z
            · exact hja z
            · exact hjr z
          rw [if_neg hja, if_neg hj] at t1 t2
          rw [if_neg hjc, if_neg hjc]
          exact ⟨t1, t2⟩
/-- those joined are taken back -/
theorem zsBk_at : ∀ (js : List Nat) (T : (Nat → Int64) × List Int64), (∀ a ∈ js, a < 8000) → (∀ j, (js.foldl (fun T a => (zbkF T.1 a, T.2 ++ zbkL T.1 a)) T).1 j = if j ∈ js then 0 else T.1 j) ∧ zTs v 8000 js.length T (js.foldl (fun T a => (zbkF T.1 a, T.2 ++ zbkL T.1 a)) T) := by
  intro js
  induction js with
  | nil => intro T _; exact ⟨fun j => (if_neg (fun z => by cases z)).symm, zTs.rf⟩
  | cons a r ih =>
    intro T h
    obtain ⟨i1, i2⟩ := ih (zbkF T.1 a, T.2 ++ zbkL T.1 a) (fun x hx => h x (List.mem_cons_of_mem _ hx))
    have hb : ∀ j, zbkF T.1 a j = if j = a then 0 else T.1 j := fun j => by
      unfold zbkF
      by_cases h0 : T.1 a = 0
      · rw [if_pos h0]
        split
        next hj => rw [hj, h0]
        next => rfl
      · rw [if_neg h0]
        rfl
    refine ⟨fun j => ?_, ?_⟩
    · show (r.foldl _ (zbkF T.1 a, T.2 ++ zbkL T.1 a)).1 j = _
      rw [i1 j]
      show (if j ∈ r then 0 else zbkF T.1 a j) = _
      rw [hb]
      by_cases hjr : j ∈ r
      · rw [if_pos hjr, if_pos (List.mem_cons_of_mem _ hjr)]
      · rw [if_neg hjr]
        by_cases hja : j = a
        · rw [if_pos hja, if_pos (by rw [hja]; exact List.mem_cons_self)]
        · have hjc : j ∉ a :: r := fun z => by
            rcases List.mem_cons.mp z with z | z
            · exact hja z
            · exact hjr z
          rw [if_neg hja, if_neg hjc]
    · have h1 : zTs v 8000 1 T (zbkF T.1 a, T.2 ++ zbkL T.1 a) := zTs.back (h a List.mem_cons_self)
      have hl : (a :: r).length = r.length + 1 := rfl
      exact (h1.tr i2).le (by omega)
theorem znb_js {P : Nat → Bool} {k : Nat} : ∀ (js : List Nat), (∀ x ∈ js, ∃ u, u < 1000 ∧ x = u * 8 + k ∧ P u = true) → js.Nodup → znb (fun l => P l && !decide (l * 8 + k ∈ js)) 1000 + js.length = znb P 1000 := by
  intro js
  induction js with
  | nil =>
    intro _ _
    show znb _ 1000 + 0 = _
    rw [Nat.add_zero]
    exact znb_same _ (fun l _ => by simp)
  | cons a r ih =>
    intro h hnd
    have hnd2 := List.nodup_cons.mp hnd
    have i := ih (fun x hx => h x (List.mem_cons_of_mem _ hx)) hnd2.2
    obtain ⟨u, u1, u2, u3⟩ := h a List.mem_cons_self
    have hone := znb_one (p := fun l => P l && !decide (l * 8 + k ∈ a :: r)) (q := fun l => P l && !decide (l * 8 + k ∈ r)) (w := u) 1000 u1 (fun l _ hne => by
      congr 2
      apply decide_eq_decide.mpr
      constructor
      · intro z
        rcases List.mem_cons.mp z with z | z
        · omega
        · exact z
      · exact fun z => List.mem_cons_of_mem _ z)
    have hp : (P u && !decide (u * 8 + k ∈ a :: r)) = false := by
      rw [decide_eq_true (by rw [← u2]; exact List.mem_cons_self)]
      simp
    have hq : (P u && !decide (u * 8 + k ∈ r)) = true := by
      rw [u3, decide_eq_false (by rw [← u2]; exact hnd2.1)]
      rfl
    rw [hp, hq] at hone
    simp only [Bool.toNat_true, Bool.toNat_false] at hone
    have hl : (a :: r).length = r.length + 1 := rfl
    omega
set_option maxHeartbeats 1000000 in
/-- a row into the sessions that it joins -/
theorem zsInto_iv {J : List zE} {X : zSX} {e : zE} {F L : Nat} {js : List Nat} (hv : v < 5) (hJ : J.length < 72) (hk : zeK e < 8) (htk : zjtk false sz gr fi e = true) (hm : zeA e = m) (hal : m ≤ (zeT e : Int) + (sz : Int) + (gr : Int)) (h : zsIv v sz gr me fi J m X)
    (h1 : F ≤ zeT e ∧ zeT e ≤ L) (hL : L < 1000) (hC1 : zCl (fun x => zsP sz gr fi J (zeK e) x ∨ x = zeT e) sz F L) (hC2 : ∀ f l, zCl (fun x => zsP sz gr fi J (zeK e) x ∨ x = zeT e) sz f l ↔ (f = F ∧ l = L) ∨ (zCl (zsP sz gr fi J (zeK e)) sz f l ∧ ¬ zRc sz f l (zeT e)))
    (hjs : ∀ l, l < 1000 → (l * 8 + zeK e ∈ js ↔ ∃ f, zCl (zsP sz gr fi J (zeK e)) sz f l ∧ zRc sz f l (zeT e))) (hjs2 : ∀ x ∈ js, ∃ l, l < 1000 ∧ x = l * 8 + zeK e) (hnd : js.Nodup) (hlen : js.length ≤ 2)
    (hFi : zsFi e js X.2.2.2.2.2.1 = (F : Int)) (hLa : zsLa e js = L)
    (hsN : js.foldl (fun x a => x + X.2.2.2.1 a) (Int32.ofInt 1) = Int32.ofInt (zsN sz gr fi (J ++ [e]) (zeK e) F L)) (hsS : js.foldl (fun x a => x + X.2.2.2.2.1 a) (Int32.ofInt (zeV e)) = Int32.ofInt (zsSu sz gr fi (J ++ [e]) (zeK e) F L)) :
    zsIv v sz gr me fi (J ++ [e]) m (zsInto v sz me e js X) ∧ zTs v 8000 3 (X.1, X.2.2.2.2.2.2) ((zsInto v sz me e js X).1, (zsInto v sz me e js X).2.2.2.2.2.2) := by
  have hiv := h
  obtain ⟨i1, i2, i3, i4, i5, i6, i7⟩ := h
  have hK : zsK e js = L * 8 + zeK e := by unfold zsK; rw [hLa]
  have hK8 : L * 8 + zeK e < 8000 := by omega
  have hjs3 : ∀ x ∈ js, x < 8000 ∧ x % 8 = zeK e := fun x hx => by
    obtain ⟨l, l1, l2⟩ := hjs2 x hx
    omega
  have hpos : ∀ x ∈ js, 0 < X.2.2.2.1 x := fun x hx => by
    obtain ⟨l, l1, l2⟩ := hjs2 x hx
    subst l2
    obtain ⟨f, c, r⟩ := (hjs l l1).mp hx
    exact (hiv.rows (by omega) hk l1).mpr ⟨f, c, by have := r.2; omega⟩
  have hnoL : L * 8 + zeK e ∉ js → ∀ f, ¬ zCl (zsP sz gr fi J (zeK e)) sz f L := fun hx f hc => by
    by_cases hr : zRc sz f L (zeT e)
    · exact hx ((hjs L hL).mpr ⟨f, hc, hr⟩)
    · have := zCl_1 ((hC2 f L).mpr (Or.inr ⟨hc, hr⟩)) hC1
      subst this
      exact hr ⟨by omega, by omega⟩
  -- the spare cell
  have g8 : (zAd (zfi X.2.2.2.1 8000 0) 8000 1) 8000 = Int32.ofInt 1 := by rw [zAd_at, if_pos rfl]; rfl
  have g8s : (zAd (zfi X.2.2.2.2.1 8000 0) 8000 (Int32.ofInt (zeV e))) 8000 = Int32.ofInt (zeV e) := by
    rw [zAd_at, if_pos rfl]
    show (0 : Int32) + _ = _
    exact Int32.zero_add _
  have gj : ∀ j, j ≠ 8000 → (zAd (zfi X.2.2.2.1 8000 0) 8000 1) j = X.2.2.2.1 j ∧ (zAd (zfi X.2.2.2.2.1 8000 0) 8000 (Int32.ofInt (zeV e))) j = X.2.2.2.2.1 j := fun j hj => by
    rw [zAd_at, zAd_at, if_neg hj, if_neg hj]
    exact ⟨if_neg hj, if_neg hj⟩
  obtain ⟨⟨G1, G2⟩, G3⟩ := zsJs_at js (zAd (zfi X.2.2.2.1 8000 0) 8000 1, zAd (zfi X.2.2.2.2.1 8000 0) 8000 (Int32.ofInt (zeV e))) (fun a ha => ⟨(hjs3 a ha).1, by
    have h8 := (hjs3 a ha).1
    show 0 < (zAd (zfi X.2.2.2.1 8000 0) 8000 1) a
    rw [(gj a (by omega)).1]
    exact hpos a ha⟩) hnd
  dsimp only at G1 G2 G3
  rw [g8, zfoldl_c (op := fun x y => x + y) js _ (fun a ha => (gj a (by have := (hjs3 a ha).1; omega)).1), hsN] at G1
  rw [g8s, zfoldl_c (op := fun x y => x + y) js _ (fun a ha => (gj a (by have := (hjs3 a ha).1; omega)).2), hsS] at G2
  have hG : zsJs e js X.2.2.2.1 X.2.2.2.2.1 = js.foldl zsSf (zAd (zfi X.2.2.2.1 8000 0) 8000 1, zAd (zfi X.2.2.2.2.1 8000 0) 8000 (Int32.ofInt (zeV e))) := rfl
  rw [← hG] at G1 G2 G3
  have hNpos : 0 < Int32.ofInt (zsN sz gr fi (J ++ [e]) (zeK e) F L) := by
    have hc := hC1
    rw [← zsP_in htk] at hc
    have := zsN_pos hc
    have hl : (J ++ [e]).length = J.length + 1 := by rw [List.length_append]; rfl
    rw [zpos2 (by omega)]
    exact this.1
  have hfn : ∀ j, j < 8000 → zaaN (zsJs e js X.2.2.2.1 X.2.2.2.2.1).1 (zsK e js) 8000 j = if j = L * 8 + zeK e then Int32.ofInt (zsN sz gr fi (J ++ [e]) (zeK e) F L) else if j ∈ js then 0 else X.2.2.2.1 j := fun j hj => by
    unfold zaaN
    rw [hK, G1, if_pos hNpos]
    show (if j = L * 8 + zeK e then _ else _) = _
    by_cases hjK : j = L * 8 + zeK e
    · rw [if_pos hjK, if_pos hjK, (G3 (L * 8 + zeK e) (by omega)).1, (gj _ (by omega)).1]
      by_cases hx : L * 8 + zeK e ∈ js
      · rw [if_pos hx]
        exact Int32.zero_add _
      · rw [if_neg hx, (i2 _ L hk hL (fun f hc => absurd hc (hnoL hx f))).1]
        exact Int32.zero_add _
    · rw [if_neg hjK, if_neg hjK, (G3 j (by omega)).1, (gj j (by omega)).1]
  have hfs : ∀ j, j < 8000 → zaaS (zsJs e js X.2.2.2.1 X.2.2.2.2.1).1 (zsJs e js X.2.2.2.1 X.2.2.2.2.1).2 (zsK e js) 8000 j = if j = L * 8 + zeK e then Int32.ofInt (zsSu sz gr fi (J ++ [e]) (zeK e) F L) else if j ∈ js then 0 else X.2.2.2.2.1 j := fun j hj => by
    unfold zaaS
    rw [hK, G1, if_pos hNpos, G2]
    show (if j = L * 8 + zeK e then _ else _) = _
    by_cases hjK : j = L * 8 + zeK e
    · rw [if_pos hjK, if_pos hjK, (G3 (L * 8 + zeK e) (by omega)).2, (gj _ (by omega)).2]
      by_cases hx : L * 8 + zeK e ∈ js
      · rw [if_pos hx]
        exact Int32.zero_add _
      · rw [if_neg hx, (i2 _ L hk hL (fun f hc => absurd hc (hnoL hx f))).2]
        exact Int32.zero_add _
    · rw [if_neg hjK, if_neg hjK, (G3 j (by omega)).2, (gj j (by omega)).2]
  have hff : ∀ j, zfi X.2.2.2.2.2.1 (zsK e js) (zsFi e js X.2.2.2.2.2.1) j = if j = L * 8 + zeK e then (F : Int) else X.2.2.2.2.2.1 j := fun j => by
    rw [hK, hFi]
    rfl
  unfold zsInto
  generalize hfn2 : zaaN (zsJs e js X.2.2.2.1 X.2.2.2.2.1).1 (zsK e js) 8000 = fn2 at hfn ⊢
  generalize hfs2 : zaaS (zsJs e js X.2.2.2.1 X.2.2.2.2.1).1 (zsJs e js X.2.2.2.1 X.2.2.2.2.1).2 (zsK e js) 8000 = fs2 at hfs ⊢
  generalize hff2 : zfi X.2.2.2.2.2.1 (zsK e js) (zsFi e js X.2.2.2.2.2.1) = ff2 at hff ⊢
  have hy : zsRes v me fn2 fs2 ff2 (zsK e js) = zsR v sz gr me fi (J ++ [e]) (zeK e) F L := by
    rw [hK]
    unfold zsRes zsR
    rw [hfn _ hK8, hfs _ hK8, hff, if_pos rfl, if_pos rfl, if_pos rfl]
    have e1 : ((L * 8 + zeK e : Nat) : Int) % 8 = (zeK e : Int) := by omega
    have e2 : ((L * 8 + zeK e : Nat) : Int) / 8 = (L : Int) := by omega
    rw [e1, e2]
  have hKd : ((zsK e js : Nat) : Int) / 8 = (L : Int) := by rw [hK]; omega
  have htK : L * 8 + zeK e ∉ js → X.1 (L * 8 + zeK e) = 0 := fun hx => i4 _ L hk hL (fun f hc => absurd hc (hnoL hx f))
  have hgd : zgd v (zsR v sz gr me fi (J ++ [e]) (zeK e) F L) := zro_gd hv
  obtain ⟨B1, B2⟩ := zsBk_at (v := v) js (X.1, X.2.2.2.2.2.2) (fun a ha => (hjs3 a ha).1)
  dsimp only at B1
  -- what is told
  have htd : (∀ j, (zsTj v sz me e js (zsK e js) fn2 fs2 ff2 (X.1, X.2.2.2.2.2.2)).1 j = if j = L * 8 + zeK e then (if (L : Int) + (sz : Int) < m then zsR v sz gr me fi (J ++ [e]) (zeK e) F L else 0) else if j ∈ js then 0 else X.1 j) ∧ zTs v 8000 3 (X.1, X.2.2.2.2.2.2) (zsTj v sz me e js (zsK e js) fn2 fs2 ff2 (X.1, X.2.2.2.2.2.2)) := by
    by_cases hd : (L : Int) + (sz : Int) < m
    · by_cases ha : js.length = 1 ∧ ¬ X.1 (js.headD 0) = 0
      · rw [zsTj_a (by rw [hKd, hm]; exact hd) ha.1 ha.2, hy, hK]
        obtain ⟨a, rfl⟩ := List.length_eq_one_iff.mp ha.1
        have haj := hjs2 a List.mem_cons_self
        have ha2 : ¬ X.1 a = 0 := ha.2
        show (∀ j, zanF X.1 a (L * 8 + zeK e) _ j = _) ∧ zTs v 8000 3 _ (zanF X.1 a (L * 8 + zeK e) _, X.2.2.2.2.2.2 ++ zanL X.1 a _)
        refine ⟨fun j => ?_, (zTs.anew (hjs3 a List.mem_cons_self).1 hK8 ?_ hgd).le (by omega)⟩
        · rw [if_pos hd]
          unfold zanF
          by_cases he : X.1 a = zsR v sz gr me fi (J ++ [e]) (zeK e) F L
          · rw [if_pos he]
            have haK : a = L * 8 + zeK e := by
              obtain ⟨l, l1, l2⟩ := haj
              subst l2
              obtain ⟨f, c, r⟩ := (hjs l l1).mp List.mem_cons_self
              by_cases hdl : (l : Int) + (sz : Int) < m
              · rw [i3 _ l f hk l1 c hdl] at he
                have := zro_to l1 hL he
                rw [this]
              · exact absurd (i4 _ l hk l1 (fun _ _ => hdl)) ha2
            by_cases hjK : j = L * 8 + zeK e
            · rw [if_pos hjK, hjK, ← haK, he]
            · have hja : j ∉ [a] := fun z => hjK (by rw [List.mem_singleton.mp z, haK])
              rw [if_neg hjK, if_neg hja]
          · rw [if_neg he]
            show (if j = L * 8 + zeK e then _ else zbkF X.1 a j) = _
            by_cases hjK : j = L * 8 + zeK e
            · rw [if_pos hjK, if_pos hjK]
            · rw [if_neg hjK, if_neg hjK]
              exact B1 j
        · by_cases hx : L * 8 + zeK e ∈ [a]
          · exact Or.inl (List.mem_singleton.mp hx)
          · exact Or.inr (htK hx)
      · rw [zsTj_t (by rw [hKd, hm]; exact hd) ha, hy, hK]
        have hb0 : (js.foldl (fun T a => (zbkF T.1 a, T.2 ++ zbkL T.1 a)) (X.1, X.2.2.2.2.2.2)).1 (L * 8 + zeK e) = 0 := by
          rw [B1]
          by_cases hx : L * 8 + zeK e ∈ js
          · rw [if_pos hx]
          · rw [if_neg hx]
            exact htK hx
        refine ⟨fun j => ?_, (B2.tr (zTs.tell hK8 hb0 hgd)).le (by omega)⟩
        show (if j = L * 8 + zeK e then _ else _) = _
        by_cases hjK : j = L * 8 + zeK e
        · rw [if_pos hjK, if_pos hjK, if_pos hd]
        · rw [if_neg hjK, if_neg hjK]
          exact B1 j
    · rw [zsTj_n (by rw [hKd, hm]; omega)]
      refine ⟨fun j => ?_, B2.le (by omega)⟩
      rw [B1]
      by_cases hjK : j = L * 8 + zeK e
      · rw [if_pos hjK, if_neg hd, hjK]
        by_cases hx : L * 8 + zeK e ∈ js
        · rw [if_pos hx]
        · rw [if_neg hx]
          exact htK hx
      · rw [if_neg hjK]
  refine ⟨zsTake_core (F := F) (L := L) (js := js) hk htk hal hiv h1 hL hC1 hC2 hjs hjs3 hfn hfs hff htd.1 ?_ (fun k hkk => if_neg hkk), htd.2⟩
  -- what is held
  show zAd X.2.1 (zeK e) (Int32.ofInt (1 - (js.length : Int))) (zeK e) = _
  rw [zAd_at, if_pos rfl, i6 _ hk, ← Int32.ofInt_add]
  congr 1
  have c1 := znb_js (P := fun l => decide (0 < X.2.2.2.1 (l * 8 + zeK e))) (k := zeK e) js (fun x hx => by
    obtain ⟨l, l1, l2⟩ := hjs2 x hx
    exact ⟨l, l1, l2, decide_eq_true (by rw [← l2]; exact hpos x hx)⟩) hnd
  have c2 := znb_one (p := fun l => decide (0 < fn2 (l * 8 + zeK e))) (q := fun l => decide (0 < X.2.2.2.1 (l * 8 + zeK e)) && !decide (l * 8 + zeK e ∈ js)) (w := L) 1000 hL (fun l hl hne => by
    have hsl : ¬ l * 8 + zeK e = L * 8 + zeK e := by omega
    rw [hfn _ (by omega), if_neg hsl]
    by_cases hx : l * 8 + zeK e ∈ js
    · rw [if_pos hx, decide_eq_true hx]
      simp
    · rw [if_neg hx, decide_eq_false hx]
      simp)
  have c3 : decide (0 < fn2 (L * 8 + zeK e)) = true := by
    rw [hfn _ hK8, if_pos rfl]
    exact decide_eq_true hNpos
  have c4 : (decide (0 < X.2.2.2.1 (L * 8 + zeK e)) && !decide (L * 8 + zeK e ∈ js)) = false := by
    by_cases hx : L * 8 + zeK e ∈ js
    · rw [decide_eq_true hx]
      simp
    · rw [(i2 _ L hk hL (fun f hc => absurd hc (hnoL hx f))).1]
      rfl
  rw [c3, c4] at c2
  simp only [Bool.toNat_true, Bool.toNat_false] at c2
  unfold zsH
  omega
end YC3
