set_option maxRecDepth 100000
section YD5
variable {Cs : List zCf} {J : List zE} {L : zVL} {W : zWl} {X : zQd}
/-- what is held, by views and by workers -/
theorem zhk_a (k : Nat) : ∀ (L : zVL) (a : Int32), zhk k L a = a + zhk k L 0 := by
  intro L
  induction L with
  | nil => intro a; exact (Int32.add_zero a).symm
  | cons X r ih =>
    intro a
    show zhk k r (a + X.2.2.1 k) = a + zhk k r (0 + X.2.2.1 k)
    rw [ih, ih (0 + X.2.2.1 k), Int32.zero_add, Int32.add_assoc]
theorem zhA_a : ∀ (L : zVL) (a : Int32), zhA L a = a + zhA L 0 := by
  intro L
  induction L with
  | nil => intro a; exact (Int32.add_zero a).symm
  | cons X r ih =>
    intro a
    show zhA r (a + zhs X.2.2.1 8) = a + zhA r (0 + zhs X.2.2.1 8)
    rw [ih, ih (0 + zhs X.2.2.1 8), Int32.zero_add, Int32.add_assoc]
theorem zhs_add (f g : Nat → Int32) : ∀ n, zhs (fun i => f i + g i) n = zhs f n + zhs g n := by
  intro n
  induction n with
  | zero => rfl
  | succ n ih =>
    show zhs (fun i => f i + g i) n + (f n + g n) = zhs f n + f n + (zhs g n + g n)
    rw [ih, Int32.add_assoc, Int32.add_assoc]
    congr 1
    rw [← Int32.add_assoc, ← Int32.add_assoc, Int32.add_comm (zhs g n) (f n)]
theorem zhs_0 : ∀ n, zhs (fun _ => 0) n = 0 := by
  intro n
  induction n with
  | zero => rfl
  | succ n ih =>
    show zhs (fun _ => 0) n + 0 = 0
    rw [ih]
    rfl
theorem zhA_k : ∀ (L : zVL), zhA L 0 = zhs (fun k => zhk k L 0) 8 := by
  intro L
  induction L with
  | nil => exact (zhs_0 8).symm
  | cons X r ih =>
    show zhA r (0 + zhs X.2.2.1 8) = zhs (fun k => zhk k r (0 + X.2.2.1 k)) 8
    have h1 : (fun k => zhk k r (0 + X.2.2.1 k)) = fun k => X.2.2.1 k + zhk k r 0 := by
      funext k
      rw [zhk_a, Int32.zero_add]
    rw [h1, zhs_add, zhA_a, Int32.zero_add, ih]
def zts (H : Nat → Int32) : Nat → Nat → Int32
  | 0, _ => 0
  | n + 1, i => H i + zts H n (i + 1)
theorem zts_s (H : Nat → Int32) : ∀ (n i : Nat), zts H (n + 1) i = zts H n i + H (i + n) := by
  intro n
  induction n with
  | zero => intro i; show H i + 0 = 0 + H i; rw [Int32.add_zero, Int32.zero_add]
  | succ n ih =>
    intro i
    show H i + zts H (n + 1) (i + 1) = H i + zts H n (i + 1) + H (i + (n + 1))
    rw [ih, Int32.add_assoc, show i + 1 + n = i + (n + 1) from by omega]
theorem zts_hs (H : Nat → Int32) : ∀ n, zts H n 0 = zhs H n := by
  intro n
  induction n with
  | zero => rfl
  | succ n ih =>
    rw [zts_s, ih, Nat.zero_add]
    rfl
theorem zld_3 (L : zVL) (wk : Nat → Int) (hw : ∀ i, 0 ≤ wk i ∧ wk i < 3) : ∀ (n i : Nat) (a b c : Int32), zld L wk 0 n i a + zld L wk 1 n i b + zld L wk 2 n i c = a + b + c + zts (fun k => zhk k L 0) n i := by
  intro n
  induction n with
  | zero => intro i a b c; exact (Int32.add_zero _).symm
  | succ n ih =>
    intro i a b c
    show zld L wk 0 n (i + 1) (if wk i = (0 : Nat) then a + zhk i L 0 else a) + zld L wk 1 n (i + 1) (if wk i = (1 : Nat) then b + zhk i L 0 else b) + zld L wk 2 n (i + 1) (if wk i = (2 : Nat) then c + zhk i L 0 else c) = a + b + c + (zhk i L 0 + zts (fun k => zhk k L 0) n (i + 1))
    rw [ih, ← Int32.add_assoc]
    congr 1
    have h := hw i
    have : wk i = (0 : Nat) ∨ wk i = (1 : Nat) ∨ wk i = (2 : Nat) := by omega
    rcases this with z | z | z
    · have z1 : ¬ wk i = (1 : Nat) := by omega
      have z2 : ¬ wk i = (2 : Nat) := by omega
      rw [if_pos z, if_neg z1, if_neg z2, Int32.add_assoc, Int32.add_assoc, Int32.add_comm (zhk i L 0), Int32.add_assoc, Int32.add_assoc, Int32.add_assoc]
    · have z1 : ¬ wk i = (0 : Nat) := by omega
      have z2 : ¬ wk i = (2 : Nat) := by omega
      rw [if_neg z1, if_pos z, if_neg z2, Int32.add_assoc, Int32.add_assoc, Int32.add_comm (zhk i L 0), Int32.add_assoc, Int32.add_assoc]
    · have z1 : ¬ wk i = (0 : Nat) := by omega
      have z2 : ¬ wk i = (1 : Nat) := by omega
      rw [if_neg z1, if_neg z2, if_pos z, Int32.add_assoc, Int32.add_assoc, Int32.add_assoc]
theorem zhA_lA (hw : ∀ i, 0 ≤ wd_wk W i ∧ wd_wk W i < 3) : zhA (wd_L W) 0 = zlA W 3 0 0 := by
  show _ = 0 + zld (wd_L W) (wd_wk W) 0 8 0 0 + zld (wd_L W) (wd_wk W) 1 8 0 0 + zld (wd_L W) (wd_wk W) 2 8 0 0
  have h := zld_3 (wd_L W) (wd_wk W) hw 8 0 0 0 0
  rw [Int32.zero_add, h, zts_hs, zhA_k]
  show _ = (0 : Int32) + 0 + 0 + _
  rw [Int32.zero_add, Int32.zero_add, Int32.zero_add]
/-- an entry of a log -/
def zLg (p i : Nat) (x : zE) : Prop := zeN x = 8 * i + p ∧ zeP x = p ∧ zeK x < 8 ∧ zeT x < 90 ∧ -99 ≤ zeV x ∧ zeV x ≤ 99
abbrev zqn (X : zQd) (p : Nat) : Nat := (X.1 p).2.2.2.2.length
/-- what is read: parts, journal, views, outputs -/
def zIR (Cs : List zCf) (X : zQd) : Prop := (Cs.length ≤ 5 ∧ ∀ C ∈ Cs, zCv C) ∧ (zJz X.2.1 ∧ zJA X.2.1 ∧ zJN X.2.1) ∧ zPm X.1 X.2.1 ∧ zGJ Cs X.2.1 X.2.2 ∧ zGS X.2.2 (zGs Cs X.2.1) ∧ (∀ p, p < 3 → (X.1 p).1 ≤ zqn X p ∧ (X.1 p).2.2.1 < 12 ∧ ∀ i x, (X.1 p).2.2.2.2[i]? = some x → zLg p i x) ∧ zqn X 0 + zqn X 1 + zqn X 2 ≤ 60
/-- promised and cut -/
def zIO (Cs : List zCf) (e : Nat) (W : zWl) : Prop := zqn W.1 0 + zqn W.1 1 + zqn W.1 2 ≤ e ∧ (∀ i, 0 ≤ wd_wk W i ∧ wd_wk W i < 3) ∧ (wd_rd W = false → wd_J W = []) ∧ wd_pj W ≤ (wd_J W).length ∧ wd_pr W = (zGs Cs ((wd_J W).take (wd_pj W))).2.length ∧ (∀ v, v < 5 → wd_ps W v = Int32.ofInt (zsS v (zGs Cs ((wd_J W).take (wd_pj W))).2)) ∧ (wd_uw W = true → wd_pj W ≤ wd_cj W ∧ wd_cj W ≤ (wd_J W).length ∧ wd_cu W = (zGs Cs ((wd_J W).take (wd_cj W))).2.length)
def zIW (e : Nat) (W : zWl) : Prop := ∃ Cs, zIR Cs W.1 ∧ zIO Cs e W
theorem zIR.jl (h : zIR Cs X) : X.2.1.length ≤ 60 := by
  obtain ⟨-, ⟨h1, -, -⟩, h4, -, -, h7, h8⟩ := h
  have := zPf_sum X.2.1 (fun x hx => (h1.mem hx).1)
  have a0 := (h4 0 (by omega)).1
  have a1 := (h4 1 (by omega)).1
  have a2 := (h4 2 (by omega)).1
  have b0 := (h7 0 (by omega)).1
  have b1 := (h7 1 (by omega)).1
  have b2 := (h7 2 (by omega)).1
  omega
/-- outputs of a part of the journal come first -/
theorem zIR.pre (h : zIR Cs X) (n : Nat) : ∃ o, X.2.2.2 = (zGs Cs (X.2.1.take n)).2 ++ o := by
  have hl := h.jl
  obtain ⟨⟨h1, h2⟩, ⟨h3, h4, h5⟩, -, -, h6, -⟩ := h
  rw [h6.1]
  exact zGs_take h1 h2 X.2.1 (by omega) h3 h4 n
theorem zGs_tt {n k : Nat} (h : zIR Cs X) (hnk : n ≤ k) : ∃ o, (zGs Cs (X.2.1.take k)).2 = (zGs Cs (X.2.1.take n)).2 ++ o := by
  have hl := h.jl
  obtain ⟨⟨h1, h2⟩, ⟨h3, h4, h5⟩, -, -, h6, -⟩ := h
  have hlt : (X.2.1.take k).length ≤ 72 := by
    have := List.length_take_le k X.2.1
    have : (X.2.1.take k).length ≤ X.2.1.length := List.length_take_le' _ _
    omega
  have := zGs_take h1 h2 (X.2.1.take k) hlt (h3.take k) (h4.take k) n
  rw [List.take_take, Nat.min_eq_left hnk] at this
  exact this
theorem zaB_at {out : List Int64} : ∀ (n i : Nat) (L : zVL), (zaB out n i L).length = L.length ∧ ∀ j, (zaB out n i L)[j]? = if i ≤ j ∧ j < i + n then (L[j]?).map (zaB1 out) else L[j]? := by
  intro n
  induction n with
  | zero => intro i L; exact ⟨rfl, fun j => (if_neg (by omega)).symm⟩
  | succ n ih =>
    intro i L
    show (zaB out n (i + 1) (match L[i]? with | some X => L.set i (zaB1 out X) | none => L)).length = _ ∧ ∀ j, (zaB out n (i + 1) (match L[i]? with | some X => L.set i (zaB1 out X) | none => L))[j]? = _
    cases hx : L[i]? with
    | none =>
      obtain ⟨a1, a2⟩ := ih (i + 1) L
      refine ⟨a1, fun j => ?_⟩
      rw [a2]
      by_cases c1 : i + 1 ≤ j ∧ j < i + 1 + n
      · rw [if_pos c1, if_pos (by omega)]
      · rw [if_neg c1]
        by_cases c2 : i ≤ j ∧ j < i + (n + 1)
        · have hji : j = i := by omega
          rw [if_pos c2, hji, hx]
          rfl
        · rw [if_neg c2]
    | some Y =>
      have hlt := (List.getElem?_eq_some_iff.mp hx).1
      obtain ⟨a1, a2⟩ := ih (i + 1) (L.set i (zaB1 out Y))
      refine ⟨a1.trans List.length_set, fun j => ?_⟩
      show (zaB out n (i + 1) (L.set i (zaB1 out Y)))[j]? = _
      rw [a2]
      by_cases hji : j = i
      · subst hji
        have c1 : ¬ (j + 1 ≤ j ∧ j < j + 1 + n) := by omega
        rw [if_neg c1, if_pos (by omega), List.getElem?_set_self hlt, hx]
        rfl
      · rw [List.getElem?_set_ne (fun z => hji z.symm)]
        by_cases c1 : i + 1 ≤ j ∧ j < i + 1 + n
        · rw [if_pos c1, if_pos (by omega)]
        · rw [if_neg c1, if_neg (by omega)]
/-- begun anew -/
theorem zuBeg_ok {v : Nat} {C : zCf} {J : List zE} {m : Int} {S : zSt} {out : List Int64} (h : zuIv v C J m S) : zSm C (zuBeg C (S, out)).1 zS0 ∧ zuIv v C [] (-1) (zuBeg C (S, out)).1 := by
  rcases h with ⟨c, hs, h, hA, hB⟩ | ⟨c, h, hA, hB⟩ | ⟨c, h, hB⟩ | ⟨c, h, hB⟩
  · unfold zuBeg
    rw [if_pos c]
    refine ⟨⟨rfl, rfl, rfl, fun _ => ⟨rfl, rfl⟩, fun z => by omega, hA, hB⟩, ?_⟩
    have := zuIv_0 (v := v) (m := -1) (C := C) (Or.inl ⟨c, hs⟩)
    rcases this with ⟨-, -, t, -, -⟩ | ⟨c2, -⟩ | ⟨c2, -⟩ | ⟨c2, -⟩
    · exact Or.inl ⟨c, hs, t, hA, hB⟩
    · omega
    · omega
    · omega
  · have c9 : ¬ C.1 = 9 := by omega
    unfold zuBeg
    rw [if_neg c9, if_pos c]
    exact ⟨⟨rfl, rfl, rfl, fun _ => ⟨rfl, rfl⟩, fun _ j _ hp => absurd (show (0 : Int32) < 0 from hp) (by decide), hA, hB⟩, Or.inr (Or.inl ⟨c, zsIv_0 (fun _ => rfl), hA, hB⟩)⟩
  · have c9 : ¬ C.1 = 9 := by omega
    have c6 : ¬ C.1 = 6 := by omega
    unfold zuBeg
    rw [if_neg c9, if_neg c6, if_pos c]
    have h0 := zuIv_0 (v := v) (m := -1) (C := C) (Or.inr (Or.inr (Or.inl c)))
    rcases h0 with ⟨c2, -⟩ | ⟨c2, -⟩ | ⟨-, t, -⟩ | ⟨c2, -⟩
    · omega
    · omega
    · exact ⟨⟨rfl, rfl, rfl, fun z => (by exfalso; omega), fun z => by omega, rfl, hB⟩, Or.inr (Or.inr (Or.inl ⟨c, t, hB⟩))⟩
    · omega
  · have c9 : ¬ C.1 = 9 := by omega
    have c6 : ¬ C.1 = 6 := by omega
    have c2 : ¬ C.1 = 2 := by omega
    unfold zuBeg
    rw [if_neg c9, if_neg c6, if_neg c2]
    have h0 := zuIv_0 (v := v) (m := -1) (C := C) (Or.inr (Or.inr (Or.inr c)))
    rcases h0 with ⟨c2, -⟩ | ⟨c2, -⟩ | ⟨c2, -⟩ | ⟨-, t, t2⟩
    · omega
    · omega
    · omega
    · exact ⟨⟨rfl, rfl, rfl, fun z => (by exfalso; omega), fun z => by omega, rfl, rfl⟩, Or.inr (Or.inr (Or.inr ⟨c, t, Nat.le_refl _⟩))⟩
end YD5
