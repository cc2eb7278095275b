set_option maxRecDepth 20000
section YM
/-- how many names a symbolic run may give -/
def yMax : Nat := 256
/-- an object of the symbolic machine: class and fields; or kind, length, what an array holds at first, and what was stored since -/
abbrev yO : Type := (Nat × List xV) ⊕ (Nat × Nat × xV × List (Nat × xV))
/-- objects: those of the start; those that were made, sixteen a row -/
abbrev yH : Type := List yO × List (List (Option yO))
/-- names given, cells made, slots made (both at most), objects -/
abbrev yT : Type := Nat × Nat × Nat × yH
/-- what is known of the unknown numbers: the stretches that it is in, each by its least value and the first above it (moved by 2^31); and of pairs, whether the first is at most the second -/
abbrev yE : Type := List (Nat × List (Nat × Nat)) × List (Nat × Nat × Bool)
noncomputable def yg {α : Type} (l : List α) : Nat → Option α :=
  List.rec (motive := fun _ => Nat → Option α) (fun _ => none) (fun a _ ih n => Nat.rec (motive := fun _ => Option α) (some a) (fun m _ => ih m) n) l
noncomputable def yp {α : Type} (l : List α) : Nat → α → List α :=
  List.rec (motive := fun _ => Nat → α → List α) (fun _ _ => []) (fun a t ih n v => Nat.rec (motive := fun _ => List α) (v :: t) (fun m _ => a :: ih m v) n) l
theorem yg_eq {α : Type} (l : List α) (n : Nat) : yg l n = l[n]? := by
  induction l generalizing n with
  | nil => rfl
  | cons a t ih =>
    cases n with
    | zero => rfl
    | succ m =>
      show yg t m = _
      rw [ih, List.getElem?_cons_succ]
theorem yp_eq {α : Type} (l : List α) (n : Nat) (v : α) : yp l n v = l.set n v := by
  induction l generalizing n with
  | nil => rfl
  | cons a t ih =>
    cases n with
    | zero => rfl
    | succ m =>
      show a :: yp t m v = _
      rw [ih, List.set_cons_succ]
noncomputable def ylook (h : yH) (q : Nat × Nat) : Option yO := match q with
  | (0, k) => yg h.1 k
  | (1, k) => match yg h.2 (k / 16) with
    | some r => match yg r (k % 16) with
      | some (some o) => some o
      | _ => none
    | none => none
  | _ => none
noncomputable def yput (h : yH) (k : Nat) (o : yO) : yH := match yg h.2 (k / 16) with
  | some r => (h.1, yp h.2 (k / 16) (yp r (k % 16) (some o)))
  | none => h
def yau (d : xV) : List (Nat × xV) → Nat → xV
  | [], _ => d
  | e :: r, j => if j = e.1 then e.2 else yau d r j
theorem ylook1 (h : yH) (k : Nat) : ylook h (1, k) = (match h.2[k / 16]? with
    | some r => match r[k % 16]? with
      | some (some o) => some o
      | _ => none
    | none => none) := by
  show (match yg h.2 (k / 16) with
    | some r => match yg r (k % 16) with
      | some (some o) => some o
      | _ => none
    | none => none) = _
  rw [yg_eq]
  cases h.2[k / 16]? with
  | none => rfl
  | some r =>
    dsimp only
    rw [yg_eq]
theorem ylook_put {h : yH} {k : Nat} {o o1 : yO} {q : Nat × Nat} (e : ylook (yput h k o) q = some o1) : q = (1, k) ∧ o1 = o ∨ q ≠ (1, k) ∧ ylook h q = some o1 := by
  obtain ⟨a, j⟩ := q
  unfold yput at e
  split at e
  next r hr =>
    rw [yg_eq] at hr
    match a, e with
    | 0, e => exact Or.inr ⟨(fun z => Nat.noConfusion (congrArg Prod.fst z)), e⟩
    | 1, e =>
      rw [ylook1] at e
      by_cases hj : j = k
      · subst hj
        refine Or.inl ⟨rfl, ?_⟩
        dsimp only at e
        rw [yp_eq, yp_eq, List.getElem?_set_self', hr] at e
        simp only [Option.map_eq_map, Option.map_some, Function.const_apply] at e
        rw [List.getElem?_set_self'] at e
        cases hx : r[j % 16]? with
        | none => rw [hx] at e; simp at e
        | some x => rw [hx] at e; simp at e; exact e.symm
      · refine Or.inr ⟨fun z => hj (congrArg Prod.snd z), ?_⟩
        rw [ylook1]
        dsimp only at e
        rw [yp_eq, yp_eq] at e
        by_cases hd : j / 16 = k / 16
        · rw [hd, List.getElem?_set_self', hr] at e
          rw [hd, hr]
          simp only [Option.map_eq_map, Option.map_some, Function.const_apply] at e
          dsimp only
          rw [List.getElem?_set_ne (by omega)] at e
          exact e
        · rw [List.getElem?_set_ne (fun z => hd z.symm)] at e
          exact e
    | _ + 2, e => cases e
  next hr =>
    refine Or.inr ⟨fun z => ?_, e⟩
    cases z
    rw [yg_eq] at hr
    rw [ylook1, hr] at e
    cases e
/-- a number moved by 2^31 -/
def yn (x : Int32) : Nat := (x.toInt + 2147483648).toNat
def yi (n : Nat) : Int32 := Int32.ofInt ((n : Int) - 2147483648)
theorem yn_toInt (x : Int32) : (yn x : Int) = x.toInt + 2147483648 := by
  have h := Int32.minValue_le_toInt x
  have h2 : Int32.minValue.toInt = -2147483648 := by decide
  unfold yn
  rw [h2] at h
  omega
theorem yn_lt (x : Int32) : yn x < 4294967296 := by
  have h := Int32.toInt_le x
  have h1 := yn_toInt x
  have h2 : Int32.maxValue.toInt = 2147483647 := by decide
  omega
theorem yn_le_iff {x y : Int32} : x ≤ y ↔ yn x ≤ yn y := by
  rw [Int32.le_iff_toInt_le]
  have h1 := yn_toInt x
  have h2 := yn_toInt y
  omega
theorem yn_lt_iff {x y : Int32} : x < y ↔ yn x < yn y := by
  rw [Int32.lt_iff_toInt_lt]
  have h1 := yn_toInt x
  have h2 := yn_toInt y
  omega
theorem yn_inj {x y : Int32} : x = y ↔ yn x = yn y := by
  constructor
  · intro h; rw [h]
  · intro h
    apply Int32.toInt_inj.mp
    have h1 := yn_toInt x
    have h2 := yn_toInt y
    omega
theorem yi_yn (x : Int32) : yi (yn x) = x := by
  unfold yi
  rw [yn_toInt]
  have : x.toInt + 2147483648 - 2147483648 = x.toInt := by omega
  rw [this]
  exact Int32.ofInt_toInt x
/-- numbers for the unknown ones: those of the script, their chars, their lowest five bits -/
def ygood (g : Nat → Int32) : Prop := ∀ k, k < 10 → g (10 + k) = ((g k).toUInt32 % 65536).toInt32 ∧ g (20 + k) = g k &&& 31
def ysg (f : Nat → Int32) (k : Nat) : Int32 := if k < 10 then f k else if k < 20 then ((f (k - 10)).toUInt32 % 65536).toInt32 else f (k - 20) &&& 31
theorem ysg_good (f : Nat → Int32) : ygood (ysg f) := by
  intro k hk
  unfold ysg
  constructor
  · rw [if_neg (by omega), if_pos (by omega), if_pos hk]
    congr 4
    omega
  · rw [if_neg (by omega), if_neg (by omega), if_pos hk]
    congr 2
    omega
def ysu (g : Nat → Int32) : xV → xV
  | .inl (.ref k) => .inl (.int (g k))
  | v => v
theorem ysu_cat (g : Nat → Int32) (v : xV) : xcat (ysu g v) = xcat v := by
  match v with
  | .inl (.ref _) => rfl
  | .inl (.int _) => rfl
  | .inl (.long _) => rfl
  | .inl (.float _) => rfl
  | .inl (.double _) => rfl
  | .inl .null => rfl
  | .inl (.retAddr _) => rfl
  | .inr _ => rfl
abbrev yl (g : Nat → Int32) (l : xL) : xL := l.map (fun q => (q.1, ysu g q.2))
abbrev ys_ (g : Nat → Int32) (st : List xV) : List xV := st.map (ysu g)
def yOs (g : Nat → Int32) : yO → xO
  | .inl w => .inl (w.1, w.2.map (ysu g))
  | .inr w => .inr (w.1, w.2.1, fun j => ysu g (yau w.2.2.1 w.2.2.2 j))
/-- a field of which nothing is known -/
def yhole : xV := .inl (.retAddr 0)
/-- an object of the small machine is a symbolic one's, with numbers for the unknown ones, and anything for the fields of which nothing is known -/
def yrel (g : Nat → Int32) (o : yO) (x : xO) : Prop := match o with
  | .inl w => ∃ fs : List xV, x = .inl (w.1, fs) ∧ fs.length = w.2.length ∧ ∀ (k : Nat) (v : xV), w.2[k]? = some v → v ≠ yhole → fs[k]? = some (ysu g v)
  | .inr w => x = .inr (w.1, w.2.1, fun j => ysu g (yau w.2.2.1 w.2.2.2 j))
theorem yrel_self (g : Nat → Int32) (o : yO) : yrel g o (yOs g o) := by
  cases o with
  | inl w => exact ⟨_, rfl, List.length_map .., fun k v h _ => by rw [List.getElem?_map, h]; rfl⟩
  | inr w => rfl
/-- the small machine's objects are the symbolic ones, with numbers for the unknown ones -/
def yR (g : Nat → Int32) (T : yT) (A : xA) : Prop :=
  A.1 = (List.range' T.1 (yMax - T.1)).map (fun k => ((1 : Nat), k)) ∧ A.2.1 ≤ T.2.1 ∧ A.2.2.1 ≤ T.2.2.1 ∧ (∀ q o, ylook T.2.2.2 q = some o → ∃ x, A.2.2.2 q = some x ∧ yrel g o x) ∧ ∀ k, T.1 ≤ k → A.2.2.2 (1, k) = none
theorem yR.look {g : Nat → Int32} {T : yT} {A : xA} (h : yR g T A) {q : Nat × Nat} {w : Nat × Nat × xV × List (Nat × xV)} (e : ylook T.2.2.2 q = some (.inr w)) : A.2.2.2 q = some (.inr (w.1, w.2.1, fun j => ysu g (yau w.2.2.1 w.2.2.2 j))) := by
  obtain ⟨x, h1, h2⟩ := h.2.2.2.1 q _ e
  have h2 : x = .inr (w.1, w.2.1, fun j => ysu g (yau w.2.2.1 w.2.2.2 j)) := h2
  rw [h1, h2]
theorem yR.lookO {g : Nat → Int32} {T : yT} {A : xA} (h : yR g T A) {q : Nat × Nat} {ci : Nat} {fs : List xV} (e : ylook T.2.2.2 q = some (.inl (ci, fs))) : ∃ fs2 : List xV, A.2.2.2 q = some (.inl (ci, fs2)) ∧ fs2.length = fs.length ∧ ∀ (k : Nat) (v : xV), fs[k]? = some v → v ≠ yhole → fs2[k]? = some (ysu g v) := by
  obtain ⟨x, h1, fs2, h2, h3⟩ := h.2.2.2.1 q _ e
  exact ⟨fs2, by rw [h1, h2], h3⟩
theorem yR.put {g : Nat → Int32} {T : yT} {A : xA} (h : yR g T A) {k : Nat} {o o1 : yO} {x1 : xO} (e : ylook T.2.2.2 (1, k) = some o) (hx : yrel g o1 x1) : yR g (T.1, T.2.1, T.2.2.1, yput T.2.2.2 k o1) (A.1, A.2.1, A.2.2.1, xup A.2.2.2 (1, k) x1) := by
  refine ⟨h.1, h.2.1, h.2.2.1, fun q o2 e2 => ?_, fun j hj => ?_⟩
  · show ∃ x, xup A.2.2.2 (1, k) x1 q = some x ∧ _
    unfold xup
    rcases ylook_put e2 with ⟨rfl, rfl⟩ | ⟨hne, e3⟩
    · rw [if_pos rfl]
      exact ⟨_, rfl, hx⟩
    · rw [if_neg hne]
      exact h.2.2.2.1 q o2 e3
  · show xup A.2.2.2 (1, k) x1 (1, j) = none
    have hj : T.1 ≤ j := hj
    obtain ⟨y, h1, -⟩ := h.2.2.2.1 _ _ e
    have h2 := h.2.2.2.2 j hj
    unfold xup
    split
    next z =>
      cases z
      rw [h1] at h2
      cases h2
    next => exact h2
theorem yR.names {g : Nat → Int32} {T : yT} {A : xA} (h : yR g T A) (hT : T.1 < yMax) : A.1 = (1, T.1) :: (List.range' (T.1 + 1) (yMax - (T.1 + 1))).map (fun k => ((1 : Nat), k)) := by
  have e : yMax - T.1 = (yMax - (T.1 + 1)) + 1 := by omega
  rw [h.1, e, List.range'_succ]
  rfl
theorem yR.new {g : Nat → Int32} {T : yT} {A : xA} (h : yR g T A) (hT : T.1 < yMax) {o1 : yO} {x1 : xO} {n m : Nat} (hnm : n ≤ m) (hx : yrel g o1 x1) : yR g (T.1 + 1, T.2.1 + 1, T.2.2.1 + m, yput T.2.2.2 T.1 o1) ((List.range' (T.1 + 1) (yMax - (T.1 + 1))).map (fun k => ((1 : Nat), k)), A.2.1 + 1, A.2.2.1 + n, xup A.2.2.2 (1, T.1) x1) := by
  refine ⟨rfl, Nat.add_le_add_right h.2.1 1, Nat.add_le_add h.2.2.1 hnm, fun q o2 e2 => ?_, fun j hj => ?_⟩
  · show ∃ x, xup A.2.2.2 (1, T.1) x1 q = some x ∧ _
    unfold xup
    rcases ylook_put e2 with ⟨rfl, rfl⟩ | ⟨hne, e3⟩
    · rw [if_pos rfl]
      exact ⟨_, rfl, hx⟩
    · rw [if_neg hne]
      exact h.2.2.2.1 q o2 e3
  · show xup A.2.2.2 (1, T.1) x1 (1, j) = none
    have hj : T.1 + 1 ≤ j := hj
    unfold xup
    rw [if_neg (fun z => by cases z; omega)]
    exact h.2.2.2.2 j (by omega)
theorem yl_xl (g : Nat → Int32) (l : xL) (i : Nat) : xl (yl g l) i = (xl l i).map (ysu g) := by
  induction l with
  | nil => rfl
  | cons q r ih =>
    show xl ((q.1, ysu g q.2) :: yl g r) i = _
    unfold xl
    dsimp only
    split
    · rfl
    · exact ih
theorem yl_xst1 (g : Nat → Int32) (l : xL) (i : Nat) (v : xV) : xst1 (yl g l) i (ysu g v) = yl g (xst1 l i v) := by
  unfold xst1 yl
  rw [List.map_cons, List.filter_map]
  congr 2
  refine List.filter_congr fun q _ => ?_
  simp only [Function.comp, ysu_cat]
theorem yl_xst2 (g : Nat → Int32) (l : xL) (i : Nat) (v : xV) : xst2 (yl g l) i (ysu g v) = yl g (xst2 l i v) := by
  unfold xst2 yl
  rw [List.map_cons, List.filter_map]
  congr 2
  refine List.filter_congr fun q _ => ?_
  simp only [Function.comp, ysu_cat]
theorem yl_xrm (g : Nat → Int32) (l : xL) (i : Nat) : xrm (yl g l) i = yl g (xrm l i) := by
  unfold xrm yl
  rw [List.filter_map]
  congr 1
  refine List.filter_congr fun q _ => ?_
  simp only [Function.comp, ysu_cat]
theorem yl_xar (g : Nat → Int32) : ∀ (vs : List xV) (i : Nat), yl g (xar i vs) = xar i (vs.map (ysu g))
  | [], _ => rfl
  | v :: vs, i => by
    show (i, ysu g v) :: yl g (xar _ vs) = (i, ysu g v) :: xar _ (vs.map (ysu g))
    rw [yl_xar g vs, ysu_cat]
theorem ys_sum (g : Nat → Int32) (st : List xV) : ((st.map (ysu g)).map xcat).sum = (st.map xcat).sum := by
  rw [List.map_map, show (xcat ∘ ysu g) = xcat from funext fun v => ysu_cat g v]
theorem yau_set (g : Nat → Int32) (d : xV) (us : List (Nat × xV)) (i : Nat) (v : xV) : (fun j => ysu g (yau d ((i, v) :: us) j)) = xfu (fun j => ysu g (yau d us j)) i (ysu g v) := by
  funext j
  show ysu g (if j = i then v else yau d us j) = if j = i then ysu g v else ysu g (yau d us j)
  split <;> rfl
end YM
