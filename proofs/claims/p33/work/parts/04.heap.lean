set_option maxRecDepth 20000
section XH
/-- the kinds of arrays: 0 int, 1 long, 2 char, 3 double, 4 objects, 5 the reference's holders, 9 an int array that is only read -/
def xak (k : Nat) : FieldType := match k with
  | 1 => .long
  | 2 => .char
  | 3 => .double
  | 4 => .object "java/lang/Object"
  | 5 => .object "ViewFoundryModel$Held"
  | _ => .int
def xlv (h : xH) : xV → Prop
  | .inl _ => True
  | .inr q => h q ≠ none
def xOl (h : xH) : xO → Prop
  | .inl w => ∀ v ∈ w.2, xlv h v
  | .inr w => ∀ j, xlv h (w.2.2 j)
def xup (h : xH) (q : Nat × Nat) (o : xO) : xH := fun z => if z = q then some o else h z
def xan (ad : xN) (q : Nat × Nat) (a : Nat) : xN := fun z => if z = q then a else ad z
def xfu (f : Nat → xV) (i : Nat) (v : xV) : Nat → xV := fun j => if j = i then v else f j
theorem xup_dom {h : xH} {q z : Nat × Nat} {o : xO} (hz : h z ≠ none) : xup h q o z ≠ none := by
  unfold xup
  split
  · simp
  · exact hz
theorem xup_lv {h : xH} {q : Nat × Nat} {o : xO} {v : xV} (hv : xlv h v) : xlv (xup h q o) v := by
  cases v with
  | inl v => trivial
  | inr z => exact xup_dom hv
theorem xup_Ol {h : xH} {q : Nat × Nat} {o o1 : xO} (ho : xOl h o1) : xOl (xup h q o) o1 := by
  cases o1 with
  | inl w => exact fun v hv => xup_lv (ho v hv)
  | inr w => exact fun j => xup_lv (ho j)
theorem xan_c {h : xH} {ad : xN} {q : Nat × Nat} {a : Nat} (hq : h q = none) {v : xV} (hv : xlv h v) : xc (xan ad q a) v = xc ad v := by
  cases v with
  | inl v => rfl
  | inr z =>
    show Value.ref (xan ad q a z) = Value.ref (ad z)
    unfold xan
    exact congrArg Value.ref (if_neg (fun e : z = q => hv (by rw [e]; exact hq)))
/-- what a cell of the machine is of an object -/
def xcell (s : State) (D : va_G) (cl : List vw_C) (ad : xN) (a : Nat) (o : xO) (H : Heap) : Prop := match o with
  | .inl w => ∃ r : vw_C, cl[w.1]? = some r ∧ w.2.length = r.2.2 ∧ t_OB a (D.1 w.1) r.2.2 (D.2 w.1) H (vp_V (w.2.map (xc ad)))
  | .inr w => ∃ cell : Cell, H[a]? = some cell ∧ s.isArrayOf cell (xak w.1) ∧ (w.1 = 9 ∨ va_RA s cell.cls (xak w.1)) ∧ cell.vm ≠ .unknown ∧ cell.slots.size = w.2.1 ∧ ∀ j, j < w.2.1 → cell.slots[j]? = some (xc ad (w.2.2 j))
theorem xcell.kept {s : State} {D : va_G} {cl : List vw_C} {ad : xN} {a : Nat} {o : xO} {H H1 : Heap} (h : xcell s D cl ad a o H) (e : H1[a]? = H[a]?) : xcell s D cl ad a o H1 := by
  cases o with
  | inl w =>
    obtain ⟨r, h1, h2, h3⟩ := h
    exact ⟨r, h1, h2, h3.kept e⟩
  | inr w =>
    obtain ⟨cell, h1, h2⟩ := h
    exact ⟨cell, by rw [e]; exact h1, h2⟩
theorem xcell.lt {s : State} {D : va_G} {cl : List vw_C} {ad : xN} {a : Nat} {o : xO} {H : Heap} (h : xcell s D cl ad a o H) : a < H.size := by
  cases o with
  | inl w =>
    obtain ⟨r, h1, h2, cell, h3, -⟩ := h
    exact (Array.getElem?_eq_some_iff.mp h3).1
  | inr w =>
    obtain ⟨cell, h1, -⟩ := h
    exact (Array.getElem?_eq_some_iff.mp h1).1
theorem xcell.ad {s : State} {D : va_G} {cl : List vw_C} {ad ad2 : xN} {a : Nat} {o : xO} {H : Heap} {h : xH} (hc : xcell s D cl ad a o H) (ho : xOl h o) (e : ∀ v, xlv h v → xc ad2 v = xc ad v) : xcell s D cl ad2 a o H := by
  cases o with
  | inl w =>
    obtain ⟨r, h1, h2, h3⟩ := hc
    refine ⟨r, h1, h2, ?_⟩
    rw [List.map_congr_left (fun v hv => e v (ho v hv))]
    exact h3
  | inr w =>
    obtain ⟨cell, h1, h2, h3, h4, h5, h6⟩ := hc
    exact ⟨cell, h1, h2, h3, h4, h5, fun j hj => by rw [e _ (ho j)]; exact h6 j hj⟩
theorem xcell.moved {s U : State} {D : va_G} {cl : List vw_C} {ad : xN} {a : Nat} {o : xO} {H : Heap} (hvm : s.vm.Alike U.vm) (h : xcell s D cl ad a o H) : xcell U D cl ad a o H := by
  cases o with
  | inl w => exact h
  | inr w =>
    obtain ⟨cell, h1, h2, h3, h4⟩ := h
    exact ⟨cell, h1, State.isArrayOf_alike hvm h2, h3.imp id (fun z => z.moved hvm), h4⟩
/-- the machine's heap holds the small machine's objects, each at the address of its name -/
def xRep (s : State) (D : va_G) (cl : List vw_C) (B : Nat) (ad : xN) (h : xH) (H : Heap) : Prop :=
  (∀ q o, h q = some o → xcell s D cl ad (ad q) o H) ∧ (∀ q z, h q ≠ none → h z ≠ none → ad q = ad z → q = z) ∧ (∀ q, h q ≠ none → q.1 ≠ 0 → B ≤ ad q) ∧ ∀ q o, h q = some o → xOl h o
theorem xRep.moved {s U : State} {D : va_G} {cl : List vw_C} {B : Nat} {ad : xN} {h : xH} {H : Heap} (hvm : s.vm.Alike U.vm) (hR : xRep s D cl B ad h H) : xRep U D cl B ad h H :=
  ⟨fun q o hq => (hR.1 q o hq).moved hvm, hR.2⟩
theorem xRep.put {s : State} {D : va_G} {cl : List vw_C} {B : Nat} {ad : xN} {h : xH} {H H1 : Heap} {q : Nat × Nat} {o o1 : xO} (hR : xRep s D cl B ad h H) (hq : h q = some o) (hc : xcell s D cl ad (ad q) o1 H1) (hk : ∀ a, a ≠ ad q → H1[a]? = H[a]?) (ho : xOl h o1) : xRep s D cl B ad (xup h q o1) H1 := by
  obtain ⟨r1, r2, r3, r4⟩ := hR
  have hq0 : h q ≠ none := by rw [hq]; simp
  have dom : ∀ z, xup h q o1 z ≠ none → h z ≠ none := by
    intro z hz
    unfold xup at hz
    split at hz
    next e => subst e; exact hq0
    next => exact hz
  refine ⟨fun z oz hz => ?_, fun z y hz hy e => r2 z y (dom z hz) (dom y hy) e, fun z hz h0 => r3 z (dom z hz) h0, fun z oz hz => ?_⟩
  · unfold xup at hz
    split at hz
    next e => cases hz; subst e; exact hc
    next e => exact (r1 z oz hz).kept (hk _ (fun a => e (r2 z q (by rw [hz]; simp) hq0 a)))
  · unfold xup at hz
    split at hz
    next e => cases hz; exact xup_Ol ho
    next e => exact xup_Ol (r4 z oz hz)
theorem xRep.new {s : State} {D : va_G} {cl : List vw_C} {B : Nat} {ad : xN} {h : xH} {H H1 : Heap} {q : Nat × Nat} {o1 : xO} (hR : xRep s D cl B ad h H) (hq : h q = none) (hB : B ≤ H.size) (hc : xcell s D cl (xan ad q H.size) H.size o1 H1) (hk : ∀ x, x < H.size → H1[x]? = H[x]?) (ho : xOl (xup h q o1) o1) : xRep s D cl B (xan ad q H.size) (xup h q o1) H1 := by
  obtain ⟨r1, r2, r3, r4⟩ := hR
  have hlt : ∀ z, h z ≠ none → ad z < H.size := by
    intro z hz
    cases e : h z with
    | none => exact absurd e hz
    | some o => exact (r1 z o e).lt
  have hae : ∀ z, h z ≠ none → xan ad q H.size z = ad z := fun z hz => by
    unfold xan
    exact if_neg (fun e : z = q => hz (by rw [e]; exact hq))
  have hself : xan ad q H.size q = H.size := by unfold xan; rw [if_pos rfl]
  have dom : ∀ z, xup h q o1 z ≠ none → z = q ∨ h z ≠ none := by
    intro z hz
    unfold xup at hz
    split at hz
    next e => exact Or.inl e
    next => exact Or.inr hz
  refine ⟨fun z oz hz => ?_, fun z y hz hy e => ?_, fun z hz h0 => ?_, fun z oz hz => ?_⟩
  · unfold xup at hz
    split at hz
    next e =>
      cases hz
      subst e
      rw [hself]
      exact hc
    next e =>
      have hz0 : h z ≠ none := by rw [hz]; simp
      rw [hae z hz0]
      exact ((r1 z oz hz).ad (r4 z oz hz) (fun v hv => xan_c hq hv)).kept (hk _ (hlt z hz0))
  · rcases dom z hz with rfl | hz0 <;> rcases dom y hy with rfl | hy0
    · rfl
    · rw [hself, hae y hy0] at e
      exact absurd (hlt y hy0) (by omega)
    · rw [hself, hae z hz0] at e
      exact absurd (hlt z hz0) (by omega)
    · rw [hae z hz0, hae y hy0] at e
      exact r2 z y hz0 hy0 e
  · rcases dom z hz with rfl | hz0
    · rw [hself]; exact hB
    · rw [hae z hz0]; exact r3 z hz0 h0
  · unfold xup at hz
    split at hz
    next e => cases hz; exact ho
    next e => exact xup_Ol (r4 z oz hz)
theorem xarr_set {ad : xN} {cell : Cell} {n : Nat} {f : Nat → xV} {i : Nat} {v : xV} (hsz : cell.slots.size = n) (hv : ∀ j, j < n → cell.slots[j]? = some (xc ad (f j))) (hi : i < n) :
    (cell.setSlot i (xc ad v)).slots.size = n ∧ ∀ j, j < n → (cell.setSlot i (xc ad v)).slots[j]? = some (xc ad (xfu f i v j)) := by
  refine ⟨by simp [Cell.setSlot, hsz], fun j hj => ?_⟩
  show (cell.slots.setIfInBounds i (xc ad v))[j]? = _
  unfold xfu
  by_cases e : j = i
  · subst e
    rw [if_pos rfl, Array.getElem?_setIfInBounds_self_of_lt (by omega)]
  · rw [if_neg e, Array.getElem?_setIfInBounds_ne (fun z => e z.symm)]
    exact hv j hj
/-- what a frame knows of the heap: the objects, and that nothing else that was there at its start has changed -/
def xI (s : State) (D : va_G) (cl : List vw_C) (B : Nat) (ad : xN) (h : xH) (H : Heap) (locs : List Loc) : Prop :=
  xRep s D cl B ad h H ∧ va_S (fun q => B ≤ q) s.heap H locs ∧ B ≤ s.heap.size
/-- one address more was written -/
theorem xS_put {B : Nat} {H0 H H1 : Heap} {locs : List Loc} {a i : Nat} (hS : va_S (fun q => B ≤ q) H0 H locs) (hz : H1.size = H.size) (hk : ∀ x, x ≠ a → H1[x]? = H[x]?) (ha : B ≤ a) : va_S (fun q => B ≤ q) H0 H1 (locs ++ [⟨a, i⟩]) := by
  refine ⟨by rw [hz]; exact hS.1, fun q h1 h2 => ?_, fun l hl => ?_⟩
  · have h2' : ¬ B ≤ q := h2
    rw [hk q (fun e => h2' (e ▸ ha))]
    exact hS.2.1 q h1 h2
  · rcases List.mem_append.mp hl with h | h
    · exact hS.2.2 l h
    · rw [List.mem_singleton.mp h]
      exact ha
theorem xS_new {B : Nat} {H0 H H1 : Heap} {locs : List Loc} (hS : va_S (fun q => B ≤ q) H0 H locs) (hz : H.size ≤ H1.size) (hk : ∀ x, x < H.size → H1[x]? = H[x]?) : va_S (fun q => B ≤ q) H0 H1 locs :=
  ⟨Nat.le_trans hS.1 hz, fun q h1 h2 => by rw [hk q (Nat.lt_of_lt_of_le h1 hS.1)]; exact hS.2.1 q h1 h2, hS.2.2⟩
/-- a write of an object that is there, but not one that is only read -/
theorem xI.put {s : State} {D : va_G} {cl : List vw_C} {B : Nat} {ad : xN} {h : xH} {H H1 : Heap} {locs : List Loc} {q : Nat × Nat} {o o1 : xO} {i : Nat} (hI : xI s D cl B ad h H locs) (hq : h q = some o) (h0 : q.1 ≠ 0) (hc : xcell s D cl ad (ad q) o1 H1) (hz : H1.size = H.size) (hk : ∀ a, a ≠ ad q → H1[a]? = H[a]?) (ho : xOl h o1) : xI s D cl B ad (xup h q o1) H1 (locs ++ [⟨ad q, i⟩]) :=
  ⟨hI.1.put hq hc hk ho, xS_put hI.2.1 hz hk (hI.1.2.2.1 q (by rw [hq]; simp) h0), hI.2.2⟩
theorem xI.new {s : State} {D : va_G} {cl : List vw_C} {B : Nat} {ad : xN} {h : xH} {H H1 : Heap} {locs : List Loc} {q : Nat × Nat} {o1 : xO} (hI : xI s D cl B ad h H locs) (hq : h q = none) (hc : xcell s D cl (xan ad q H.size) H.size o1 H1) (hz : H.size ≤ H1.size) (hk : ∀ x, x < H.size → H1[x]? = H[x]?) (ho : xOl (xup h q o1) o1) : xI s D cl B (xan ad q H.size) (xup h q o1) H1 locs :=
  ⟨hI.1.new hq (Nat.le_trans hI.2.2 hI.2.1.1) hc hk ho, xS_new hI.2.1 hz hk, hI.2.2⟩
theorem xlm_an {h : xH} {ad : xN} {q : Nat × Nat} {a : Nat} {l : xL} (hq : h q = none) (hl : ∀ z ∈ l, xlv h z.2) : xlm (xan ad q a) l = xlm ad l :=
  List.map_congr_left (fun z hz => by rw [xan_c hq (hl z hz)])
theorem xst_an {h : xH} {ad : xN} {q : Nat × Nat} {a : Nat} {st : List xV} (hq : h q = none) (hl : ∀ v ∈ st, xlv h v) : st.map (xc (xan ad q a)) = st.map (xc ad) :=
  List.map_congr_left (fun z hz => xan_c hq (hl z hz))
theorem xok_up {h : xH} {q : Nat × Nat} {o : xO} {l : xL} {st : List xV} (hk : xok (xlv h) l st) : xok (xlv (xup h q o)) l st := ⟨fun z hz => xup_lv (hk.1 z hz), fun v hv => xup_lv (hk.2 v hv)⟩
theorem xlv_self {h : xH} {q : Nat × Nat} {o : xO} : xlv (xup h q o) (.inr q) := by
  show xup h q o q ≠ none
  unfold xup
  rw [if_pos rfl]
  simp
end XH
