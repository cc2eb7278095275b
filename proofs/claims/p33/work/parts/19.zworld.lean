set_option maxRecDepth 20000
section ZWD
/-- the objects that a stretch of code knows, each by its name -/
abbrev zWorld : Type := List ((Nat × Nat) × xO)
def zWd (h : xH) (W : zWorld) : Prop := (W.map (fun p => p.1)).Nodup ∧ ∀ p ∈ W, p.1.1 ≠ 0 ∧ h p.1 = some p.2
/-- what was there is there, and what isn't of these has stayed -/
def zFr (N : List (Nat × Nat)) (h h1 : xH) : Prop := ∀ q, h q ≠ none → h1 q ≠ none ∧ (q ∉ N → h1 q = h q)
variable {h h1 h2 : xH} {W V V1 : zWorld}
theorem zWd.get (hw : zWd h W) (i : Nat) {q : Nat × Nat} {o : xO} (e : W[i]? = some (q, o)) : h q = some o := (hw.2 _ (List.mem_of_getElem? e)).2
theorem zWd.nz (hw : zWd h W) (i : Nat) {q : Nat × Nat} {o : xO} (e : W[i]? = some (q, o)) : q.1 ≠ 0 := (hw.2 _ (List.mem_of_getElem? e)).1
theorem znd {α : Type} {l : List α} (hd : l.Nodup) {i j : Nat} {a : α} (hi : l[i]? = some a) (hj : l[j]? = some a) : i = j := by
  obtain ⟨h1, e1⟩ := List.getElem?_eq_some_iff.mp hi
  exact (List.getElem?_inj h1 hd).mp (hi.trans hj.symm)
theorem zWd.ne (hw : zWd h W) (i j : Nat) {q q2 : Nat × Nat} {o o2 : xO} (ei : W[i]? = some (q, o)) (ej : W[j]? = some (q2, o2)) (hij : i ≠ j) : q ≠ q2 := by
  intro z
  subst z
  refine hij (znd hw.1 (a := q) ?_ ?_)
  · rw [List.getElem?_map, ei]
    rfl
  · rw [List.getElem?_map, ej]
    rfl
theorem zWd.set (hw : zWd h W) (i : Nat) {q : Nat × Nat} {o : xO} (e : W[i]? = some (q, o)) (o1 : xO) : zWd (xup h q o1) (W.set i (q, o1)) := by
  have hi := (List.getElem?_eq_some_iff.mp e).1
  have hn : (W.set i (q, o1)).map (fun p => p.1) = W.map (fun p => p.1) := by
    rw [List.map_set]
    apply List.ext_getElem?
    intro j
    rw [List.getElem?_set]
    split
    next hj =>
      subst hj
      rw [List.length_map, if_pos hi, List.getElem?_map, e]
      rfl
    next => rfl
  refine ⟨by rw [hn]; exact hw.1, fun p hp => ?_⟩
  obtain ⟨j, hj⟩ := List.getElem?_of_mem hp
  rw [List.getElem?_set] at hj
  split at hj
  next hij =>
    subst hij
    try rw [if_pos hi] at hj
    cases hj
    exact ⟨hw.nz i e, zup_s⟩
  next hij =>
    obtain ⟨p1, p2⟩ := p
    exact ⟨hw.nz j hj, zup_n (fun z => hij (by
      have := hw.ne i j e hj
      exact Classical.not_not.mp (fun q9 => this q9 z.symm))) (hw.get j hj)⟩
theorem zWd.sub (hw : zWd h W) (is : List Nat) (e : is.map (fun i => W[i]?) = V.map some) (hd : is.Nodup) : zWd h V := by
  have at_ : ∀ (k : Nat) (p : (Nat × Nat) × xO), V[k]? = some p → ∃ i, is[k]? = some i ∧ W[i]? = some p := by
    intro k p hk
    have h1 : (V.map some)[k]? = some (some p) := by rw [List.getElem?_map, hk]; rfl
    rw [← e, List.getElem?_map] at h1
    cases hi : is[k]? with
    | none => rw [hi] at h1; cases h1
    | some i =>
      rw [hi] at h1
      exact ⟨i, rfl, Option.some.inj h1⟩
  refine ⟨?_, fun p hp => ?_⟩
  · refine List.pairwise_iff_getElem.mpr ?_
    intro j k hj2 hk2 hjk z
    have hj : j < V.length := by rw [List.length_map] at hj2; exact hj2
    have hk : k < V.length := by rw [List.length_map] at hk2; exact hk2
    rw [List.getElem_map, List.getElem_map] at z
    obtain ⟨i1, a1, b1⟩ := at_ j _ (List.getElem?_eq_getElem hj)
    obtain ⟨i2, a2, b2⟩ := at_ k _ (List.getElem?_eq_getElem hk)
    have : i1 ≠ i2 := fun y => by
      subst y
      exact absurd (znd hd a1 a2) (by omega)
    exact hw.ne i1 i2 b1 b2 this z
  · obtain ⟨k, hk⟩ := List.getElem?_of_mem hp
    obtain ⟨i, -, hi⟩ := at_ k p hk
    exact hw.2 p (List.mem_of_getElem? hi)
/-- a world with some of its objects as they came back from a call -/
def zjn (W : zWorld) (is : List Nat) (V : zWorld) : zWorld := W.mapIdx (fun i p => match is.findIdx? (fun j => Nat.beq j i) with
  | some k => match V[k]? with
    | some p1 => p1
    | none => p
  | none => p)
theorem zWd.join (hw : zWd h W) (is : List Nat) (e : is.map (fun i => W[i]?) = V.map some) (hv : zWd h1 V1) (hn : V1.map (fun p => p.1) = V.map (fun p => p.1)) (hf : zFr (V.map (fun p => p.1)) h h1) : zWd h1 (zjn W is V1) := by
  have at_ : ∀ (k i : Nat), is[k]? = some i → ∃ (p p1 : (Nat × Nat) × xO), W[i]? = some p ∧ V[k]? = some p ∧ V1[k]? = some p1 ∧ p1.1 = p.1 := by
    intro k i hk
    have h1 : (is.map (fun i => W[i]?))[k]? = some W[i]? := by rw [List.getElem?_map, hk]; rfl
    rw [e, List.getElem?_map] at h1
    cases hV : V[k]? with
    | none => rw [hV] at h1; cases h1
    | some p =>
      rw [hV] at h1
      have h2 : (V.map (fun p => p.1))[k]? = some p.1 := by rw [List.getElem?_map, hV]; rfl
      rw [← hn, List.getElem?_map] at h2
      cases hV1 : V1[k]? with
      | none => rw [hV1] at h2; cases h2
      | some p1 =>
        rw [hV1] at h2
        exact ⟨p, p1, (Option.some.inj h1).symm, rfl, rfl, Option.some.inj h2⟩
  have fi : ∀ (i k : Nat), is.findIdx? (fun j => Nat.beq j i) = some k → is[k]? = some i := by
    intro i k hk
    obtain ⟨hlt, hb, -⟩ := List.findIdx?_eq_some_iff_getElem.mp hk
    rw [List.getElem?_eq_getElem hlt, Nat.eq_of_beq_eq_true hb]
  have fn : ∀ (i : Nat), is.findIdx? (fun j => Nat.beq j i) = none → i ∉ is := by
    intro i hk hi
    have := List.findIdx?_eq_none_iff.mp hk i hi
    rw [Nat.beq_refl] at this
    cases this
  have el : ∀ (i : Nat) (p : (Nat × Nat) × xO), (zjn W is V1)[i]? = some p → ∃ p0 : (Nat × Nat) × xO, W[i]? = some p0 ∧ p.1 = p0.1 ∧ ((∃ k : Nat, is[k]? = some i ∧ V1[k]? = some p) ∨ i ∉ is ∧ p = p0) := by
    intro i p hp
    unfold zjn at hp
    rw [List.getElem?_mapIdx] at hp
    cases hW : W[i]? with
    | none => rw [hW] at hp; cases hp
    | some p0 =>
      rw [hW] at hp
      have hp := Option.some.inj hp
      refine ⟨p0, rfl, ?_⟩
      split at hp
      next k hk =>
        have hk2 := fi i k hk
        obtain ⟨q, q1, a1, a2, a3, a4⟩ := at_ k i hk2
        rw [hW] at a1
        cases a1
        rw [a3] at hp
        dsimp only at hp
        subst hp
        exact ⟨a4, Or.inl ⟨k, hk2, a3⟩⟩
      next hk => exact ⟨by rw [← hp], Or.inr ⟨fn i hk, hp.symm⟩⟩
  have hlen : (zjn W is V1).length = W.length := by unfold zjn; rw [List.length_mapIdx]
  refine ⟨?_, fun p hp => ?_⟩
  · have : (zjn W is V1).map (fun p => p.1) = W.map (fun p => p.1) := by
      apply List.ext_getElem?
      intro i
      rw [List.getElem?_map, List.getElem?_map]
      cases hp : (zjn W is V1)[i]? with
      | none =>
        have : W.length ≤ i := by rw [← hlen]; exact List.getElem?_eq_none_iff.mp hp
        rw [List.getElem?_eq_none_iff.mpr this]
      | some p =>
        obtain ⟨p0, h1, h2, -⟩ := el i p hp
        rw [h1]
        show some p.1 = some p0.1
        rw [h2]
    rw [this]
    exact hw.1
  · obtain ⟨i, hi⟩ := List.getElem?_of_mem hp
    obtain ⟨p0, h1, h2, h3⟩ := el i p hi
    rcases h3 with ⟨k, -, hk⟩ | ⟨hni, rfl⟩
    · exact hv.2 p (List.mem_of_getElem? hk)
    · obtain ⟨a1, a2⟩ := hw.2 p (List.mem_of_getElem? h1)
      refine ⟨a1, ?_⟩
      rw [(hf p.1 (by rw [a2]; exact Option.some_ne_none _)).2 ?_]
      · exact a2
      · intro hm
        obtain ⟨v, hv1, hv2⟩ := List.mem_map.mp hm
        obtain ⟨k, hk⟩ := List.getElem?_of_mem hv1
        have h4 : (V.map some)[k]? = some (some v) := by rw [List.getElem?_map, hk]; rfl
        rw [← e, List.getElem?_map] at h4
        cases hik : is[k]? with
        | none => rw [hik] at h4; cases h4
        | some j =>
          rw [hik] at h4
          have h5 : W[j]? = some v := Option.some.inj h4
          have hji : j ≠ i := fun z => hni (by rw [← z]; exact List.mem_of_getElem? hik)
          obtain ⟨v1, v2⟩ := v
          obtain ⟨p1, p2⟩ := p
          exact hw.ne j i h5 h1 hji hv2
theorem zFr.rf {N : List (Nat × Nat)} : zFr N h h := fun _ h0 => ⟨h0, fun _ => rfl⟩
theorem zFr.put {N : List (Nat × Nat)} (hf : zFr N h h1) {q : Nat × Nat} {o : xO} (hq : q ∈ N) : zFr N h (xup h1 q o) := fun z h0 => by
  obtain ⟨a1, a2⟩ := hf z h0
  refine ⟨?_, fun hz => zup_n (fun e => hz (by rw [e]; exact hq)) (a2 hz)⟩
  unfold xup
  split
  · exact Option.some_ne_none _
  · exact a1
theorem zFr.tr {N M : List (Nat × Nat)} (ha : zFr N h h1) (hv : zFr M h1 h2) (hs : ∀ q ∈ M, q ∈ N) : zFr N h h2 := fun z h0 => by
  obtain ⟨a1, a2⟩ := ha z h0
  obtain ⟨b1, b2⟩ := hv z a1
  exact ⟨b1, fun hz => (b2 (fun e => hz (hs z e))).trans (a2 hz)⟩
theorem zsl {N M : List (Nat × Nat)} (is : List Nat) (e : M = is.filterMap (fun i => N[i]?)) : ∀ q ∈ M, q ∈ N := by
  intro q hq
  rw [e] at hq
  obtain ⟨i, -, hi⟩ := List.mem_filterMap.mp hq
  exact List.mem_of_getElem? hi
/-- the small numbers -/
theorem zk_int {k : Nat} (hk : k < 2147483648) : (Int32.ofNat k).toInt = (k : Int) := Int32.toInt_ofNat_of_lt hk
theorem zk_nat {k : Nat} (hk : k < 2147483648) : (Int32.ofNat k).toNatClampNeg = k := by
  show (Int32.ofNat k).toInt.toNat = k
  rw [zk_int hk]
  rfl
theorem zk_lt {a b : Nat} (ha : a < 2147483648) (hb : b < 2147483648) : Int32.ofNat a < Int32.ofNat b ↔ a < b := by
  rw [Int32.lt_iff_toInt_lt, zk_int ha, zk_int hb]
  omega
theorem zk_le {a b : Nat} (ha : a < 2147483648) (hb : b < 2147483648) : Int32.ofNat a ≤ Int32.ofNat b ↔ a ≤ b := by
  rw [Int32.le_iff_toInt_le, zk_int ha, zk_int hb]
  omega
theorem zk_0 {k : Nat} (hk : k < 2147483648) : ¬ Int32.ofNat k < 0 := by
  rw [Int32.lt_iff_toInt_lt, zk_int hk]
  have : (0 : Int32).toInt = 0 := by decide
  omega
theorem zx_lt0 {k : Nat} (hk : k < 2147483648) : xcd .lt (Int32.ofNat k) 0 = false := decide_eq_false (zk_0 hk)
theorem zx_ge {a b : Nat} (hb : b < 2147483648) (hab : a < b) : xcd .ge (Int32.ofNat a) (Int32.ofNat b) = false := decide_eq_false (fun z => absurd ((zk_le hb (by omega)).mp z) (by omega))
theorem zx_lt {a b : Nat} (hb : b < 2147483648) (hab : a < b) : xcd .lt (Int32.ofNat a) (Int32.ofNat b) = true := decide_eq_true ((zk_lt (by omega) hb).mpr hab)
theorem zbd {k n : Nat} (hn : n < 2147483648) (hk : k < n) : ¬ (Int32.ofNat k < 0 ∨ n ≤ (Int32.ofNat k).toNatClampNeg) := by
  rw [zk_nat (by omega)]
  rintro (z | z)
  · exact zk_0 (by omega) z
  · omega
end ZWD
