set_option maxRecDepth 20000
section ZWD
/-- the objects that a stretch of code knows, each by its name -/
abbrev zWorld : Type := List ((Nat × Nat) × xO)
def zWd (h : xH) (W : zWorld) : Prop := (W.map (fun p => p.1)).Nodup ∧ ∀ p ∈ W, p.1.1 ≠ 0 ∧ h p.1 = some p.2
/-- what isn't of these has stayed -/
def zFr (N : List (Nat × Nat)) (h h1 : xH) : Prop := ∀ q, q ∉ N → h1 q = h q
/-- from here on no name is given -/
def zFree (k : Nat) (h : xH) : Prop := ∀ j, k ≤ j → h (1, j) = none
variable {h h1 h2 : xH} {W V V1 : zWorld}
theorem zWd.get (hw : zWd h W) (i : Nat) {q : Nat × Nat} {o : xO} (e : W[i]? = some (q, o)) : h q = some o := (hw.2 _ (List.mem_of_getElem? e)).2
theorem zWd.nz (hw : zWd h W) (i : Nat) {q : Nat × Nat} {o : xO} (e : W[i]? = some (q, o)) : q.1 ≠ 0 := (hw.2 _ (List.mem_of_getElem? e)).1
theorem znd {α : Type} {l : List α} (hd : l.Nodup) {i j : Nat} {a : α} (hi : l[i]? = some a) (hj : l[j]? = some a) : i = j := by
  obtain ⟨h1, e1⟩ := List.getElem?_eq_some_iff.mp hi
  exact (List.getElem?_inj h1 hd).mp (hi.trans hj.symm)
theorem zWd.ne (hw : zWd h W) (i j : Nat) {q q2 : Nat × Nat} {o o2 : xO} (ei : W[i]? = some (q, o)) (ej : W[j]? = some (q2, o2)) (hij : i ≠ j) : q ≠ q2 := by
  intro z
  subst z
  refine hij (znd hw.1 (a := q) ?_ ?_)
  · rw [List.getElem?_map, ei]
    rfl
  · rw [List.getElem?_map, ej]
    rfl
theorem zWd.set (hw : zWd h W) (i : Nat) {q : Nat × Nat} {o : xO} (e : W[i]? = some (q, o)) (o1 : xO) : zWd (xup h q o1) (W.set i (q, o1)) := by
  have hi := (List.getElem?_eq_some_iff.mp e).1
  have hn : (W.set i (q, o1)).map (fun p => p.1) = W.map (fun p => p.1) := by
    rw [List.map_set]
    apply List.ext_getElem?
    intro j
    rw [List.getElem?_set]
    split
    next hj =>
      subst hj
      rw [List.length_map, if_pos hi, List.getElem?_map, e]
      rfl
    next => rfl
  refine ⟨by rw [hn]; exact hw.1, fun p hp => ?_⟩
  obtain ⟨j, hj⟩ := List.getElem?_of_mem hp
  rw [List.getElem?_set] at hj
  split at hj
  next hij =>
    subst hij
    try rw [if_pos hi] at hj
    cases hj
    exact ⟨hw.nz i e, zup_s⟩
  next hij =>
    obtain ⟨p1, p2⟩ := p
    exact ⟨hw.nz j hj, zup_n (fun z => hij (by
      have := hw.ne i j e hj
      exact Classical.not_not.mp (fun q9 => this q9 z.symm))) (hw.get j hj)⟩
theorem zWd.sub (hw : zWd h W) (is : List Nat) (e : is.map (fun i => W[i]?) = V.map some) (hd : is.Nodup) : zWd h V := by
  have at_ : ∀ (k : Nat) (p : (Nat × Nat) × xO), V[k]? = some p → ∃ i, is[k]? = some i ∧ W[i]? = some p := by
    intro k p hk
    have h1 : (V.map some)[k]? = some (some p) := by rw [List.getElem?_map, hk]; rfl
    rw [← e, List.getElem?_map] at h1
    cases hi : is[k]? with
    | none => rw [hi] at h1; cases h1
    | some i =>
      rw [hi] at h1
      exact ⟨i, rfl, Option.some.inj h1⟩
  refine ⟨?_, fun p hp => ?_⟩
  · refine List.pairwise_iff_getElem.mpr ?_
    intro j k hj2 hk2 hjk z
    have hj : j < V.length := by rw [List.length_map] at hj2; exact hj2
    have hk : k < V.length := by rw [List.length_map] at hk2; exact hk2
    rw [List.getElem_map, List.getElem_map] at z
    obtain ⟨i1, a1, b1⟩ := at_ j _ (List.getElem?_eq_getElem hj)
    obtain ⟨i2, a2, b2⟩ := at_ k _ (List.getElem?_eq_getElem hk)
    have : i1 ≠ i2 := fun y => by
      subst y
      exact absurd (znd hd a1 a2) (by omega)
    exact hw.ne i1 i2 b1 b2 this z
  · obtain ⟨k, hk⟩ := List.getElem?_of_mem hp
    obtain ⟨i, -, hi⟩ := at_ k p hk
    exact hw.2 p (List.mem_of_getElem? hi)
/-- a world with some of its objects as they came back from a call -/
def zjn (W : zWorld) (is : List Nat) (V : zWorld) : zWorld := W.mapIdx (fun i p => match is.findIdx? (fun j => Nat.beq j i) with
  | some k => match V[k]? with
    | some p1 => p1
    | none => p
  | none => p)
theorem zFr.rf {N : List (Nat × Nat)} : zFr N h h := fun _ _ => rfl
theorem zFr.put {N : List (Nat × Nat)} (hf : zFr N h h1) {q : Nat × Nat} {o : xO} (hq : q ∈ N) : zFr N h (xup h1 q o) := fun z hz => zup_n (fun e => hz (by rw [e]; exact hq)) (hf z hz)
theorem zFr.tr {N M : List (Nat × Nat)} (ha : zFr N h h1) (hv : zFr M h1 h2) (hs : ∀ q ∈ M, q ∈ N) : zFr N h h2 := fun z hz => (hv z (fun e => hz (hs z e))).trans (ha z hz)
theorem zFr.free {N : List (Nat × Nat)} {k : Nat} (hf : zFr N h h1) (hk : zFree k h) (hw : zWd h W) (hN : ∀ q ∈ N, q ∈ W.map (fun p => p.1)) : zFree k h1 := fun j hj => by
  rw [hf (1, j) ?_]
  · exact hk j hj
  · intro hq
    obtain ⟨p, hp, e⟩ := List.mem_map.mp (hN _ hq)
    have h1 := (hw.2 p hp).2
    rw [e, hk j hj] at h1
    cases h1
theorem zsl {N M : List (Nat × Nat)} (is : List Nat) (e : M = is.filterMap (fun i => N[i]?)) : ∀ q ∈ M, q ∈ N := by
  intro q hq
  rw [e] at hq
  obtain ⟨i, -, hi⟩ := List.mem_filterMap.mp hq
  exact List.mem_of_getElem? hi
/-- the small numbers -/
theorem zk_int {k : Nat} (hk : k < 2147483648) : (Int32.ofNat k).toInt = (k : Int) := Int32.toInt_ofNat_of_lt hk
theorem zk_nat {k : Nat} (hk : k < 2147483648) : (Int32.ofNat k).toNatClampNeg = k := by
  show (Int32.ofNat k).toInt.toNat = k
  rw [zk_int hk]
  rfl
theorem zk_lt {a b : Nat} (ha : a < 2147483648) (hb : b < 2147483648) : Int32.ofNat a < Int32.ofNat b ↔ a < b := by
  rw [Int32.lt_iff_toInt_lt, zk_int ha, zk_int hb]
  omega
theorem zk_le {a b : Nat} (ha : a < 2147483648) (hb : b < 2147483648) : Int32.ofNat a ≤ Int32.ofNat b ↔ a ≤ b := by
  rw [Int32.le_iff_toInt_le, zk_int ha, zk_int hb]
  omega
theorem zk_0 {k : Nat} (hk : k < 2147483648) : ¬ Int32.ofNat k < 0 := by
  rw [Int32.lt_iff_toInt_lt, zk_int hk]
  have : (0 : Int32).toInt = 0 := by decide
  omega
theorem zx_lt0 {k : Nat} (hk : k < 2147483648) : xcd .lt (Int32.ofNat k) 0 = false := decide_eq_false (zk_0 hk)
theorem zx_ge {a b : Nat} (hb : b < 2147483648) (hab : a < b) : xcd .ge (Int32.ofNat a) (Int32.ofNat b) = false := decide_eq_false (fun z => absurd ((zk_le hb (by omega)).mp z) (by omega))
theorem zx_lt {a b : Nat} (hb : b < 2147483648) (hab : a < b) : xcd .lt (Int32.ofNat a) (Int32.ofNat b) = true := decide_eq_true ((zk_lt (by omega) hb).mpr hab)
theorem zbd {k n : Nat} (hn : n < 2147483648) (hk : k < n) : ¬ (Int32.ofNat k < 0 ∨ n ≤ (Int32.ofNat k).toNatClampNeg) := by
  rw [zk_nat (by omega)]
  rintro (z | z)
  · exact zk_0 (by omega) z
  · omega
end ZWD
