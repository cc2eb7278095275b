set_option maxRecDepth 100000
section YEVALL
def ycuts (lo : Nat) : List Nat → Nat → List (Nat × Nat)
  | [], hi => [(lo, hi)]
  | c :: r, hi => (lo, c) :: ycuts c r hi
theorem ycuts_in {n hi : Nat} : ∀ {lo : Nat} {cs : List Nat}, lo ≤ n → n < hi → ∃ p ∈ ycuts lo cs hi, p.1 ≤ n ∧ n < p.2
  | lo, [], h1, h2 => ⟨_, List.mem_singleton.mpr rfl, h1, h2⟩
  | lo, c :: r, h1, h2 => by
    by_cases q : n < c
    · exact ⟨_, List.mem_cons_self, h1, q⟩
    · obtain ⟨p, hp, h3⟩ := ycuts_in (lo := c) (cs := r) (Nat.le_of_not_lt q) h2
      exact ⟨p, List.mem_cons_of_mem _ hp, h3⟩
theorem yok_cut {g : Nat → Int32} {E : yE} (h : yok g E) {k lo hi : Nat} (he : yiv E.1 k = [(lo, hi)]) (cs : List Nat) : ∃ p ∈ ycuts lo cs hi, yok g ((k, [p]) :: E.1, E.2) := by
  have hk := h.1 k
  rw [he] at hk
  obtain ⟨z, hz, h1, h2⟩ := hk
  cases List.mem_singleton.mp hz
  obtain ⟨p, hp, h3⟩ := ycuts_in (cs := cs) h1 h2
  exact ⟨p, hp, yok_in h ⟨p, List.mem_singleton.mpr rfl, h3⟩⟩
/-- every first call answers true -/
theorem ylaw_7 {g : Nat → Int32} (h0 : yok g ([], [])) : ∃ E, yok g E ∧ ylaw 7 E = true := by
  obtain ⟨c, hc, hok⟩ : ∃ c, c < 32 ∧ yok g (yop c) := by
    obtain ⟨z, hz, h1, h2⟩ := h0.1 20
    cases List.mem_singleton.mp hz
    have h1 : 2147483648 ≤ yn (g 20) := h1
    have h2 : yn (g 20) < 2147483680 := h2
    exact ⟨yn (g 20) - 2147483648, by omega, yok_in h0 ⟨_, List.mem_singleton.mpr rfl, by dsimp only; omega, by dsimp only; omega⟩⟩
  match c, hc, hok with
  | 0, _, hok => exact ⟨_, hok, ylaw_o0⟩
  | 1, _, hok => exact ⟨_, hok, ylaw_o1⟩
  | 2, _, hok => exact ⟨_, hok, ylaw_o2⟩
  | 4, _, hok => exact ⟨_, hok, ylaw_o4⟩
  | 5, _, hok => exact ⟨_, hok, ylaw_o5⟩
  | 6, _, hok => exact ⟨_, hok, ylaw_o6⟩
  | 7, _, hok => exact ⟨_, hok, ylaw_o7⟩
  | 8, _, hok => exact ⟨_, hok, ylaw_o8⟩
  | 9, _, hok => exact ⟨_, hok, ylaw_o9⟩
  | 10, _, hok => exact ⟨_, hok, ylaw_o10⟩
  | 11, _, hok => exact ⟨_, hok, ylaw_o11⟩
  | 12, _, hok => exact ⟨_, hok, ylaw_o12⟩
  | 13, _, hok => exact ⟨_, hok, ylaw_o13⟩
  | 14, _, hok => exact ⟨_, hok, ylaw_o14⟩
  | 15, _, hok => exact ⟨_, hok, ylaw_o15⟩
  | 16, _, hok => exact ⟨_, hok, ylaw_o16⟩
  | 17, _, hok => exact ⟨_, hok, ylaw_o17⟩
  | 18, _, hok => exact ⟨_, hok, ylaw_o18⟩
  | 19, _, hok => exact ⟨_, hok, ylaw_o19⟩
  | 20, _, hok => exact ⟨_, hok, ylaw_o20⟩
  | 21, _, hok => exact ⟨_, hok, ylaw_o21⟩
  | 22, _, hok => exact ⟨_, hok, ylaw_o22⟩
  | 23, _, hok => exact ⟨_, hok, ylaw_o23⟩
  | 24, _, hok => exact ⟨_, hok, ylaw_o24⟩
  | 25, _, hok => exact ⟨_, hok, ylaw_o25⟩
  | 26, _, hok => exact ⟨_, hok, ylaw_o26⟩
  | 27, _, hok => exact ⟨_, hok, ylaw_o27⟩
  | 28, _, hok => exact ⟨_, hok, ylaw_o28⟩
  | 29, _, hok => exact ⟨_, hok, ylaw_o29⟩
  | 30, _, hok => exact ⟨_, hok, ylaw_o30⟩
  | 31, _, hok => exact ⟨_, hok, ylaw_o31⟩
  | 3, _, hok =>
    obtain ⟨p, hp, h1⟩ := yok_cut hok (k := 11) (lo := 2147483648) (hi := 2147549184) rfl [2147483754, 2147483755, 2147483756, 2147483757, 2147483763, 2147483764, 2147483765, 2147483766, 2147483767]
    rcases List.mem_cons.mp hp with rfl | hp
    · exact ⟨_, h1, ylaw_k0⟩
    rcases List.mem_cons.mp hp with rfl | hp
    · exact ⟨_, h1, ylaw_k1⟩
    rcases List.mem_cons.mp hp with rfl | hp
    · exact ⟨_, h1, ylaw_k2⟩
    rcases List.mem_cons.mp hp with rfl | hp
    · obtain ⟨p2, hp2, h2⟩ := yok_cut h1 (k := 5) (lo := 0) (hi := 4294967296) rfl [2147483649, 2147483689, 2147483729, 2147483769, 2147483809, 2147483849]
      rcases List.mem_cons.mp hp2 with rfl | hp2
      · exact ⟨_, h2, ylaw_l0⟩
      rcases List.mem_cons.mp hp2 with rfl | hp2
      · exact ⟨_, h2, ylaw_l1⟩
      rcases List.mem_cons.mp hp2 with rfl | hp2
      · exact ⟨_, h2, ylaw_l2⟩
      rcases List.mem_cons.mp hp2 with rfl | hp2
      · exact ⟨_, h2, ylaw_l3⟩
      rcases List.mem_cons.mp hp2 with rfl | hp2
      · exact ⟨_, h2, ylaw_l4⟩
      rcases List.mem_cons.mp hp2 with rfl | hp2
      · exact ⟨_, h2, ylaw_l5⟩
      cases List.mem_singleton.mp hp2
      exact ⟨_, h2, ylaw_l6⟩
    rcases List.mem_cons.mp hp with rfl | hp
    · exact ⟨_, h1, ylaw_k4⟩
    rcases List.mem_cons.mp hp with rfl | hp
    · exact ⟨_, h1, ylaw_k5⟩
    rcases List.mem_cons.mp hp with rfl | hp
    · obtain ⟨p2, hp2, h2⟩ := yok_cut h1 (k := 4) (lo := 0) (hi := 4294967296) rfl [2147483649, 2147483689, 2147483729, 2147483769, 2147483809, 2147483849]
      rcases List.mem_cons.mp hp2 with rfl | hp2
      · exact ⟨_, h2, ylaw_t0⟩
      rcases List.mem_cons.mp hp2 with rfl | hp2
      · exact ⟨_, h2, ylaw_t1⟩
      rcases List.mem_cons.mp hp2 with rfl | hp2
      · exact ⟨_, h2, ylaw_t2⟩
      rcases List.mem_cons.mp hp2 with rfl | hp2
      · exact ⟨_, h2, ylaw_t3⟩
      rcases List.mem_cons.mp hp2 with rfl | hp2
      · exact ⟨_, h2, ylaw_t4⟩
      rcases List.mem_cons.mp hp2 with rfl | hp2
      · exact ⟨_, h2, ylaw_t5⟩
      cases List.mem_singleton.mp hp2
      exact ⟨_, h2, ylaw_t6⟩
    rcases List.mem_cons.mp hp with rfl | hp
    · exact ⟨_, h1, ylaw_k7⟩
    rcases List.mem_cons.mp hp with rfl | hp
    · exact ⟨_, h1, ylaw_k8⟩
    cases List.mem_singleton.mp hp
    exact ⟨_, h1, ylaw_k9⟩
  | n + 32, h, _ => exact absurd h (by omega)
end YEVALL
