set_option maxRecDepth 100000
section ZX63
variable {d c s v sz gr : Nat} {fi me : Int} {dr : Int32} {h : xH} {Q : xR → Nat → Nat → xH → Prop}
/-- the sessions that a row joins, two at most -/
def zsLk (sz : Nat) (fn : Nat → Int32) (ff : Nat → Int) (e : zE) : Nat → Nat → List Nat → List Nat
  | 0, _, js => js
  | n + 1, l, js => if 2 ≤ js.length then js else zsLk sz fn ff e n (l + 1) (if zsRe sz fn ff (l * 8 + zeK e) (zeT e : Int) then js ++ [l * 8 + zeK e] else js)
def zsLook (sz : Nat) (fn : Nat → Int32) (ff : Nat → Int) (e : zE) : List Nat := zsLk sz fn ff e (1000 - (zeT e - sz)) (zeT e - sz) []
/-- the array holds them -/
def zsJj (js : List Nat) (jj : Nat → Int) : Prop := ∀ (i x : Nat), js[i]? = some x → jj i = (x : Int)
theorem zsLk_ok {sz : Nat} {fn : Nat → Int32} {ff : Nat → Int} {e : zE} (hk : zeK e < 8) : ∀ (n l : Nat) (js : List Nat), l + n ≤ 1000 → js.length ≤ 2 → (∀ x ∈ js, x < 8000) → (zsLk sz fn ff e n l js).length ≤ 2 ∧ ∀ x ∈ zsLk sz fn ff e n l js, x < 8000 := by
  intro n
  induction n with
  | zero => intro l js _ h1 h2; exact ⟨h1, h2⟩
  | succ n ih =>
    intro l js hl h1 h2
    unfold zsLk
    split
    · exact ⟨h1, h2⟩
    · refine ih (l + 1) _ (by omega) ?_ ?_
      · split
        · rw [List.length_append]; show js.length + 1 ≤ 2; omega
        · exact h1
      · split
        · intro x hx
          rcases List.mem_append.mp hx with hx | hx
          · exact h2 x hx
          · rw [List.mem_singleton.mp hx]; omega
        · exact h2
theorem zsLook_ok {sz : Nat} {fn : Nat → Int32} {ff : Nat → Int} {e : zE} (hE : zEr e) : (zsLook sz fn ff e).length ≤ 2 ∧ ∀ x ∈ zsLook sz fn ff e, x < 8000 :=
  zsLk_ok hE.2.1 _ _ _ (by have := hE.2.2.1; omega) (Nat.zero_le _) (fun x hx => by cases hx)
theorem l_slk {fn fs fg : Nat → Int32} {ff : Nat → Int} {e : zE} (hr : zVr v fi sz gr) (hme : me = 99 ∨ me = 115 ∨ me = 109) (hE : zEr e) (hf : ∀ j, 0 ≤ ff j ∧ ff j ≤ 1000) : ∀ (n l : Nat) (js : List Nat) (jj : Nat → Int) (h : xH), l + n = 1000 → js.length ≤ 2 → zsJj js jj → zVo h 6 v false fi sz gr dr [zi me, .inr (26, v), .inr (30, v), .inr (34, v), .inr (35, v)] → zEn h e → h (34, v) = some (.inr (0, 8000, zA ff)) → h (35, v) = some (.inr (0, 2, zA jj)) → zTal h 26 v 8001 fn fs fg →
    (∀ h1 jj1, h1 (35, v) = some (.inr (0, 2, zA jj1)) → zsJj (zsLk sz fn ff e n l js) jj1 → (∀ a b : Nat, ¬ (a = 35 ∧ b = v) → h1 (a, b) = h (a, b)) → Q (.inl (some (zi ((zsLk sz fn ff e n l js).length : Int)))) c s h1) → zX (d + 3) 42 16 [(0, .inr (20, v)), (1, .inr (8, zeN e)), (2, zi (js.length : Int)), (3, zi (l : Int))] [] c s h Q := by
  obtain ⟨r1, r2, r3, r4⟩ := id hr
  obtain ⟨e1, e2, e3, e4, e5, e6⟩ := id hE
  intro n
  induction n with
  | zero =>
    intro l js jj h hl hj2 hjj hV he hff hjo hT q
    exact r_slk hr r1 r3 r4 hme hE e2 e3 e4 e6 e5 (zbi_r _) (zbi_r _) hf hj2 (by omega) hV he hff hjo hT (fun _ => q h jj hjo hjj (fun _ _ _ => rfl)) (fun z => by omega) (fun z => by omega) (fun z => by omega)
  | succ n ih =>
    intro l js jj h hl hj2 hjj hV he hff hjo hT q
    refine r_slk hr r1 r3 r4 hme hE e2 e3 e4 e6 e5 (zbi_r _) (zbi_r _) hf hj2 (by omega) hV he hff hjo hT (fun z => by omega) (fun _ z => ?_) (fun _ z1 z2 => ?_) (fun _ z1 z2 h1 a1 a2 => ?_)
    · have hx : zsLk sz fn ff e (n + 1) l js = js := if_pos (by omega)
      rw [hx] at q
      exact q h jj hjo hjj (fun _ _ _ => rfl)
    · have hx : zsLk sz fn ff e (n + 1) l js = zsLk sz fn ff e n (l + 1) js := (if_neg (by omega)).trans (by rw [if_neg z2])
      rw [hx] at q
      exact ih (l + 1) js jj h (by omega) hj2 hjj hV he hff hjo hT q
    · have hx : zsLk sz fn ff e (n + 1) l js = zsLk sz fn ff e n (l + 1) (js ++ [l * 8 + zeK e]) := (if_neg (by omega)).trans (by rw [if_pos z2])
      rw [hx] at q
      have len : (js.length : Int) + 1 = ((js ++ [l * 8 + zeK e]).length : Int) := by
        rw [List.length_append]
        rfl
      rw [len]
      refine ih (l + 1) _ _ h1 (by omega) (by omega) (fun i x hx => ?_) ((a2 _ _ (by omega)).trans hV) ((a2 _ _ (by omega)).trans he) ((a2 _ _ (by omega)).trans hff) a1 (hT.fr (fun a b z => a2 a b (by omega))) (fun h2 jj2 b1 b2 b3 => q h2 jj2 b1 b2 (fun a b hn => (b3 a b hn).trans (a2 a b hn)))
      by_cases hi : i = js.length
      · subst hi
        rw [List.getElem?_append_right (Nat.le_refl _), Nat.sub_self] at hx
        cases hx
        exact if_pos rfl
      · have hlt := (List.getElem?_eq_some_iff.mp hx).1
        rw [List.length_append, List.length_singleton] at hlt
        rw [List.getElem?_append_left (by omega)] at hx
        exact (if_neg hi).trans (hjj i x hx)
theorem s_slook {fn fs fg : Nat → Int32} {ff jj : Nat → Int} {e : zE} (hr : zVr v fi sz gr) (hme : me = 99 ∨ me = 115 ∨ me = 109) (hE : zEr e) (hf : ∀ j, 0 ≤ ff j ∧ ff j ≤ 1000) (hV : zVo h 6 v false fi sz gr dr [zi me, .inr (26, v), .inr (30, v), .inr (34, v), .inr (35, v)]) (he : zEn h e) (hff : h (34, v) = some (.inr (0, 8000, zA ff))) (hjo : h (35, v) = some (.inr (0, 2, zA jj))) (hT : zTal h 26 v 8001 fn fs fg)
    (q : ∀ h1 jj1, h1 (35, v) = some (.inr (0, 2, zA jj1)) → zsJj (zsLook sz fn ff e) jj1 → (∀ a b : Nat, ¬ (a = 35 ∧ b = v) → h1 (a, b) = h (a, b)) → Q (.inl (some (zi ((zsLook sz fn ff e).length : Int)))) c s h1) : zX (d + 3) 42 0 [(0, .inr (20, v)), (1, .inr (8, zeN e))] [] c s h Q := by
  obtain ⟨r1, r2, r3, r4⟩ := id hr
  obtain ⟨e1, e2, e3, e4, e5, e6⟩ := id hE
  refine r_slk0 (d := d + 3) hr r1 r3 r4 hme hE e2 e3 e4 e6 e5 (zbi_r _) (zbi_r _) hV he ?_
  rw [show (if 0 < ((zeT e : Int) - (sz : Int)) then ((zeT e : Int) - (sz : Int)) else 0) = ((zeT e - sz : Nat) : Int) from by split <;> omega]
  exact l_slk hr hme hE hf _ _ [] jj h (by omega) (Nat.zero_le _) (fun i x hx => by cases hx) hV he hff hjo hT q
/-- the rows of the joined ones, put together in the spare cell -/
def zsJs (e : zE) (js : List Nat) (fn fs : Nat → Int32) : (Nat → Int32) × (Nat → Int32) := js.foldl (fun G a => (zfi (zaaN G.1 8000 a) a 0, zfi (zaaS G.1 G.2 8000 a) a 0)) (zAd (zfi fn 8000 0) 8000 1, zAd (zfi fs 8000 0) 8000 (Int32.ofInt (zeV e)))
def zsFi (e : zE) (js : List Nat) (ff : Nat → Int) : Int := js.foldl (fun x a => if ff a < x then ff a else x) (zeT e : Int)
def zsLa (e : zE) (js : List Nat) : Nat := js.foldl (fun x a => if x < a / 8 then a / 8 else x) (zeT e)
def zsK (e : zE) (js : List Nat) : Nat := zsLa e js * 8 + zeK e
theorem zmx {x y : Nat} {z : Int} (hz : z = (y : Int)) : (if (x : Int) < z / 8 then z / 8 else (x : Int)) = ((if x < y / 8 then y / 8 else x : Nat) : Int) := by
  subst hz
  by_cases h : x < y / 8
  · rw [if_pos h, if_pos (by omega)]
    omega
  · rw [if_neg h, if_neg (by omega)]
theorem s_sjoin {fn fs fg : Nat → Int32} {ff jj : Nat → Int} {e : zE} {js : List Nat} (hr : zVr v fi sz gr) (hme : me = 99 ∨ me = 115 ∨ me = 109) (hE : zEr e) (hf : ∀ j, 0 ≤ ff j ∧ ff j ≤ 1000) (hj : js.length ≤ 2 ∧ ∀ x ∈ js, x < 8000) (hjj : zsJj js jj) (hV : zVo h 6 v false fi sz gr dr [zi me, .inr (26, v), .inr (30, v), .inr (34, v), .inr (35, v)]) (he : zEn h e) (hff : h (34, v) = some (.inr (0, 8000, zA ff))) (hjo : h (35, v) = some (.inr (0, 2, zA jj))) (hT : zTal h 26 v 8001 fn fs fg)
    (q : ∀ h1 fg1, h1 (34, v) = some (.inr (0, 8000, zA (zfi ff (zsK e js) (zsFi e js ff)))) → zTal h1 26 v 8001 (zaaN (zsJs e js fn fs).1 (zsK e js) 8000) (zaaS (zsJs e js fn fs).1 (zsJs e js fn fs).2 (zsK e js) 8000) fg1 → (∀ a b : Nat, ¬ ((a = 34 ∨ 26 ≤ a ∧ a < 30) ∧ b = v) → h1 (a, b) = h (a, b)) → Q (.inl (some (zi (zsK e js : Int)))) c s h1) : zX (d + 3) 43 0 [(0, .inr (20, v)), (1, .inr (8, zeN e)), (2, zi (js.length : Int))] [] c s h Q := by
  obtain ⟨r1, r2, r3, r4⟩ := id hr
  obtain ⟨e1, e2, e3, e4, e5, e6⟩ := id hE
  match js, hj, hjj, q with
  | [], hj, hjj, q =>
    exact r_sj0 hr r1 r3 r4 hme hE e2 e3 e4 e6 e5 (zbi_r _) (zbi_r _) hf hV he hff hjo hT (fun g3 h1 a1 a2 a3 => q h1 g3 a1 a2 (fun a b hn => a3 a b (by omega)))
  | [a], hj, hjj, q =>
    have ha := hj.2 a List.mem_cons_self
    have j0 := hjj 0 a rfl
    have hfa := hf a
    exact r_sj1 (a := a) (la := zsLa e [a]) (fst := zsFi e [a] ff) hr r1 r3 r4 hme hE e2 e3 e4 e6 e5 (zbi_r _) (zbi_r _) hf j0 ha hfa rfl (zmx j0) (by show 0 ≤ (if ff a < (zeT e : Int) then ff a else (zeT e : Int)) ∧ (if ff a < (zeT e : Int) then ff a else (zeT e : Int)) ≤ 1000; split <;> omega) (by show (if zeT e < a / 8 then a / 8 else zeT e) ≤ 999; split <;> omega) hV he hff hjo hT (fun g3 g5 h1 a1 a2 a3 => q h1 g5 a1 a2 (fun a b hn => a3 a b (by omega)))
  | [a, b], hj, hjj, q =>
    have ha := hj.2 a List.mem_cons_self
    have hb := hj.2 b (List.mem_cons_of_mem _ List.mem_cons_self)
    have j0 := hjj 0 a rfl
    have j1 := hjj 1 b rfl
    have hfa := hf a
    have hfb := hf b
    have l1 : zsLa e [a] ≤ 999 := by show (if zeT e < a / 8 then a / 8 else zeT e) ≤ 999; split <;> omega
    have f1 : 0 ≤ zsFi e [a] ff ∧ zsFi e [a] ff ≤ 1000 := by show 0 ≤ (if ff a < (zeT e : Int) then ff a else (zeT e : Int)) ∧ (if ff a < (zeT e : Int) then ff a else (zeT e : Int)) ≤ 1000; split <;> omega
    refine r_sj2 (a := a) (b := b) (l1 := zsLa e [a]) (f1 := zsFi e [a] ff) (la := zsLa e [a, b]) (fst := zsFi e [a, b] ff) hr r1 r3 r4 hme hE e2 e3 e4 e6 e5 (zbi_r _) (zbi_r _) hf j0 ha hfa j1 hb hfb rfl (zmx j0) f1 l1 rfl (zmx j1) ?_ ?_ hV he hff hjo hT (fun g3 g5 g7 h1 a1 a2 a3 => q h1 g7 a1 a2 (fun a b hn => a3 a b (by omega)))
    · show 0 ≤ (if ff b < zsFi e [a] ff then ff b else zsFi e [a] ff) ∧ (if ff b < zsFi e [a] ff then ff b else zsFi e [a] ff) ≤ 1000
      split <;> omega
    · show (if zsLa e [a] < b / 8 then b / 8 else zsLa e [a]) ≤ 999
      split <;> omega
  | _ :: _ :: _ :: _, hj, _, _ => exact absurd hj.1 (by simp)
/-- what is told as a row joins sessions -/
noncomputable def zsTj (v sz : Nat) (me : Int) (e : zE) (js : List Nat) (k : Nat) (fn fs : Nat → Int32) (ff : Nat → Int) (T : (Nat → Int64) × List Int64) : (Nat → Int64) × List Int64 :=
  if (k : Int) / 8 + (sz : Int) < zeA e then
    (if js.length = 1 ∧ ¬ T.1 (js.headD 0) = 0 then (zanF T.1 (js.headD 0) k (zsRes v me fn fs ff k), T.2 ++ zanL T.1 (js.headD 0) (zsRes v me fn fs ff k))
     else (zfi (js.foldl (fun T a => (zbkF T.1 a, T.2 ++ zbkL T.1 a)) T).1 k (zsRes v me fn fs ff k), (js.foldl (fun T a => (zbkF T.1 a, T.2 ++ zbkL T.1 a)) T).2 ++ [zsRes v me fn fs ff k]))
  else js.foldl (fun T a => (zbkF T.1 a, T.2 ++ zbkL T.1 a)) T
section TJ
variable {e : zE} {k : Nat} {fn fs : Nat → Int32} {ff : Nat → Int} {fa : Nat → Int64} {out : List Int64}
theorem zsTj_n {js : List Nat} {T : (Nat → Int64) × List Int64} (z : (zeA e : Int) ≤ (k : Int) / 8 + (sz : Int)) : zsTj v sz me e js k fn fs ff T = js.foldl (fun T a => (zbkF T.1 a, T.2 ++ zbkL T.1 a)) T := by
  unfold zsTj
  rw [if_neg (Int.not_lt.mpr z)]
theorem zsTj_a {js : List Nat} {T : (Nat → Int64) × List Int64} (z : (k : Int) / 8 + (sz : Int) < zeA e) (h1 : js.length = 1) (h2 : ¬ T.1 (js.headD 0) = 0) : zsTj v sz me e js k fn fs ff T = (zanF T.1 (js.headD 0) k (zsRes v me fn fs ff k), T.2 ++ zanL T.1 (js.headD 0) (zsRes v me fn fs ff k)) := by
  unfold zsTj
  rw [if_pos z, if_pos ⟨h1, h2⟩]
theorem zsTj_t {js : List Nat} {T : (Nat → Int64) × List Int64} (z : (k : Int) / 8 + (sz : Int) < zeA e) (h1 : ¬ (js.length = 1 ∧ ¬ T.1 (js.headD 0) = 0)) : zsTj v sz me e js k fn fs ff T = (zfi (js.foldl (fun T a => (zbkF T.1 a, T.2 ++ zbkL T.1 a)) T).1 k (zsRes v me fn fs ff k), (js.foldl (fun T a => (zbkF T.1 a, T.2 ++ zbkL T.1 a)) T).2 ++ [zsRes v me fn fs ff k]) := by
  unfold zsTj
  rw [if_pos z, if_neg h1]
end TJ
theorem s_stj {fn fs fg : Nat → Int32} {ff jj : Nat → Int} {e : zE} {js : List Nat} {k N : Nat} {fa : Nat → Int64} {out : List Int64} (hr : zVr v fi sz gr) (hme : me = 99 ∨ me = 115 ∨ me = 109) (hE : zEr e) (hf : ∀ j, 0 ≤ ff j ∧ ff j ≤ 1000) (hj : js.length ≤ 2 ∧ ∀ x ∈ js, x < 8000) (hjj : zsJj js jj) (hk : k < 8000) (ho : out.length + 8 < 200000) (hV : zVo h 6 v false fi sz gr dr [zi me, .inr (26, v), .inr (30, v), .inr (34, v), .inr (35, v)]) (he : zEn h e) (hff : h (34, v) = some (.inr (0, 8000, zA ff))) (hjo : h (35, v) = some (.inr (0, 2, zA jj))) (hT : zTal h 26 v 8001 fn fs fg) (hR : zRes h 21 v 8000 fa) (hO : zOut h N out)
    (q : ∀ h1 N1 c1 s1, zRes h1 21 v 8000 (zsTj v sz me e js k fn fs ff (fa, out)).1 → zOut h1 N1 (zsTj v sz me e js k fn fs ff (fa, out)).2 → zFt v h h1 → zCo N c s N1 c1 s1 → Q (.inl none) c1 s1 h1) : zX (d + 4) 44 0 [(0, .inr (20, v)), (1, .inr (8, zeN e)), (2, zi (js.length : Int)), (3, zi (k : Int))] [] c s h Q := by
  obtain ⟨r1, r2, r3, r4⟩ := id hr
  obtain ⟨e1, e2, e3, e4, e5, e6⟩ := id hE
  rcases js with _ | ⟨a, js⟩
  ·
    refine r_stj0 (d := d + 1) hr r1 r3 r4 hme hE e2 e3 e4 e6 e5 (zbi_r _) (zbi_r _) hf hk ho (hf k) hV he hff hjo hT hR hO (fun z => ?_) (fun z N1 c1 s1 hb h1 a1 a2 a3 => ?_)
    · rw [zsTj_n z] at q
      exact q h N c s hR hO (fun _ _ _ => rfl) zCo.rf
    · rw [zsTj_t z (fun y => absurd y.1 (by decide))] at q
      exact q h1 N1 c1 s1 a1 a2 a3 hb
  rcases js with _ | ⟨b, js⟩
  ·
    have ha := hj.2 a List.mem_cons_self
    refine r_stj1 (a := a) hr r1 r3 r4 hme hE e2 e3 e4 e6 e5 (zbi_r _) (zbi_r _) hf (hjj 0 a rfl) ha (hf a) hk ho (hf k) hV he hff hjo hT hR hO (fun z N1 c1 s1 hb h1 a1 a2 a3 => ?_) (fun z z2 N1 c1 s1 hb N2 c2 s2 hb2 h1 a1 a2 a3 => ?_) (fun z z2 N1 c1 s1 hb h1 a1 a2 a3 => ?_)
    · rw [zsTj_n z] at q
      exact q h1 N1 c1 s1 a1 a2 a3 hb
    · rw [zsTj_t z (fun y => y.2 z2)] at q
      exact q h1 N2 c2 s2 a1 a2 a3 (hb.tr hb2)
    · rw [zsTj_a z rfl z2] at q
      exact q h1 N1 c1 s1 a1 a2 a3 hb
  rcases js with _ | ⟨c9, js⟩
  ·
    have ha := hj.2 a List.mem_cons_self
    have hb := hj.2 b (List.mem_cons_of_mem _ List.mem_cons_self)
    refine r_stj2 (d := d + 1) (a := a) (b := b) hr r1 r3 r4 hme hE e2 e3 e4 e6 e5 (zbi_r _) (zbi_r _) hf (hjj 0 a rfl) ha (hf a) (hjj 1 b rfl) hb (hf b) hk ho (hf k) hV he hff hjo hT hR hO (fun z N1 c1 s1 hb N2 c2 s2 hb2 h1 a1 a2 a3 => ?_) (fun z N1 c1 s1 hb N2 c2 s2 hb2 N3 c3 s3 hb3 h1 a1 a2 a3 => ?_)
    · rw [zsTj_n z] at q
      exact q h1 N2 c2 s2 a1 a2 a3 (hb.tr hb2)
    · rw [zsTj_t z (fun y => by have y1 := y.1; simp at y1)] at q
      exact q h1 N3 c3 s3 a1 a2 a3 ((hb.tr hb2).tr hb3)
  exact absurd hj.1 (by simp)
end ZX63
