/-! ===== what the calls do: the n axioms (bodies, heads, weights, fixed), the goal ===== -/
abbrev Co_ : Type := Nat × (Nat → Int32) × (Nat → Int32) × (Nat → Int32) × (Nat → Int32) × Nat
def cok_ : Co_ → Prop
  | (n, B, H, _, F, g) => CO_ n B H F g
def iv_ : Co_ → Jk_ → Prop
  | (n, B, H, _, F, g), (_, _, _, _, z1, S1, z2, S2, ck, qk) => IV_ n B H F g z1 S1 z2 S2 ck qk
def ln_ (L : List Nat) (j : Nat) : Int32 := nI (L.getD j 0)
theorem ln_sx {S : Nat → Int32} {L : List Nat} (h : sx_ S L) {j : Nat} (hj : j < L.length) : S j = ln_ L j := by
  rw [h j hj, ln_, List.getD_eq_getElem?_getD, List.getElem?_eq_getElem hj]
  rfl
def t_axiom : Co_ → Int32 → Int32 → Co_
  | (n, B, H, W, F, g), b, h => if uI_ b < 16777216 ∧ uI_ h < 24 ∧ n < 14 then (n + 1, upd B n b, upd H n h, upd W n 1, upd F n 0, g) else (n, B, H, W, F, g)
def q_axiom : Co_ → Int32 → Int32 → Int32 → Prop
  | (n, _, _, _, _, _), b, h, r => r = if uI_ b < 16777216 ∧ uI_ h < 24 then (if n < 14 then nI n else -3) else -1
def t_drop : Co_ → Int32 → Co_
  | (n, B, H, W, F, g), x => if uI_ x < n then (n - 1, sh_ B (uI_ x) n, sh_ H (uI_ x) n, sh_ W (uI_ x) n, sh_ F (uI_ x) n, g) else (n, B, H, W, F, g)
def q_drop : Co_ → Int32 → Int32 → Prop
  | (n, _, _, _, _, _), x, r => r = if uI_ x < n then nI (n - 1) else -1
def t_fix : Co_ → Int32 → Int32 → Co_
  | (n, B, H, W, F, g), x, y => if uI_ x < n then (n, B, H, W, upd F (uI_ x) y, g) else (n, B, H, W, F, g)
def q_fix : Co_ → Int32 → Int32 → Prop
  | (n, _, _, _, F, _), x, r => r = if uI_ x < n then F (uI_ x) else -1
def t_weight : Co_ → Int32 → Int32 → Co_
  | (n, B, H, W, F, g), x, y => if uI_ x < n ∧ uI_ y ≤ 1000 then (n, B, H, upd W (uI_ x) y, F, g) else (n, B, H, W, F, g)
def q_weight : Co_ → Int32 → Int32 → Int32 → Prop
  | (n, _, _, W, _, _), x, y, r => r = if uI_ x < n ∧ uI_ y ≤ 1000 then W (uI_ x) else -1
def t_goal : Co_ → Int32 → Co_
  | (n, B, H, W, F, g), x => if uI_ x < 24 then (n, B, H, W, F, uI_ x) else (n, B, H, W, F, g)
def q_goal : Co_ → Int32 → Int32 → Prop
  | (_, _, _, _, _, g), x, r => r = if uI_ x < 24 then nI g else -1
def q_follow : Co_ → Int32 → Int32 → Prop
  | (n, B, H, _, _, _), x, r => r = cf_ n B H x n
def q_steps : Co_ → Int32 → Int32 → Prop
  | (n, B, H, _, _, g), x, r => st_is (cf_ n B H x) g r
def q_causes : Co_ → Int32 → Prop
  | (n, B, H, _, _, g), r => r = nI (CL_ n B H g).length
def q_cures : Co_ → Int32 → Prop
  | (n, B, H, _, F, g), r => r = nI (QL_ n B H F g).length
def q_cause : Co_ → Int32 → Int32 → Prop
  | (n, B, H, _, _, g), x, r => at_is (ln_ (CL_ n B H g)) (CL_ n B H g).length x r
def q_cure : Co_ → Int32 → Int32 → Prop
  | (n, B, H, _, F, g), x, r => at_is (ln_ (QL_ n B H F g)) (QL_ n B H F g).length x r
/-- the place of the lightest of the first k, and its weight -/
def lt_ (W : Nat → Int32) (S : Nat → Int32) (n : Nat) : Nat → Int32 × Int32
  | 0 => (-2, 0)
  | k + 1 => if (lt_ W S n k).1 = -2 ∨ wo_ W (S k) n < (lt_ W S n k).2 then (nI k, wo_ W (S k) n) else lt_ W S n k
def q_lightest : Co_ → Int32 → Prop
  | (n, B, H, W, F, g), r => r = (lt_ W (ln_ (QL_ n B H F g)) n (QL_ n B H F g).length).1
def q_times : Co_ → Int32 → Int32 → Int32 → Prop
  | (n, B, H, _, F, g), x, y, r => r = if uI_ x < n ∧ uI_ y ≤ 1 then (if y = 0 then hm_ (ln_ (CL_ n B H g)) x (CL_ n B H g).length else hm_ (ln_ (QL_ n B H F g)) x (QL_ n B H F g).length) else -1
def q_within : Co_ → Int32 → Int32 → Prop
  | (n, B, H, _, _, g), x, r => fi_is (ln_ (CL_ n B H g)) (CL_ n B H g).length x r
def q_common : Co_ → Int32 → Prop
  | (n, B, H, _, _, g), r => r = if (CL_ n B H g).length = 0 then -2 else sa_ (ln_ (CL_ n B H g)) (CL_ n B H g).length
def q_axioms : Co_ → Int32 → Prop
  | (n, _, _, _, _, _), r => r = nI n
/-! they stay as they may be -/
theorem cok_axiom {n : Nat} {B H F : Nat → Int32} {g : Nat} {b h : Int32} (hc : CO_ n B H F g) (hb : uI_ b < 16777216) (hh : uI_ h < 24) (hn : n < 14) : CO_ (n + 1) (upd B n b) (upd H n h) (upd F n 0) g := by
  obtain ⟨h1, h2, h3, h4⟩ := hc
  refine ⟨by omega, h2, fun a ha => ?_, fun a ha => ?_⟩
  · by_cases e : a = n
    · subst e; rw [pk_us, pk_us]; exact ⟨hb, hh⟩
    · rw [pk_un e, pk_un e]; exact h3 a (by omega)
  · by_cases e : a = n
    · subst e; rw [pk_us]; exact Or.inl rfl
    · rw [pk_un e]; exact h4 a (by omega)
theorem cok_drop {n j : Nat} {B H F : Nat → Int32} {g : Nat} (hc : CO_ n B H F g) (hj : j < n) : CO_ (n - 1) (sh_ B j n) (sh_ H j n) (sh_ F j n) g := by
  obtain ⟨h1, h2, h3, h4⟩ := hc
  refine ⟨by omega, h2, fun a ha => ?_, fun a ha => ?_⟩
  · unfold sh_
    by_cases e : j ≤ a ∧ a + 1 < n
    · rw [if_pos e, if_pos e]; exact h3 (a + 1) e.2
    · rw [if_neg e, if_neg e]; exact h3 a (by omega)
  · unfold sh_
    by_cases e : j ≤ a ∧ a + 1 < n
    · rw [if_pos e]; exact h4 (a + 1) e.2
    · rw [if_neg e]; exact h4 a (by omega)
theorem cok_fix {n j : Nat} {B H F : Nat → Int32} {g : Nat} {y : Int32} (hc : CO_ n B H F g) (hy : y = 0 ∨ y = 1) : CO_ n B H (upd F j y) g := by
  obtain ⟨h1, h2, h3, h4⟩ := hc
  refine ⟨h1, h2, h3, fun a ha => ?_⟩
  by_cases e : a = j
  · subst e; rw [pk_us]; exact hy
  · rw [pk_un e]; exact h4 a ha
theorem cok_goal {n g' : Nat} {B H F : Nat → Int32} {g : Nat} (hc : CO_ n B H F g) (hg : g' < 24) : CO_ n B H F g' := ⟨hc.1, hg, hc.2.2⟩
/-! numbers asked for -/
theorem has_uI {n : Nat} {x r : Int32} (hn : n < 2147483648) (h : has_is n x r) : (r = 1 ∧ uI_ x < n ∧ x = nI (uI_ x)) ∨ (r = 0 ∧ ¬ uI_ x < n) := by
  rcases h with ⟨h1, j, hj, e⟩ | ⟨h1, h2⟩
  · exact Or.inl ⟨h1, by rw [e, uI_nI (by omega)]; exact hj, (nI_uI x).symm⟩
  · exact Or.inr ⟨h1, fun q => h2 _ q (nI_uI x).symm⟩
theorem us_24 (b : Int32) : us_ b (nI 24) = 0 ↔ uI_ b < 16777216 := by
  have e := uI_shr b (nI 24) 24 (by decide +kernel)
  constructor
  · intro h
    rw [h, show uI_ 0 = 0 by decide +kernel] at e
    rw [show (2 : Nat) ^ 24 = 16777216 by decide +kernel] at e
    omega
  · intro h
    apply uI_inj
    rw [e, show uI_ 0 = 0 by decide +kernel, show (2 : Nat) ^ 24 = 16777216 by decide +kernel, Nat.div_eq_of_lt h]
/-- a number from 0 to m -/
theorem in_uI {y : Int32} {m : Nat} (hm : m < 2147483648) : (¬ y < 0 ∧ y ≤ nI m) ↔ uI_ y ≤ m := by
  constructor
  · rintro ⟨h1, h2⟩
    obtain ⟨j, hj, e⟩ := nI_of h1
    rw [e] at h2 ⊢
    rw [uI_nI (by omega)]
    exact (nI_leI (by omega) (by omega)).mp h2
  · intro h
    rw [← nI_uI y]
    exact ⟨nI_pos (by omega), nI_le h (by omega)⟩
/-! fixing leaves the causes as they are; weighing leaves all -/
theorem hm_congr {S T : Nat → Int32} {x : Int32} : ∀ z, (∀ j, j < z → S j = T j) → hm_ S x z = hm_ T x z := by
  intro z
  induction z with
  | zero => intro _; rfl
  | succ z ih =>
    intro h
    show hm_ S x z + _ = hm_ T x z + _
    rw [ih (fun j hj => h j (by omega)), h z (by omega)]
theorem sa_congr {S T : Nat → Int32} : ∀ z, (∀ j, j < z → S j = T j) → sa_ S z = sa_ T z := by
  intro z
  induction z with
  | zero => intro _; rfl
  | succ z ih =>
    intro h
    show sa_ S z &&& _ = sa_ T z &&& _
    rw [ih (fun j hj => h j (by omega)), h z (by omega)]
theorem lt_congr {W S T : Nat → Int32} {n : Nat} : ∀ z, (∀ j, j < z → S j = T j) → lt_ W S n z = lt_ W T n z := by
  intro z
  induction z with
  | zero => intro _; rfl
  | succ z ih =>
    intro h
    show (if (lt_ W S n z).1 = -2 ∨ wo_ W (S z) n < (lt_ W S n z).2 then _ else _) = (if (lt_ W T n z).1 = -2 ∨ wo_ W (T z) n < (lt_ W T n z).2 then _ else _)
    rw [ih (fun j hj => h j (by omega)), h z (by omega)]
theorem at_congr {S T : Nat → Int32} {z : Nat} {x r : Int32} (hS : ∀ j, j < z → S j = T j) (h : at_is S z x r) : at_is T z x r := by
  rcases h with ⟨j, hj, e, er⟩ | h
  · exact Or.inl ⟨j, hj, e, by rw [er, hS j hj]⟩
  · exact Or.inr h
theorem fi_congr {S T : Nat → Int32} {z : Nat} {x r : Int32} (hS : ∀ j, j < z → S j = T j) (h : fi_is S z x r) : fi_is T z x r := by
  rcases h with ⟨k, hk, er, h1, h2⟩ | ⟨er, h⟩
  · exact Or.inl ⟨k, hk, by rw [er, hS k hk], by rw [← hS k hk]; exact h1, fun j hj => by rw [← hS j (by omega)]; exact h2 j hj⟩
  · exact Or.inr ⟨er, fun j hj => by rw [← hS j hj]; exact h j hj⟩
