/-! ===== 64 sets at once: G f: those from which fact f is known to follow; U a: those that have axiom a ===== -/
abbrev dj_ (n : Nat) (B Hd : Nat → Int32) (U : Nat → Int64) (j k f : Nat) : Prop := dr_ n (bd_ B) (hd_ Hd) (fun a => bl (U a) j = true) k f
def g_snd (n : Nat) (B Hd : Nat → Int32) (U G : Nat → Int64) : Prop := ∀ j, j < 64 → ∀ f, bl (G f) j = true → dj_ n B Hd U j n f
def g_prg (n : Nat) (B Hd : Nat → Int32) (U G : Nat → Int64) (r : Nat) : Prop := ∀ j, j < 64 → ∀ f, dj_ n B Hd U j r f → bl (G f) j = true
def g_cls (B Hd : Nat → Int32) (U G : Nat → Int64) (a : Nat) : Prop := ∀ j, j < 64 → ∀ b, b < a → bl (U b) j = true → (∀ g, bd_ B b g → bl (G g) j = true) → bl (G (hd_ Hd b)) j = true
def g_in (n : Nat) (B Hd : Nat → Int32) (U : Nat → Int64) (r a : Nat) (G : Nat → Int64) (gr : Int32) : Prop :=
  g_snd n B Hd U G ∧ g_prg n B Hd U G r ∧ (∀ j, j < 64 → ∀ b, b < a → bl (U b) j = true → (∀ g, bd_ B b g → dj_ n B Hd U j r g) → bl (G (hd_ Hd b)) j = true) ∧ (gr = 0 → g_cls B Hd U G a)
/-- those of 'among' from which all facts of a mask follow -/
def ga_is (G : Nat → Int64) (facts : Int32) (among r : Int64) : Prop := ∀ j, j < 64 → (bl r j = true ↔ bl among j = true ∧ ∀ g, bt facts g = true → bl (G g) j = true)
theorem g_start {n : Nat} {B Hd : Nat → Int32} {U : Nat → Int64} : g_snd n B Hd U (fun _ => 0) ∧ g_prg n B Hd U (fun _ => 0) 0 := by
  refine ⟨fun j _ f h => ?_, fun j _ f h => ?_⟩
  · rw [l_0] at h; cases h
  · obtain ⟨b, -, he, -⟩ := h
    exact he.elim
theorem g_open {n : Nat} {B Hd : Nat → Int32} {U G : Nat → Int64} {r : Nat} (h1 : g_snd n B Hd U G) (h2 : g_prg n B Hd U G r) (gr : Int32) : g_in n B Hd U r 0 G gr :=
  ⟨h1, h2, fun _ _ b hb => absurd hb (Nat.not_lt_zero b), fun _ _ _ b hb => absurd hb (Nat.not_lt_zero b)⟩
theorem g_step {n : Nat} {B Hd : Nat → Int32} {U G : Nat → Int64} {r a : Nat} {gr gr' : Int32} {fresh : Int64} (ha : a < n) (h : g_in n B Hd U r a G gr) (hf : ga_is G (B a) (U a &&& (G (hd_ Hd a) ^^^ (-1))) fresh) (hg : gr' = 0 → gr = 0 ∧ fresh = 0) : g_in n B Hd U r (a + 1) (vp_updL G (hd_ Hd a) (G (hd_ Hd a) ||| fresh)) gr' := by
  obtain ⟨h1, h2, h3, h4⟩ := h
  have up : ∀ f j, bl (G f) j = true → bl (vp_updL G (hd_ Hd a) (G (hd_ Hd a) ||| fresh) f) j = true := by
    intro f j hb
    unfold vp_updL
    by_cases e : f = hd_ Hd a
    · rw [if_pos e, l_or, ← e, hb]; rfl
    · rw [if_neg e]; exact hb
  have fr : ∀ j, j < 64 → bl (U a) j = true → (∀ g, bd_ B a g → bl (G g) j = true) → bl (vp_updL G (hd_ Hd a) (G (hd_ Hd a) ||| fresh) (hd_ Hd a)) j = true := by
    intro j hj hu hb
    unfold vp_updL
    rw [if_pos rfl, l_or]
    cases hc : bl (G (hd_ Hd a)) j
    · have : bl fresh j = true := (hf j hj).mpr ⟨by rw [l_and, l_not _ hj, hu, hc]; rfl, hb⟩
      rw [this]; rfl
    · rfl
  refine ⟨fun j hj f hb => ?_, fun j hj f hd => up f j (h2 j hj f hd), fun j hj b hb hu hd => ?_, fun e0 => ?_⟩
  · unfold vp_updL at hb
    by_cases e : f = hd_ Hd a
    · rw [if_pos e, l_or, Bool.or_eq_true] at hb
      rcases hb with hb | hb
      · rw [e]; exact h1 j hj _ hb
      · obtain ⟨g1, g2⟩ := (hf j hj).mp hb
        rw [l_and, Bool.and_eq_true] at g1
        rw [e]
        exact dr_closed ha g1.1 (fun g hg => h1 j hj g (g2 g hg))
    · rw [if_neg e] at hb
      exact h1 j hj f hb
  · by_cases e : b = a
    · subst e
      exact fr j hj hu (fun g hg => h2 j hj g (hd g hg))
    · exact up _ j (h3 j hj b (by omega) hu hd)
  · obtain ⟨e1, e2⟩ := hg e0
    have same : ∀ f j, bl (vp_updL G (hd_ Hd a) (G (hd_ Hd a) ||| fresh) f) j = bl (G f) j := by
      intro f j
      unfold vp_updL
      by_cases e : f = hd_ Hd a
      · rw [if_pos e, l_or, e2, l_0, e]; simp
      · rw [if_neg e]
    intro j hj b hb hu hd
    by_cases e : b = a
    · subst e
      exact fr j hj hu (fun g hg => by rw [← same]; exact hd g hg)
    · rw [same]
      exact h4 e1 j hj b (by omega) hu (fun g hg => by rw [← same]; exact hd g hg)
theorem g_round {n : Nat} {B Hd : Nat → Int32} {U G : Nat → Int64} {r : Nat} {gr : Int32} (h : g_in n B Hd U r n G gr) : g_snd n B Hd U G ∧ g_prg n B Hd U G (r + 1) := by
  obtain ⟨h1, h2, h3, -⟩ := h
  refine ⟨h1, fun j hj f hd => ?_⟩
  obtain ⟨a, ha, hS, e, hb⟩ := (dr_step r f).mp hd
  rw [← e]
  exact h3 j hj a ha hS hb
/-- what is known at last -/
def g_all (n : Nat) (B Hd : Nat → Int32) (U G : Nat → Int64) : Prop := ∀ j, j < 64 → ∀ f, (bl (G f) j = true ↔ dj_ n B Hd U j n f)
theorem g_end0 {n : Nat} {B Hd : Nat → Int32} {U G : Nat → Int64} {r : Nat} (h : g_in n B Hd U r n G 0) : g_all n B Hd U G :=
  fun j hj f => ⟨h.1 j hj f, fun hd => dr_least (G := fun f => bl (G f) j = true) (fun a ha hS hb => h.2.2.2 rfl j hj a ha hS hb) n f hd⟩
theorem g_endn {n : Nat} {B Hd : Nat → Int32} {U G : Nat → Int64} (h1 : g_snd n B Hd U G) (h2 : g_prg n B Hd U G n) : g_all n B Hd U G :=
  fun j hj f => ⟨h1 j hj f, h2 j hj f⟩
