/-! ===== sets as bits of a Nat ===== -/
def ss_ (s t : Nat) : Prop := ∀ i, s.testBit i = true → t.testBit i = true
theorem ss_eq {s t : Nat} (h : ss_ s t) (h2 : ss_ t s) : s = t := by
  apply Nat.eq_of_testBit_eq
  intro i
  cases hs : s.testBit i
  · cases ht : t.testBit i
    · rfl
    · exact absurd (h2 i ht) (by rw [hs]; decide)
  · rw [h i hs]
theorem tb_add {n t : Nat} (ht : t < 2 ^ n) (i : Nat) : (t + 2 ^ n).testBit i = (t.testBit i || decide (i = n)) := by
  have e : t + 2 ^ n = 2 ^ n * 1 + t := by omega
  rw [e, Nat.testBit_two_pow_mul_add 1 ht i]
  by_cases h : i < n
  · have h2 : ¬ i = n := by omega
    simp [h, h2]
  · have h3 : t.testBit i = false := Nat.testBit_lt_two_pow (Nat.lt_of_lt_of_le ht (Nat.pow_le_pow_right (by omega) (by omega)))
    rw [if_neg h, h3]
    by_cases h4 : i = n
    · subst h4; simp
    · have : i - n ≠ 0 := by omega
      have h5 : Nat.testBit 1 (i - n) = false := Nat.testBit_lt_two_pow (Nat.one_lt_two_pow this)
      rw [h5]
      simp [h4]
/-! ===== symmetric chains: the top first ===== -/
def ch_ : Nat → List (List Nat)
  | 0 => [[0]]
  | n + 1 => (ch_ n).flatMap (fun c => match c with
    | [] => []
    | t :: r => ((t + 2 ^ n) :: t :: r) :: (match r with
      | [] => []
      | a :: r => [(a :: r).map (fun x => x + 2 ^ n)]))
def cho_ (n : Nat) (c : List Nat) : Prop := c.Pairwise (fun t s => ss_ s t) ∧ ∀ s ∈ c, s < 2 ^ n
theorem cho_add {n : Nat} {c : List Nat} (h : cho_ n c) : cho_ (n + 1) (c.map (fun x => x + 2 ^ n)) := by
  refine ⟨List.pairwise_map.mpr (h.1.imp_of_mem ?_), ?_⟩
  · intro a b ha hb hab i
    rw [tb_add (h.2 a ha), tb_add (h.2 b hb)]
    intro hi
    rcases Bool.or_eq_true _ _ ▸ hi with h1 | h1
    · simp [hab i h1]
    · simp [h1]
  · intro s hs
    obtain ⟨x, hx, rfl⟩ := List.mem_map.mp hs
    have := h.2 x hx
    show x + 2 ^ n < 2 ^ (n + 1)
    rw [Nat.pow_succ]
    omega
theorem ch_ok : ∀ (n : Nat) (c : List Nat), c ∈ ch_ n → cho_ n c := by
  intro n
  induction n with
  | zero =>
    intro c hc
    rw [ch_, List.mem_singleton] at hc
    subst hc
    exact ⟨List.pairwise_singleton _ _, fun s hs => by rw [List.mem_singleton.mp hs]; decide⟩
  | succ n ih =>
    intro c hc
    rw [ch_] at hc
    obtain ⟨c0, hc0, h1⟩ := List.mem_flatMap.mp hc
    have h0 := ih c0 hc0
    match c0, h0, h1 with
    | [], _, h1 => cases h1
    | t :: r, h0, h1 =>
      have ht : t < 2 ^ n := h0.2 t List.mem_cons_self
      have hp : 2 ^ (n + 1) = 2 ^ n + 2 ^ n := by rw [Nat.pow_succ]; omega
      rcases List.mem_cons.mp h1 with h2 | h2
      · subst h2
        refine ⟨List.pairwise_cons.mpr ⟨fun s hs i hi => ?_, h0.1⟩, fun s hs => ?_⟩
        · rw [tb_add ht]
          rcases List.mem_cons.mp hs with h3 | h3
          · rw [← h3, hi]; rfl
          · rw [(List.pairwise_cons.mp h0.1).1 s h3 i hi]; rfl
        · rcases List.mem_cons.mp hs with h3 | h3
          · omega
          · have := h0.2 s h3
            omega
      · match r, h0, h2 with
        | [], _, h2 => cases h2
        | a :: r, h0, h2 =>
          rw [List.mem_singleton.mp h2]
          exact cho_add ⟨(List.pairwise_cons.mp h0.1).2, fun s hs => h0.2 s (List.mem_cons_of_mem _ hs)⟩
theorem ch_all : ∀ (n s : Nat), s < 2 ^ n → ∃ c ∈ ch_ n, s ∈ c := by
  intro n
  induction n with
  | zero =>
    intro s hs
    have : s = 0 := by
      have : 2 ^ 0 = 1 := rfl
      omega
    subst this
    exact ⟨[0], by rw [ch_]; exact List.mem_singleton.mpr rfl, List.mem_singleton.mpr rfl⟩
  | succ n ih =>
    intro s hs
    have hp : 2 ^ (n + 1) = 2 ^ n + 2 ^ n := by rw [Nat.pow_succ]; omega
    rcases Nat.lt_or_ge s (2 ^ n) with h | h
    · obtain ⟨c, hc, hm⟩ := ih s h
      match c, hc, hm with
      | t :: r, hc, hm =>
        refine ⟨(t + 2 ^ n) :: t :: r, ?_, List.mem_cons_of_mem _ hm⟩
        rw [ch_]
        exact List.mem_flatMap.mpr ⟨t :: r, hc, List.mem_cons_self⟩
    · obtain ⟨c, hc, hm⟩ := ih (s - 2 ^ n) (by omega)
      match c, hc, hm with
      | t :: r, hc, hm =>
        rcases List.mem_cons.mp hm with h1 | h1
        · refine ⟨(t + 2 ^ n) :: t :: r, ?_, ?_⟩
          · rw [ch_]
            exact List.mem_flatMap.mpr ⟨t :: r, hc, List.mem_cons_self⟩
          · rw [show s = t + 2 ^ n by omega]
            exact List.mem_cons_self
        · match r, hc, h1 with
          | a :: r, hc, h1 =>
            refine ⟨(a :: r).map (fun x => x + 2 ^ n), ?_, ?_⟩
            · rw [ch_]
              exact List.mem_flatMap.mpr ⟨t :: a :: r, hc, List.mem_cons_of_mem _ (List.mem_singleton.mpr rfl)⟩
            · exact List.mem_map.mpr ⟨s - 2 ^ n, h1, by omega⟩
set_option maxRecDepth 100000 in
theorem ch_14 : (ch_ 14).length = 3432 := by decide +kernel
/-! ===== no more sets, of which none holds another, than chains ===== -/
def sm_ (f : List Nat → Nat) : List (List Nat) → Nat
  | [] => 0
  | c :: cs => f c + sm_ f cs
theorem sm_add (f g : List Nat → Nat) (cs : List (List Nat)) : sm_ (fun c => f c + g c) cs = sm_ f cs + sm_ g cs := by
  induction cs with
  | nil => rfl
  | cons c cs ih =>
    show f c + g c + sm_ _ cs = f c + sm_ f cs + (g c + sm_ g cs)
    rw [ih]; omega
theorem sm_le {f : List Nat → Nat} {cs : List (List Nat)} (h : ∀ c ∈ cs, f c ≤ 1) : sm_ f cs ≤ cs.length := by
  induction cs with
  | nil => exact Nat.le_refl 0
  | cons c cs ih =>
    have h1 := h c List.mem_cons_self
    have h2 := ih (fun c hc => h c (List.mem_cons_of_mem _ hc))
    show f c + sm_ f cs ≤ cs.length + 1
    omega
theorem sm_one {f : List Nat → Nat} {cs : List (List Nat)} {c : List Nat} (hc : c ∈ cs) (h : 1 ≤ f c) : 1 ≤ sm_ f cs := by
  induction cs with
  | nil => cases hc
  | cons c0 cs ih =>
    show 1 ≤ f c0 + sm_ f cs
    rcases List.mem_cons.mp hc with h1 | h1
    · subst h1; omega
    · have := ih h1; omega
def nin_ (l : List Nat) (c : List Nat) : Nat := (l.filter (fun s => decide (s ∈ c))).length
theorem nin_cons (a : Nat) (l c : List Nat) : nin_ (a :: l) c = nin_ [a] c + nin_ l c := by
  unfold nin_
  by_cases h : a ∈ c
  · simp [h]; omega
  · simp [h]
theorem sm_all {cs : List (List Nat)} : ∀ (l : List Nat), (∀ s ∈ l, ∃ c ∈ cs, s ∈ c) → l.length ≤ sm_ (nin_ l) cs := by
  intro l
  induction l with
  | nil => intro _; exact Nat.zero_le _
  | cons a l ih =>
    intro h
    have h1 := ih (fun s hs => h s (List.mem_cons_of_mem _ hs))
    obtain ⟨c, hc, ha⟩ := h a List.mem_cons_self
    have h2 : sm_ (nin_ (a :: l)) cs = sm_ (nin_ [a]) cs + sm_ (nin_ l) cs := by
      rw [← sm_add]
      congr 1
      funext c
      exact nin_cons a l c
    have h3 : 1 ≤ sm_ (nin_ [a]) cs := sm_one hc (by unfold nin_; simp [ha])
    rw [h2, List.length_cons]
    omega
/-- at most one of a list of sets, of which none holds another, is in a chain -/
theorem nin_le {n : Nat} {c : List Nat} (hc : cho_ n c) : ∀ (l : List Nat), l.Pairwise (fun s t => ¬ ss_ s t ∧ ¬ ss_ t s) → nin_ l c ≤ 1 := by
  have cmp : ∀ (c : List Nat), c.Pairwise (fun t s => ss_ s t) → ∀ s t, s ∈ c → t ∈ c → ss_ s t ∨ ss_ t s := by
    intro c
    induction c with
    | nil => intro _ s t hs; cases hs
    | cons a c ih =>
      intro h s t hs ht
      obtain ⟨h1, h2⟩ := List.pairwise_cons.mp h
      rcases List.mem_cons.mp hs with es | hs2
      · rcases List.mem_cons.mp ht with et | ht2
        · rw [es, et]; exact Or.inl fun i h => h
        · rw [es]; exact Or.inr (h1 t ht2)
      · rcases List.mem_cons.mp ht with et | ht2
        · rw [et]; exact Or.inl (h1 s hs2)
        · exact ih h2 s t hs2 ht2
  intro l
  induction l with
  | nil => intro _; exact Nat.zero_le _
  | cons a l ih =>
    intro h
    obtain ⟨h1, h2⟩ := List.pairwise_cons.mp h
    rw [nin_cons]
    by_cases ha : a ∈ c
    · have h3 : nin_ l c = 0 := by
        unfold nin_
        rw [List.length_eq_zero_iff, List.filter_eq_nil_iff]
        intro t ht
        simp only [decide_eq_true_eq]
        intro htc
        rcases cmp c hc.1 a t ha htc with q | q
        · exact (h1 t ht).1 q
        · exact (h1 t ht).2 q
      have h4 : nin_ [a] c ≤ 1 := by
        unfold nin_
        exact Nat.le_trans (List.length_filter_le _ _) (by simp)
      omega
    · have h3 : nin_ [a] c = 0 := by unfold nin_; simp [ha]
      have h4 := ih h2
      omega
theorem sperner14 {l : List Nat} (h : l.Pairwise (fun s t => ¬ ss_ s t ∧ ¬ ss_ t s)) (hl : ∀ s ∈ l, s < 16384) : l.length ≤ 3432 := by
  have h1 := sm_all (cs := ch_ 14) l (fun s hs => ch_all 14 s (hl s hs))
  have h2 := sm_le (cs := ch_ 14) (f := nin_ l) (fun c hc => nin_le (ch_ok 14 c hc) l h)
  rw [ch_14] at h2
  omega
