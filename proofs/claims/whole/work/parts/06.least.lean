theorem on_pair {f : Nat → Bool} {R : Nat → Nat → Prop} (h : ∀ s t, s < t → f s = true → f t = true → R s t) : ∀ (k i : Nat), (on_ f i k).Pairwise R := by
  intro k
  induction k with
  | zero => intro i; exact List.Pairwise.nil
  | succ k ih =>
    intro i
    show List.Pairwise R (if f i = true then i :: on_ f (i + 1) k else on_ f (i + 1) k)
    by_cases hf : f i = true
    · rw [if_pos hf]
      refine List.pairwise_cons.mpr ⟨fun t ht => ?_, ih (i + 1)⟩
      obtain ⟨h1, h2, h3⟩ := (on_mem k (i + 1)).mp ht
      exact h i t (by omega) hf h3
    · rw [if_neg hf]
      exact ih (i + 1)
theorem cc_pair {g : Nat → List Nat} {R : Nat → Nat → Prop} (h1 : ∀ k, (g k).Pairwise R) (h2 : ∀ j k x y, j < k → x ∈ g j → y ∈ g k → R x y) : ∀ n, (cc_ g n).Pairwise R := by
  intro n
  induction n with
  | zero => exact List.Pairwise.nil
  | succ n ih =>
    show List.Pairwise R (cc_ g n ++ g n)
    refine List.pairwise_append.mpr ⟨ih, h1 n, fun x hx y hy => ?_⟩
    obtain ⟨k, hk, hxk⟩ := (cc_mem n).mp hx
    exact h2 k n x y hk hxk hy
/-! ===== how many bits a number has, of its first k ===== -/
def pcF : Nat → Nat → Nat
  | 0, _ => 0
  | k + 1, s => s % 2 + pcF k (s / 2)
theorem pcF_0 : ∀ k, pcF k 0 = 0 := by
  intro k
  induction k with
  | zero => rfl
  | succ k ih =>
    show 0 % 2 + pcF k (0 / 2) = 0
    rw [Nat.zero_div, ih]
theorem pcF_le : ∀ k s, pcF k s ≤ k := by
  intro k
  induction k with
  | zero => intro s; exact Nat.le_refl 0
  | succ k ih =>
    intro s
    have h1 := ih (s / 2)
    have h2 : s % 2 < 2 := Nat.mod_lt _ (by omega)
    show s % 2 + pcF k (s / 2) ≤ k + 1
    omega
theorem pcF_add : ∀ (i k s : Nat), pcF (i + k) s = pcF i s + pcF k (s / 2 ^ i) := by
  intro i
  induction i with
  | zero =>
    intro k s
    rw [Nat.zero_add, Nat.pow_zero, Nat.div_one]
    show _ = 0 + _
    omega
  | succ i ih =>
    intro k s
    rw [show i + 1 + k = (i + k) + 1 by omega]
    show s % 2 + pcF (i + k) (s / 2) = s % 2 + pcF i (s / 2) + _
    rw [ih k (s / 2), Nat.div_div_eq_div_mul, ← Nat.pow_succ', Nat.add_assoc]
theorem pcF_on : ∀ (k s : Nat), (on_ s.testBit 0 k).length = pcF k s := by
  intro k
  induction k with
  | zero => intro s; rfl
  | succ k ih =>
    intro s
    have e : on_ s.testBit (1 + 0) k = (on_ (fun j => s.testBit (1 + j)) 0 k).map (fun j => 1 + j) := on_shift s.testBit 1 k 0
    have e2 : on_ (fun j => s.testBit (1 + j)) 0 k = on_ (s / 2).testBit 0 k := on_congr k 0 (fun j _ _ => by rw [Nat.add_comm, Nat.testBit_succ])
    show (if s.testBit 0 = true then 0 :: on_ s.testBit (0 + 1) k else on_ s.testBit (0 + 1) k).length = s % 2 + pcF k (s / 2)
    rw [show (0 + 1 : Nat) = 1 + 0 from rfl, e, e2]
    have h2 : s % 2 < 2 := Nat.mod_lt _ (by omega)
    by_cases h : s.testBit 0 = true
    · have h3 : s % 2 = 1 := by
        rw [Nat.testBit_zero] at h
        exact of_decide_eq_true h
      rw [if_pos h, List.length_cons, List.length_map, ih, h3]; omega
    · have h3 : s % 2 = 0 := by
        rw [Nat.testBit_zero] at h
        have : ¬ s % 2 = 1 := fun q => h (decide_eq_true q)
        omega
      rw [if_neg h, List.length_map, ih, h3]; omega
/-! ===== the least of a family: none with one axiom less is in it ===== -/
def lst_ (M : Nat → Prop) (s : Nat) : Prop := M s ∧ ∀ a, a < 14 → s.testBit a = true → ¬ M (s ^^^ 2 ^ a)
theorem tb_flip (s a i : Nat) : (s ^^^ 2 ^ a).testBit i = (s.testBit i ^^ decide (a = i)) := by
  rw [Nat.testBit_xor, Nat.testBit_two_pow]
theorem tb_lt {s i : Nat} (hs : s < 16384) (h : s.testBit i = true) : i < 14 := by
  refine Classical.byContradiction fun q => ?_
  have : s.testBit i = false := Nat.testBit_lt_two_pow (Nat.lt_of_lt_of_le hs (show 16384 ≤ 2 ^ i from Nat.pow_le_pow_right (n := 2) (i := 14) (j := i) (by omega) (by omega)))
  rw [this] at h
  cases h
theorem lst_anti {M : Nat → Prop} (up : ∀ s t, ss_ s t → M s → M t) {s t : Nat} (ht : t < 16384) (h1 : lst_ M s) (h2 : lst_ M t) (h : ss_ s t) : s = t := by
  refine Classical.byContradiction fun q => ?_
  have hx : ∃ a, t.testBit a = true ∧ s.testBit a = false := by
    refine Classical.byContradiction fun z => q (ss_eq h fun i hi => ?_)
    cases hs : s.testBit i
    · exact absurd ⟨i, hi, hs⟩ z
    · rfl
  obtain ⟨a, ha, hs⟩ := hx
  refine h2.2 a (tb_lt ht ha) ha (up s _ (fun i hi => ?_) h1.1)
  rw [tb_flip, h i hi]
  have : ¬ a = i := by
    intro e
    subst e
    rw [hs] at hi
    cases hi
  simp [this]
/-- the sets in the ORDER: of k axioms, k below n, and smaller than N -/
def ls_ (P : Nat → Bool) (n N : Nat) : List Nat := cc_ (fun k => on_ (fun s => decide (pcF 14 s = k) && P s) 0 N) n
theorem ls_mem {P : Nat → Bool} {n N s : Nat} : s ∈ ls_ P n N ↔ pcF 14 s < n ∧ s < N ∧ P s = true := by
  unfold ls_
  rw [cc_mem]
  constructor
  · rintro ⟨k, hk, h⟩
    obtain ⟨-, h2, h3⟩ := (on_mem N 0).mp h
    simp only [Bool.and_eq_true, decide_eq_true_eq] at h3
    exact ⟨by omega, by omega, h3.2⟩
  · rintro ⟨h1, h2, h3⟩
    exact ⟨_, h1, (on_mem N 0).mpr ⟨Nat.zero_le _, by omega, by simp [h3]⟩⟩
theorem ls_len {M : Nat → Prop} {P : Nat → Bool} (hP : ∀ s, P s = true → lst_ M s) (up : ∀ s t, ss_ s t → M s → M t) {n N : Nat} (hN : N ≤ 16384) : (ls_ P n N).length ≤ 3432 := by
  have key : ∀ s t, s ≠ t → s < 16384 → t < 16384 → P s = true → P t = true → ¬ ss_ s t ∧ ¬ ss_ t s := fun s t hne hs ht ps pt =>
    ⟨fun h => hne (lst_anti up ht (hP s ps) (hP t pt) h), fun h => hne (lst_anti up hs (hP t pt) (hP s ps) h).symm⟩
  have pw : (ls_ P n N).Pairwise (fun s t => s < 16384 → t < 16384 → ¬ ss_ s t ∧ ¬ ss_ t s) := by
    refine cc_pair (fun k => on_pair (fun s t hst hs ht h1 h2 => ?_) N 0) (fun j k x y hjk hx hy h1 h2 => ?_) n
    · simp only [Bool.and_eq_true, decide_eq_true_eq] at hs ht
      exact key s t (by omega) h1 h2 hs.2 ht.2
    · obtain ⟨-, -, h3⟩ := (on_mem N 0).mp hx
      obtain ⟨-, -, h4⟩ := (on_mem N 0).mp hy
      simp only [Bool.and_eq_true, decide_eq_true_eq] at h3 h4
      exact key x y (fun e => by subst e; omega) h1 h2 h3.2 h4.2
  have hl : ∀ s ∈ ls_ P n N, s < 16384 := fun s hs => by
    have := (ls_mem.mp hs).2.1
    omega
  exact sperner14 (pw.imp_of_mem (fun ha hb h => h (hl _ ha) (hl _ hb))) hl
/-- the same list over fewer sizes and fewer sets, where beyond them there is none -/
theorem ls_cut {P : Nat → Bool} {n n' N N' : Nat} (hn : n' ≤ n) (hN : N' ≤ N) (h : ∀ s, s < N → P s = true → pcF 14 s < n' ∧ s < N') : ls_ P n N = ls_ P n' N' := by
  unfold ls_
  rw [cc_more (n := n') n hn (fun k h1 h2 => on_nil N 0 (fun s h3 h4 => ?_))]
  · refine cc_congr n' (fun k hk => ?_)
    show on_ _ 0 N = on_ _ 0 N'
    rw [show N = N' + (N - N') by omega, on_app]
    rw [on_nil (N - N') (0 + N') (fun s h3 h4 => ?_), List.append_nil]
    cases hp : P s
    · simp
    · have := (h s (by omega) hp).2
      omega
  · cases hp : P s
    · simp
    · have := (h s (by omega) hp).1
      have : ¬ pcF 14 s = k := by omega
      simp [this]
