/-! ===== the lists of causes and cures ===== -/
noncomputable def CL_ (n : Nat) (B Hd : Nat → Int32) (g : Nat) : List Nat := ls_ (cp_ n B Hd g) (n + 1) (2 ^ n)
noncomputable def QL_ (n : Nat) (B Hd Fx : Nat → Int32) (g : Nat) : List Nat := ls_ (qp_ n B Hd Fx g) (n + 1) (2 ^ n)
theorem CL_cls {n : Nat} (hn : n ≤ 14) (B Hd : Nat → Int32) (g : Nat) : ls_ (cp_ n B Hd g) 15 (nwd_ n * 64) = CL_ n B Hd g := by
  have h := nwd_lt n hn
  exact ls_both hn (fun s h => cp_iff.mp h) mc_hi h.2.2 (by omega)
theorem QL_cls {n : Nat} (hn : n ≤ 14) (B Hd Fx : Nat → Int32) (g : Nat) : ls_ (qp_ n B Hd Fx g) 15 (nwd_ n * 64) = QL_ n B Hd Fx g := by
  have h := nwd_lt n hn
  exact ls_both hn (fun s h => qp_iff.mp h) mq_hi h.2.2 (by omega)
theorem CL_len {n : Nat} (hn : n ≤ 14) (B Hd : Nat → Int32) (g : Nat) : (CL_ n B Hd g).length ≤ 3432 := ls_len (fun s h => cp_iff.mp h) mc_up (pow_le14 hn)
theorem QL_len {n : Nat} (hn : n ≤ 14) (B Hd Fx : Nat → Int32) (g : Nat) : (QL_ n B Hd Fx g).length ≤ 3432 := ls_len (fun s h => qp_iff.mp h) mq_up (pow_le14 hn)
/-- the n axioms and the goal are as they may be -/
def CO_ (n : Nat) (B Hd Fx : Nat → Int32) (g : Nat) : Prop := n ≤ 14 ∧ g < 24 ∧ (∀ a, a < n → uI_ (B a) < 16777216 ∧ uI_ (Hd a) < 24) ∧ ∀ a, a < n → Fx a = 0 ∨ Fx a = 1
/-- where a list is known, it is the list -/
def IV_ (n : Nat) (B Hd Fx : Nat → Int32) (g z1 : Nat) (S1 : Nat → Int32) (z2 : Nat) (S2 : Nat → Int32) (ck qk : Int32) : Prop :=
  (ck = 0 ∨ ck = 1) ∧ (qk = 0 ∨ qk = 1) ∧ (ck = 1 → z1 = (CL_ n B Hd g).length ∧ sx_ S1 (CL_ n B Hd g)) ∧ (qk = 1 → z2 = (QL_ n B Hd Fx g).length ∧ sx_ S2 (QL_ n B Hd Fx g))
abbrev Jk_ : Type := (Nat → Int64) × (Nat → Int64) × (Nat → Int64) × (Nat → Int64) × Nat × (Nat → Int32) × Nat × (Nat → Int32) × Int32 × Int32
theorem IV_0 {n : Nat} {B Hd Fx : Nat → Int32} {g z1 : Nat} {S1 : Nat → Int32} {z2 : Nat} {S2 : Nat → Int32} : IV_ n B Hd Fx g z1 S1 z2 S2 0 0 := ⟨Or.inl rfl, Or.inl rfl, fun h => absurd h (by decide), fun h => absurd h (by decide)⟩
theorem mb_next {M : Nat → Prop} {f : Nat → Int64} {v : Nat} {x : Int64} (h : ∀ w, w < v → ∀ j, j < 64 → (bl (f w) j = true ↔ M (w * 64 + j))) (hx : ∀ j, j < 64 → (bl x j = true ↔ M (v * 64 + j))) : ∀ w, w < v + 1 → ∀ j, j < 64 → (bl (vp_updL f v x w) j = true ↔ M (w * 64 + j)) :=
  up_lt (P := fun w y => ∀ j, j < 64 → (bl y j = true ↔ M (w * 64 + j))) rfl h hx
theorem not_word {M : Nat → Prop} {v : Nat} {x : Int64} (h : ∀ j, j < 64 → (bl x j = true ↔ ¬ M (v * 64 + j))) : ∀ j, j < 64 → (bl (x ^^^ (-1)) j = true ↔ M (v * 64 + j)) := fun j hj => by
  rw [l_not x hj, Bool.not_eq_true', ← Bool.not_eq_true, h j hj, Classical.not_not]
