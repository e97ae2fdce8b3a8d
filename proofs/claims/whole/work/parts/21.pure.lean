/-! ===== what small methods answer ===== -/
def has_is (n : Nat) (x r : Int32) : Prop := (r = 1 ∧ ∃ j, j < n ∧ x = nI j) ∨ (r = 0 ∧ ∀ j, j < n → x ≠ nI j)
theorem has_neg {n : Nat} {x : Int32} (hn : n ≤ 14) (h : x < 0) : has_is n x 0 := Or.inr ⟨rfl, fun j hj e => nI_pos (n := j) (by omega) (e ▸ h)⟩
theorem has_big {n : Nat} {x : Int32} (hn : n ≤ 14) (h : nI n ≤ x) : has_is n x 0 := Or.inr ⟨rfl, fun j hj e => nI_ge (a := j) (b := n) hj (by omega) (e ▸ h)⟩
theorem has_in {n : Nat} {x : Int32} (hn : n ≤ 14) (h1 : ¬ x < 0) (h2 : ¬ nI n ≤ x) : has_is n x 1 := by
  obtain ⟨j, hj, e, -⟩ := pk_mu h1 h2 (by omega)
  exact Or.inl ⟨rfl, j, hj, e⟩
/-- the weight of a set's axioms below a -/
def wo_ (Wt : Nat → Int32) (set : Int32) : Nat → Int32
  | 0 => 0
  | a + 1 => if bt set a = true then wo_ Wt set a + Wt a else wo_ Wt set a
theorem wo_no {Wt : Nat → Int32} {set : Int32} {a : Nat} (ha : a < 32) (h : (set >>> (nI a &&& 31)) &&& 1 = 0) : wo_ Wt set (a + 1) = wo_ Wt set a := by
  show (if bt set a = true then _ else _) = _
  rw [if_neg (by rw [(b_ask0 ha set).mp h]; decide)]
theorem wo_yes {Wt : Nat → Int32} {set : Int32} {a : Nat} (ha : a < 32) (h : ¬ (set >>> (nI a &&& 31)) &&& 1 = 0) : wo_ Wt set (a + 1) = wo_ Wt set a + Wt a := by
  show (if bt set a = true then _ else _) = _
  rw [if_pos (Classical.byContradiction fun q => h ((b_ask0 ha set).mpr (by simpa using q)))]
theorem cs_no1 {B Hd : Nat → Int32} {set facts : Int32} {a : Nat} (ha : a < 32) (h : (set >>> (nI a &&& 31)) &&& 1 = 0) : cs_ B Hd set facts (a + 1) = cs_ B Hd set facts a := by
  show (if bt set a = true ∧ B a &&& (facts ^^^ (-1)) = 0 then _ else _) = _
  rw [if_neg (fun q => by rw [(b_ask0 ha set).mp h] at q; exact absurd q.1 (by decide))]
theorem cs_no2 {B Hd : Nat → Int32} {set facts : Int32} {a : Nat} (h : ¬ B a &&& (facts ^^^ (-1)) = 0) : cs_ B Hd set facts (a + 1) = cs_ B Hd set facts a := by
  show (if bt set a = true ∧ B a &&& (facts ^^^ (-1)) = 0 then _ else _) = _
  rw [if_neg (fun q => h q.2)]
theorem cs_yes {B Hd : Nat → Int32} {set facts : Int32} {a : Nat} (ha : a < 32) (h : ¬ (set >>> (nI a &&& 31)) &&& 1 = 0) (h2 : B a &&& (facts ^^^ (-1)) = 0) : cs_ B Hd set facts (a + 1) = cs_ B Hd set facts a ||| ((1 : Int32) <<< (Hd a &&& 31)) := by
  show (if bt set a = true ∧ B a &&& (facts ^^^ (-1)) = 0 then _ else _) = _
  rw [if_pos ⟨Classical.byContradiction fun q => h ((b_ask0 ha set).mpr (by simpa using q)), h2⟩]
/-- how many words the sets of n axioms fill -/
def nwd_ (n : Nat) : Nat := if n ≤ 6 then 1 else 2 ^ (n - 6)
theorem nwd_lt : ∀ n, n ≤ 14 → nwd_ n ≤ 256 ∧ 1 ≤ nwd_ n ∧ 2 ^ n ≤ nwd_ n * 64 := by decide +kernel
theorem nwd_lo {n : Nat} (h : n ≤ 6) : nI 1 = nI (nwd_ n) := by unfold nwd_; rw [if_pos h]
theorem nwd_hi' : ∀ n, n ≤ 14 → 6 < n → (1 : Int32) <<< ((nI n - 6) &&& 31) = nI (nwd_ n) := by decide +kernel
/-- axiom a of set w * 64 + j, j from 0 to 63, as a word -/
def sw_is (a w : Nat) (r : Int64) : Prop := ∀ j, j < 64 → bl r j = (w * 64 + j).testBit a
theorem sw_lo {a w : Nat} (ha : a < 6) : sw_is a w (pw_ a) := fun j hj => by rw [pw_bit a ha j hj, tb_wj hj, if_pos ha]
theorem sw_ask {a w : Nat} (ha : ¬ a < 6) (ha2 : a < 14) : nI w >>> (nI (a - 6) &&& 31) &&& 1 = if w.testBit (a - 6) then 1 else 0 := by
  rw [b_ask (by omega), b_nI (by omega)]
theorem sw_hi0 {a w : Nat} (ha : ¬ a < 6) (ha2 : a < 14) (h : nI w >>> (nI (a - 6) &&& 31) &&& 1 = 0) : sw_is a w 0 := fun j hj => by
  rw [l_0, tb_wj hj, if_neg ha]
  rw [sw_ask ha ha2] at h
  cases hb : w.testBit (a - 6)
  · rfl
  · rw [hb] at h; exact absurd h (by decide)
theorem sw_hi1 {a w : Nat} (ha : ¬ a < 6) (ha2 : a < 14) (h : ¬ nI w >>> (nI (a - 6) &&& 31) &&& 1 = 0) : sw_is a w (-1) := fun j hj => by
  rw [l_m1 j hj, tb_wj hj, if_neg ha]
  rw [sw_ask ha ha2] at h
  cases hb : w.testBit (a - 6)
  · rw [hb] at h; exact absurd rfl h
  · rfl
theorem isF_neg {x : Int32} (h : x < 0) : has_is 24 x 0 := Or.inr ⟨rfl, fun j hj e => nI_pos (n := j) (by omega) (e ▸ h)⟩
theorem isF_big {x : Int32} (h : nI 24 ≤ x) : has_is 24 x 0 := Or.inr ⟨rfl, fun j hj e => nI_ge (a := j) (b := 24) hj (by omega) (e ▸ h)⟩
theorem isF_in {x : Int32} (h1 : ¬ x < 0) (h2 : ¬ nI 24 ≤ x) : has_is 24 x 1 := by
  obtain ⟨j, hj, e, -⟩ := pk_mu h1 h2 (by omega)
  exact Or.inl ⟨rfl, j, hj, e⟩
/-! setsGivingAll: k of the facts have been looked at -/
def gp_is (G : Nat → Int64) (f : Int32) (among : Int64) (k : Nat) (s6 : Int32) (s4 : Int64) : Prop := uI_ s6 < 2147483648 ∧ on_ (bt s6) 0 32 = (on_ (bt f) 0 32).drop k ∧ ∀ j, j < 64 → (bl s4 j = true ↔ bl among j = true ∧ ∀ g ∈ (on_ (bt f) 0 32).take k, bl (G g) j = true)
theorem gp_0 {G : Nat → Int64} {f : Int32} {among : Int64} (hf : uI_ f < 16777216) : gp_is G f among 0 f among := ⟨by omega, rfl, fun j _ => ⟨fun h => ⟨h, fun g hg => by cases hg⟩, fun h => h.1⟩⟩
theorem gp_len (f : Int32) : bc_ f = nI (on_ (bt f) 0 32).length := by
  rw [bc_u, ← pcF_on]
  rfl
theorem gp_32 (f : Int32) : (on_ (bt f) 0 32).length ≤ 32 := on_len _ 32 0
theorem gp_step {G : Nat → Int64} {f : Int32} {among : Int64} {k : Nat} {s6 : Int32} {s4 : Int64} (hf : uI_ f < 16777216) (h : gp_is G f among k s6 s4) (hk : k < (on_ (bt f) 0 32).length) : ∃ p, p < 24 ∧ lc_ ((Int32.toInt64 s6 &&& (-Int32.toInt64 s6)) - 1) = nI p ∧ gp_is G f among (k + 1) (s6 &&& (s6 - 1)) (s4 &&& G p) := by
  obtain ⟨h1, h2, h3⟩ := h
  have hd := List.drop_eq_getElem_cons hk
  rw [hd] at h2
  obtain ⟨g1, g2, g3, g4, g5⟩ := low_onI h1 h2
  generalize hp : (on_ (bt f) 0 32)[k] = p at *
  have hm : p ∈ on_ (bt f) 0 32 := by rw [← hp]; exact List.getElem_mem hk
  obtain ⟨-, -, hb⟩ := (on_mem 32 0).mp hm
  have hp24 : p < 24 := by
    refine Classical.byContradiction fun q => ?_
    have : bt f p = false := by
      rw [uI_bt]
      exact Nat.testBit_lt_two_pow (Nat.lt_of_lt_of_le hf (show 16777216 ≤ 2 ^ p from Nat.pow_le_pow_right (n := 2) (i := 24) (j := p) (by omega) (by omega)))
    rw [this] at hb
    cases hb
  refine ⟨p, hp24, g3, g5, g4, fun j hj => ?_⟩
  rw [l_and, Bool.and_eq_true, h3 j hj, List.take_succ_eq_append_getElem hk, hp]
  constructor
  · rintro ⟨⟨a1, a2⟩, a3⟩
    refine ⟨a1, fun g hg => ?_⟩
    rcases List.mem_append.mp hg with q | q
    · exact a2 g q
    · rw [List.mem_singleton.mp q]; exact a3
  · rintro ⟨a1, a2⟩
    exact ⟨⟨a1, fun g hg => a2 g (List.mem_append_left _ hg)⟩, a2 p (List.mem_append_right _ (List.mem_singleton.mpr rfl))⟩
theorem gp_all {f : Int32} {Q : Nat → Prop} : (∀ g ∈ on_ (bt f) 0 32, Q g) ↔ ∀ g, bt f g = true → Q g := by
  constructor
  · intro h g hg
    refine h g ((on_mem 32 0).mpr ⟨Nat.zero_le _, Classical.byContradiction fun q => ?_, hg⟩)
    rw [b_big (by omega)] at hg
    cases hg
  · intro h g hg
    exact h g ((on_mem 32 0).mp hg).2.2
theorem gp_end {G : Nat → Int64} {f : Int32} {among : Int64} {k : Nat} {s6 : Int32} {s4 : Int64} (h : gp_is G f among k s6 s4) (hk : (on_ (bt f) 0 32).length ≤ k) : ga_is G f among s4 := by
  obtain ⟨-, -, h3⟩ := h
  intro j hj
  rw [h3 j hj, List.take_of_length_le hk, gp_all]
theorem gp_zero {G : Nat → Int64} {f : Int32} {among : Int64} {k : Nat} {s6 : Int32} {s4 : Int64} (h : gp_is G f among k s6 s4) (h0 : s4 = 0) : ga_is G f among s4 := by
  obtain ⟨-, -, h3⟩ := h
  intro j hj
  constructor
  · intro hb
    rw [h0, l_0] at hb
    cases hb
  · rintro ⟨a1, a2⟩
    rw [h3 j hj]
    exact ⟨a1, fun g hg => a2 g ((on_mem 32 0).mp (List.mem_of_mem_take hg)).2.2⟩
/-! ===== arrays count only as far as they go ===== -/
theorem cell_eqL {cA : ClassId} {N : Nat} {f f' : Nat → Int64} (h : ∀ j, j < N → f j = f' j) : vp_cell cA (N, .inr (.inl f)) = vp_cell cA (N, .inr (.inl f')) := by
  rw [vp_cell_l, vp_cell_l]
  unfold arrV
  congr 1
  congr 1
  funext j
  show Value.long (f j.val) = Value.long (f' j.val)
  rw [h j.val j.isLt]
theorem cell_eqI {cA : ClassId} {N : Nat} {f f' : Nat → Int32} (h : ∀ j, j < N → f j = f' j) : vp_cell cA (N, .inl f) = vp_cell cA (N, .inl f') := by
  rw [vp_cell_i, vp_cell_i]
  unfold arrV
  congr 1
  congr 1
  funext j
  show Value.int (f j.val) = Value.int (f' j.val)
  rw [h j.val j.isLt]
theorem P_eqL {D : va_G} {cl : List vw_C} {ws : va_W} {H : Heap} {q N : Nat} {cA : ClassId} {f f' : Nat → Int64} (k : Nat) (hP : va_P D cl ws H) (hk : ws[k]? = some (q, .inl (cA, N, .inr (.inl f)))) (h : ∀ j, j < N → f j = f' j) : va_P D cl (ws.set k (q, .inl (cA, N, .inr (.inl f')))) H := by
  intro i x hx
  by_cases e : i = k
  · subst e
    have hl : i < ws.length := (List.getElem?_eq_some_iff.mp hk).1
    rw [List.getElem?_set_self hl] at hx
    cases hx
    show H[q]? = some (vp_cell _ _)
    rw [← cell_eqL h]
    exact hP i _ hk
  · rw [List.getElem?_set_ne (fun z => e z.symm)] at hx
    exact hP i x hx
theorem P_eqI {D : va_G} {cl : List vw_C} {ws : va_W} {H : Heap} {q N : Nat} {cA : ClassId} {f f' : Nat → Int32} (k : Nat) (hP : va_P D cl ws H) (hk : ws[k]? = some (q, .inl (cA, N, .inl f))) (h : ∀ j, j < N → f j = f' j) : va_P D cl (ws.set k (q, .inl (cA, N, .inl f'))) H := by
  intro i x hx
  by_cases e : i = k
  · subst e
    have hl : i < ws.length := (List.getElem?_eq_some_iff.mp hk).1
    rw [List.getElem?_set_self hl] at hx
    cases hx
    show H[q]? = some (vp_cell _ _)
    rw [← cell_eqI h]
    exact hP i _ hk
  · rw [List.getElem?_set_ne (fun z => e z.symm)] at hx
    exact hP i x hx
theorem mc_of {n : Nat} {B Hd : Nat → Int32} {U : Nat → Int64} {g v j : Nat} (hU : ∀ b, b < n → sw_is b v (U b)) (hj : j < 64) : dj_ n B Hd U j n g ↔ mc_ n B Hd g (v * 64 + j) :=
  ⟨dr_congr (fun a ha h => by rw [← hU a ha j hj]; exact h) n g, dr_congr (fun a ha h => by rw [hU a ha j hj]; exact h) n g⟩
/-- the sets of word v that leave axiom a -/
def sv_is (Fx : Nat → Int32) (a v : Nat) (r : Int64) : Prop := ∀ j, j < 64 → (bl r j = true ↔ ¬ Fx a = 0 ∨ (v * 64 + j).testBit a = false)
theorem sv_fix {Fx : Nat → Int32} {a v : Nat} (h : ¬ Fx a = 0) : sv_is Fx a v (-1) := fun j hj => ⟨fun _ => Or.inl h, fun _ => l_m1 j hj⟩
theorem sv_not {Fx : Nat → Int32} {a v : Nat} {r : Int64} (h : Fx a = 0) (hr : sw_is a v r) : sv_is Fx a v (r ^^^ (-1)) := fun j hj => by
  rw [l_not r hj, hr j hj]
  cases (v * 64 + j).testBit a <;> simp [h]
theorem mq_of {n : Nat} {B Hd Fx : Nat → Int32} {U : Nat → Int64} {g v j : Nat} (hU : ∀ b, b < n → sv_is Fx b v (U b)) (hj : j < 64) : dj_ n B Hd U j n g ↔ ¬ mq_ n B Hd Fx g (v * 64 + j) := by
  unfold mq_
  rw [Classical.not_not]
  exact ⟨dr_congr (fun a ha h => (hU a ha j hj).mp h) n g, dr_congr (fun a ha h => (hU a ha j hj).mpr h) n g⟩
theorem up_lt {α : Type} {P : Nat → α → Prop} {f : Nat → α} {a : Nat} {x : α} {g : Nat → α} (hg : g = fun j => if j = a then x else f j) (h : ∀ b, b < a → P b (f b)) (hx : P a x) : ∀ b, b < a + 1 → P b (g b) := by
  intro b hb
  rw [hg]
  by_cases e : b = a
  · subst e; simp only [if_true]; exact hx
  · simp only [if_neg e]; exact h b (by omega)
/-- the arrays without place j -/
def sh_ (f : Nat → Int32) (j n : Nat) : Nat → Int32 := fun a => if j ≤ a ∧ a + 1 < n then f (a + 1) else f a
theorem sh_0 (f : Nat → Int32) (j : Nat) : sh_ f j (j + 1) = f := by
  funext a
  unfold sh_
  rw [if_neg (by omega)]
theorem sh_at (f : Nat → Int32) {j a : Nat} (h : j ≤ a) : sh_ f j (a + 1) (a + 1) = f (a + 1) := by
  unfold sh_
  rw [if_neg (by omega)]
theorem sh_next {f : Nat → Int32} {j a : Nat} (h : j ≤ a) : upd (sh_ f j (a + 1)) a (sh_ f j (a + 1) (a + 1)) = sh_ f j (a + 1 + 1) := by
  funext b
  rw [sh_at f h]
  unfold upd sh_
  by_cases e : b = a
  · subst e
    rw [if_pos rfl, if_pos (by omega)]
  · rw [if_neg e]
    by_cases q : j ≤ b ∧ b + 1 < a + 1
    · rw [if_pos q, if_pos (by omega)]
    · rw [if_neg q, if_neg (by omega)]
theorem has_yes {n j : Nat} {r : Int32} (hj : j < n) (hn : n < 2147483648) (h : has_is n (nI j) r) : r = 1 := by
  rcases h with ⟨h, -⟩ | ⟨-, h⟩
  · exact h
  · exact absurd rfl (h j hj)
