/-! ===== a throw of one's own ===== -/
def upN_ : List String := ["java/lang/IndexOutOfBoundsException", "java/lang/RuntimeException", "java/lang/Exception"]
def isRf_ : Cond → Bool
  | .isRef _ => true
  | .laysStatic _ _ _ => true
  | .castable _ _ => true
  | .declares _ => true
  | _ => false
def thA_ : List Cond := (Bundle.ownAtoms "LeastSets" 116 "java/lang/ArrayIndexOutOfBoundsException" upN_).filter (fun c => !isRf_ c)
theorem thA_in : ∀ w ∈ thA_, w ∈ lw_tbl := by decide +kernel
theorem thA_good : GoodIn lw_tbl thA_ := goodIn_sub thA_in (by decide +kernel)
def isKf_ : Cond → Bool
  | .castable _ _ => true
  | .declares _ => true
  | _ => false
def thB_ : List Cond := (Bundle.ownAtoms "LeastSets" 116 "java/lang/ArrayIndexOutOfBoundsException" upN_).filter isKf_
theorem thB_in : ∀ w ∈ thB_, w ∈ lw_tbl := by decide +kernel
theorem thB_kf : ∀ w ∈ thB_, w.onTables = true ∧ w.keepsFace = true := by decide +kernel
def wsX3_factT : List Cond := wsX3_fact ++ thA_
theorem thR_ : ∀ w ∈ Bundle.ownAtoms "LeastSets" 116 "java/lang/ArrayIndexOutOfBoundsException" upN_, w ∈ thA_ ∨ w = .isRef (.static "java/lang/Throwable" "UNASSIGNED_STACK" "[Ljava/lang/StackTraceElement;") ∨ w = .isRef (.static "java/lang/Throwable" "SUPPRESSED_SENTINEL" "Ljava/util/List;") ∨ w = .laysStatic "java/lang/Throwable" "UNASSIGNED_STACK" "[Ljava/lang/StackTraceElement;" ∨ w = .laysStatic "java/lang/Throwable" "SUPPRESSED_SENTINEL" "Ljava/util/List;" ∨ w ∈ thB_ := by decide +kernel
/-- a static that holds a reference or null, with all that laysStatic says of it -/
def zs_ (C n d : String) (A : Nat → Prop) (U : State) : Prop := ∃ (c : ClassId) (k : Class) (i : Nat) (f : Field) (a : Nat) (cell : Cell), U.vm.findClass C = some c ∧ U.fieldFound? C n d = some (c, k, i, f) ∧ f.isStatic = true ∧ k.statics = some a ∧ U.heap[a]? = some cell ∧ cell.vm.isStatics = true ∧ cell.cls = c ∧ f.slot < cell.slots.size ∧ k.staticTypes[f.slot]? = some f.type ∧ (cell.slots[f.slot]? = some .null ∨ ∃ t : Nat, cell.slots[f.slot]? = some (.ref t)) ∧ ¬ A a
theorem zs_.go {C n d : String} {A B : Nat → Prop} {s U : State} (h : zs_ C n d A s) (hk : ∀ a : Nat, a < s.heap.size → ¬ A a → U.heap[a]? = s.heap[a]?) (hv : s.vm.Alike U.vm) (hAB : ∀ q, B q → A q) : zs_ C n d B U := by
  obtain ⟨c, k, i, f, a, cell, h0, h1, h2, h3, h4, h5, h6, h7, h8, h9, h10⟩ := h
  obtain ⟨k', hi', he⟩ := State.fieldFound?_setVm hv h1
  refine ⟨c, k', i, f, a, cell, ?_, hi', h2, by rw [he]; exact h3, ?_, h5, h6, h7, by rw [he]; exact h8, h9, fun z => h10 (hAB a z)⟩
  · rw [hv.findClass]; exact h0
  · rw [hk a (Array.getElem?_eq_some_iff.mp h4).1 h10]; exact h4
theorem zs_of {args : Array Value} {s : State} {C n d : String} {A : Nat → Prop} (hl : (Cond.laysStatic C n d).before args s = true) (h : (Cond.isRef (.static C n d)).before args s = true) (hA : ∀ a : Nat, a < s.heap.size → ¬ A a) : zs_ C n d A s := by
  obtain ⟨c, k, i, f, a, cell, hc, hi, hst, ha, hcell, hs, hcls, hlt, hty⟩ := Cond.laysStatic_spec hl
  refine ⟨c, k, i, f, a, cell, hc, hi, hst, ha, hcell, hs, hcls, hlt, hty, ?_, hA a (Array.getElem?_eq_some_iff.mp hcell).1⟩
  obtain ⟨u, hu⟩ := Cond.staticRefV hi hst ha hcell hs h
  obtain ⟨v, hv⟩ := u
  cases v with
  | null => exact Or.inl hu
  | ref t => exact Or.inr ⟨t, hu⟩
  | _ => simp [Value.isRef] at hv
theorem zs_.lays {C n d : String} {A : Nat → Prop} {s : State} {args : Array Value} (h : zs_ C n d A s) : (Cond.laysStatic C n d).before args s = true := by
  obtain ⟨c, k, i, f, a, cell, h0, h1, h2, h3, h4, h5, h6, h7, h8, h9, h10⟩ := h
  simp [Cond.before, Cond.holds, Cond.value, h0, h1, h2, h3, h4, h5, h6, h7, h8]
theorem zs_.ref {C n d : String} {A : Nat → Prop} {s : State} {args : Array Value} (h : zs_ C n d A s) : (Cond.isRef (.static C n d)).before args s = true := by
  obtain ⟨c, k, i, f, a, cell, h0, h1, h2, h3, h4, h5, h6, h7, h8, h9, h10⟩ := h
  rcases h9 with h9 | ⟨t, h9⟩
  · have e := Term.static_eval (args := args) (first := s) (o := none) (idx := []) h1 h2 h3 h4 h5 h9
    simp [Cond.before, Cond.holds, Cond.value, e]
  · have e := Term.static_eval (args := args) (first := s) (o := none) (idx := []) h1 h2 h3 h4 h5 h9
    simp [Cond.before, Cond.holds, Cond.value, e]
theorem kf_any {w : Cond} (hw : w.onTables = true) {a a' : Array Value} {U U' : State} (h : U'.vm = U.vm) : w.before a U = w.before a' U' := by
  have e := Cond.onTables_vm (A := a) (A' := a') (U := U) (U' := U') U.vm w hw
  rw [show U.setVm U.vm = U from rfl, show U'.setVm U.vm = U' from by rw [← h]; rfl] at e
  exact e
theorem kf_warm {w : Cond} (h1 : w.onTables = true) (h2 : w.keepsFace = true) {a a' : Array Value} {s U : State} (hW : s.WarmedH U.vm) (h : w.before a s = true) : w.before a' U = true := by
  rw [kf_any h1 (a := a') (a' := a) (U := U) (U' := s.setVm U.vm) rfl]
  exact Cond.rides hW.wide h2 h
def TH_ (A : Nat → Prop) (sa : Nat) (U : State) : Prop := zs_ "java/lang/Throwable" "UNASSIGNED_STACK" "[Ljava/lang/StackTraceElement;" A U ∧ zs_ "java/lang/Throwable" "SUPPRESSED_SENTINEL" "Ljava/util/List;" A U ∧ vk_R "LeastSets" 114 "so many facts do not follow" sa U ∧ (∀ w ∈ thB_, w.before #[] U = true)
theorem TH_.go {A B : Nat → Prop} {sa : Nat} {s U : State} {H : Heap} {locs : List Loc} (h : TH_ A sa s) (hS : va_S A s.heap H locs) (hAB : ∀ q, B q → A q) (hU : U.heap = H) (hW : s.WarmedH U.vm) : TH_ B sa U := by
  obtain ⟨h1, h2, h3, h4⟩ := h
  have k : ∀ a : Nat, a < s.heap.size → ¬ A a → U.heap[a]? = s.heap[a]? := fun a ha hn => by rw [hU]; exact hS.2.1 a ha hn
  exact ⟨h1.go k hW.alike hAB, h2.go k hW.alike hAB, h3.warm hW, fun w q => kf_warm (thB_kf w q).1 (thB_kf w q).2 hW (h4 w q)⟩
theorem TH_.calling {A : Nat → Prop} {sa : Nat} {U : State} {a : Array Value} {g : JFrame} {mk : MethodId} (h : TH_ A sa U) : TH_ A sa (U.calling g mk a) := by
  obtain ⟨h1, h2, h3, h4⟩ := h
  exact ⟨h1.go (fun _ _ _ => rfl) (Vm.Alike.refl U.vm) (fun _ q => q), h2.go (fun _ _ _ => rfl) (Vm.Alike.refl U.vm) (fun _ q => q), vk_R.same (u := U) (U := U.calling g mk a) rfl h3, fun w q => (kf_any (thB_kf w q).1 (a := #[]) (a' := #[]) (U := U.calling g mk a) (U' := U) rfl).trans (h4 w q)⟩
theorem TH_.words {A : Nat → Prop} {sa : Nat} {U : State} {args : Array Value} (h : TH_ A sa U) (hw : ∀ w ∈ thA_, w.before args U = true) : ∀ w ∈ Bundle.ownAtoms "LeastSets" 116 "java/lang/ArrayIndexOutOfBoundsException" upN_, w.before args U = true := by
  intro w h'
  rcases thR_ w h' with q | rfl | rfl | rfl | rfl | q
  · exact hw w q
  · exact h.1.ref
  · exact h.2.1.ref
  · exact h.1.lays
  · exact h.2.1.lays
  · rw [kf_any (thB_kf w q).1 (a' := #[]) (U' := U) rfl]; exact h.2.2.2 w q
/-! ===== contracts of methods that may throw ===== -/
def QT_ (mc ms : Nat) (Qr : State → Int32 → State → Prop) (Qt : State → Addr → State → Prop) : Array Value → State → Outcome → State → Prop := fun _ st o t =>
  (∃ r, o = .returned (some (.int r)) ∧ Qr st r t ∧ FrameEnd st o t [] mc ms) ∨ (∃ x, o = .threw x ∧ Qt st x t ∧ st.WarmedH t.vm ∧ st.sameButNew ({ t with vm := st.vm } : State) [] mc ms)
theorem W_mono {p : Program} {l : Launch} {e : Env} {R : Room} {s : State} {m : MethodId} {args : Array Value} {below : List Frame} {meth : Method} {c : Code} {H : Heap} {locs : List Loc} {cells slots : Nat} {Q Q' : State → Prop} {g : JFrame} (h : ∀ t, Q t → Q' t) (k : W p l e R s m args below meth c H locs cells slots Q g) : W p l e R s m args below meth c H locs cells slots Q' g := fun T hT X => by
  obtain ⟨t, a, b⟩ := k T hT X
  exact ⟨t, a, h t b⟩
theorem MetT_ofW {l : Launch} {y : MethodName} {ws ws' : List Cond} {rm : Room} {Pc : Array Value → State → Prop} {Q : Array Value → State → Outcome → State → Prop} {cc : ByteArray} {maxL : Nat} {ret : Option FieldType}
    (hy : plainName y.cls = true) (hw : ws = Cond.code y cc maxL ret :: ws')
    (body : ∀ p e s m args below meth c s₁, BodyLoose p l y (headSpec ws rm) cc maxL ret e s m args below meth c s₁ → c.maxLocals = maxL → Pc args s →
      W p l e (headSpec ws rm).room s m args below meth c s.heap [] 0 0 (fun t => ∃ o, t.status = .running ∧ Ended t below o ∧ Q args s o t) (entryFrame m args maxL)) : MetFree l y (headSpec ws rm) Pc (fun _ _ _ _ _ => True) Q := by
  refine MetFree.of_bodyS (code := cc) (maxLocals := maxL) (ret := ret) hy ?_ ?_
  · intro args s m h hn
    obtain ⟨meth, c, h1, h2, h3, h4, h5, h6, -, -⟩ := Cond.code_spec hn (atoms_spec (ws := ws) h _ (by rw [hw]; exact List.mem_cons_self))
    exact ⟨meth, c, h1, h2, h3, h4, h5, h6⟩
  · intro p e s m args below meth c s₁ B hml hP _
    have hh0 : s₁.heap = s.heap := by rw [B.state]; rfl
    obtain ⟨t, a1, o, b1, b2, b3⟩ := body p e s m args below meth c s₁ B hml hP s₁ hh0 (Stand.of_body B)
    exact ⟨t, o, a1, b1, b2, b3⟩
theorem same_cells {s t : State} {mc ms : Nat} (h : s.sameButNew t [] mc ms) : ∀ q : Nat, q < s.heap.size → t.heap[q]? = s.heap[q]? := by
  intro q hq
  have e : s.heap[q]? = some s.heap[q] := Array.getElem?_eq_getElem hq
  obtain ⟨c', h1, h2, h3, h4⟩ := h.2.2.2.2.2 q _ e
  rw [h1, e]
  congr 1
  have : c'.slots = (s.heap[q]).slots := Array.ext_getElem? (fun i => h4 i (by simp))
  rw [h2, this]
