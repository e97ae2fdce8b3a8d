/-! ===== a throw of one's own ===== -/
def upN_ : List String := ["java/lang/IndexOutOfBoundsException", "java/lang/RuntimeException", "java/lang/Exception"]
def isRf_ : Cond → Bool
  | .isRef _ => true
  | _ => false
def thA_ : List Cond := (Bundle.ownAtoms "LeastSets" 116 "java/lang/ArrayIndexOutOfBoundsException" upN_).filter (fun c => !isRf_ c)
theorem thA_in : ∀ w ∈ thA_, w ∈ lw_tbl := by decide +kernel
theorem thA_good : GoodIn lw_tbl thA_ := goodIn_sub thA_in (by decide +kernel)
def wsX3_factT : List Cond := wsX3_fact ++ thA_
theorem thR_ : ∀ w ∈ Bundle.ownAtoms "LeastSets" 116 "java/lang/ArrayIndexOutOfBoundsException" upN_, w ∈ thA_ ∨ w = .isRef (.static "java/lang/Throwable" "UNASSIGNED_STACK" "[Ljava/lang/StackTraceElement;") ∨ w = .isRef (.static "java/lang/Throwable" "SUPPRESSED_SENTINEL" "Ljava/util/List;") := by decide +kernel
def TH_ (A : Nat → Prop) (sa : Nat) (U : State) : Prop := va_Zq "java/lang/Throwable" "UNASSIGNED_STACK" "[Ljava/lang/StackTraceElement;" A U U.heap ∧ va_Zq "java/lang/Throwable" "SUPPRESSED_SENTINEL" "Ljava/util/List;" A U U.heap ∧ vk_R "LeastSets" 114 "so many facts do not follow" sa U
theorem TH_.go {A B : Nat → Prop} {sa : Nat} {s U : State} {H : Heap} {locs : List Loc} (h : TH_ A sa s) (hS : va_S A s.heap H locs) (hAB : ∀ q, B q → A q) (hU : U.heap = H) (hW : s.WarmedH U.vm) : TH_ B sa U := by
  obtain ⟨h1, h2, h3⟩ := h
  have k : ∀ a : Nat, a < s.heap.size → ¬ A a → U.heap[a]? = s.heap[a]? := fun a ha hn => by rw [hU]; exact hS.2.1 a ha hn
  exact ⟨((h1.kept k).moved hW.alike).narrow hAB, ((h2.kept k).moved hW.alike).narrow hAB, h3.warm hW⟩
theorem TH_.calling {A : Nat → Prop} {sa : Nat} {U : State} {a : Array Value} {g : JFrame} {mk : MethodId} (h : TH_ A sa U) : TH_ A sa (U.calling g mk a) := by
  obtain ⟨h1, h2, h3⟩ := h
  exact ⟨va_Zq.moved (u := U) (U := U.calling g mk a) (Vm.Alike.refl U.vm) h1, va_Zq.moved (u := U) (U := U.calling g mk a) (Vm.Alike.refl U.vm) h2, vk_R.same (u := U) (U := U.calling g mk a) rfl h3⟩
theorem Zq_ref {C n d : String} {A : Nat → Prop} {s : State} {args : Array Value} (h : va_Zq C n d A s s.heap) : (Cond.isRef (.static C n d)).before args s = true := by
  rcases h with ⟨cf, kf, fi, f, a, cell, h1, h2, h3, h4, h5, h6, h7, -⟩ | ⟨t, cf, kf, fi, f, a, cell, h1, h2, h3, h4, h5, h6, h7, -⟩
  · sorry
  · sorry
/-! ===== contracts of methods that may throw ===== -/
def QT_ (mc ms : Nat) (Qr : State → Int32 → State → Prop) (Qt : State → Addr → State → Prop) : Array Value → State → Outcome → State → Prop := fun _ st o t =>
  (∃ r, o = .returned (some (.int r)) ∧ Qr st r t ∧ FrameEnd st o t [] mc ms) ∨ (∃ x, o = .threw x ∧ Qt st x t ∧ st.WarmedH t.vm ∧ st.sameButNew ({ t with vm := st.vm } : State) [] mc ms)
theorem W_mono {p : Program} {l : Launch} {e : Env} {R : Room} {s : State} {m : MethodId} {args : Array Value} {below : List Frame} {meth : Method} {c : Code} {H : Heap} {locs : List Loc} {cells slots : Nat} {Q Q' : State → Prop} {g : JFrame} (h : ∀ t, Q t → Q' t) (k : W p l e R s m args below meth c H locs cells slots Q g) : W p l e R s m args below meth c H locs cells slots Q' g := fun T hT X => by
  obtain ⟨t, a, b⟩ := k T hT X
  exact ⟨t, a, h t b⟩
theorem MetT_ofW {l : Launch} {y : MethodName} {ws ws' : List Cond} {rm : Room} {Pc : Array Value → State → Prop} {Q : Array Value → State → Outcome → State → Prop} {cc : ByteArray} {maxL : Nat} {ret : Option FieldType}
    (hy : plainName y.cls = true) (hw : ws = Cond.code y cc maxL ret :: ws')
    (body : ∀ p e s m args below meth c s₁, BodyLoose p l y (headSpec ws rm) cc maxL ret e s m args below meth c s₁ → c.maxLocals = maxL → Pc args s →
      W p l e (headSpec ws rm).room s m args below meth c s.heap [] 0 0 (fun t => ∃ o, t.status = .running ∧ Ended t below o ∧ Q args s o t) (entryFrame m args maxL)) : MetFree l y (headSpec ws rm) Pc (fun _ _ _ _ _ => True) Q := by
  refine MetFree.of_bodyS (code := cc) (maxLocals := maxL) (ret := ret) hy ?_ ?_
  · intro args s m h hn
    obtain ⟨meth, c, h1, h2, h3, h4, h5, h6, -, -⟩ := Cond.code_spec hn (atoms_spec (ws := ws) h _ (by rw [hw]; exact List.mem_cons_self))
    exact ⟨meth, c, h1, h2, h3, h4, h5, h6⟩
  · intro p e s m args below meth c s₁ B hml hP _
    have hh0 : s₁.heap = s.heap := by rw [B.state]; rfl
    obtain ⟨t, a1, o, b1, b2, b3⟩ := body p e s m args below meth c s₁ B hml hP s₁ hh0 (Stand.of_body B)
    exact ⟨t, o, a1, b1, b2, b3⟩
theorem same_cells {s t : State} {mc ms : Nat} (h : s.sameButNew t [] mc ms) : ∀ q : Nat, q < s.heap.size → t.heap[q]? = s.heap[q]? := by
  intro q hq
  have e : s.heap[q]? = some s.heap[q] := Array.getElem?_eq_getElem hq
  obtain ⟨c', h1, h2, h3, h4⟩ := h.2.2.2.2.2 q _ e
  rw [h1, e]
  congr 1
  have : c'.slots = (s.heap[q]).slots := Array.ext_getElem? (fun i => h4 i (by simp))
  rw [h2, this]
