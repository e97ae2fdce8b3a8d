/-! ===== one class a kind of array ===== -/
theorem K_same {D : va_G} {cl : List vw_C} {tys : List (ClassId × FieldType)} {s : State} {cA cB : ClassId} {ty : FieldType} (h : va_K D cl (tys ++ [(cA, ty)]) s) (k : Nat) (hk : tys[k]? = some (cB, ty)) (hty : ty = .int ∨ ty = .boolean ∨ ty = .long) : cA = cB ∧ va_K D cl tys s := by
  have h1 := (h.2 tys.length (cA, ty) (by simp)).2
  have hl : k < tys.length := (List.getElem?_eq_some_iff.mp hk).1
  have h2 := (h.2 k (cB, ty) (by rw [List.getElem?_append_left hl]; exact hk)).2
  refine ⟨?_, h.1, fun j q hj => h.2 j q (by rw [List.getElem?_append_left (List.getElem?_eq_some_iff.mp hj).1]; exact hj)⟩
  rcases hty with rfl | rfl | rfl
  · exact Option.some.inj ((va_nm_int h1).symm.trans (va_nm_int h2))
  · exact Option.some.inj ((va_nm_boolean h1).symm.trans (va_nm_boolean h2))
  · exact Option.some.inj ((va_nm_long h1).symm.trans (va_nm_long h2))
