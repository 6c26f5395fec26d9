-- ===== WORDS: one list for all methods =====
def sp_T : List Cond := lw_tbl.filter goodWord
theorem sp_T_good {w : Cond} (h : w ∈ sp_T) : goodWord w = true := (List.mem_filter.mp h).2
theorem sp_T_in {w : Cond} (i : Nat) (h : lw_tbl[i]? = some w) (hg : goodWord w = true) : w ∈ sp_T := List.mem_filter.mpr ⟨List.mem_of_getElem? h, hg⟩
theorem sp_T_sub {ws : List Cond} (h : ws.all (fun w => decide (w ∈ lw_tbl) && goodWord w) = true) : ∀ w ∈ ws, w ∈ sp_T := by
  intro w hw
  have h1 := List.all_eq_true.mp h w hw
  simp only [Bool.and_eq_true, decide_eq_true_eq] at h1
  exact List.mem_filter.mpr h1
theorem sp_G {c : Cond} {ws : List Cond} (h : ∀ w ∈ ws, w ∈ sp_T) : GoodIn (c :: sp_T) ws := fun w hw => ⟨List.mem_cons_of_mem _ (h w hw), good_of_word (sp_T_good (h w hw))⟩
theorem sp_GT {ws : List Cond} (h : ∀ w ∈ ws, w ∈ sp_T) : GoodIn sp_T ws := fun w hw => ⟨h w hw, good_of_word (sp_T_good (h w hw))⟩
def sp_F (own : String) (idx ci k nf : Nat) : Prop := ∃ (C : String) (T : u_T), vwCl[ci]? = some (C, T, nf) ∧ (∀ w ∈ u_ws C T nf, w ∈ sp_T) ∧ k < nf ∧ Cond.fieldLink own idx (T k).1 (T k).2.1 (T k).2.2.1 ∈ sp_T
/-- the same, for a field that is written -/
def sp_FP (own : String) (idx ci k nf : Nat) (ty : FieldType) : Prop := ∃ (C : String) (T : u_T) (ty0 : Nat → FieldType), vwCl[ci]? = some (C, T, nf) ∧ (∀ w ∈ u_ws C T nf, w ∈ sp_T) ∧ k < nf ∧ Cond.fieldLink own idx (T k).1 (T k).2.1 (T k).2.2.1 ∈ sp_T ∧ (∀ j, j < nf → parseFieldDescriptor (T j).2.2.1 = some (ty0 j)) ∧ (∀ a, a < nf → ∀ b, b < nf → a ≠ b → (T a).2.1 ≠ (T b).2.1) ∧ (T k).2.2.2 = false ∧ parseFieldDescriptor (T k).2.2.1 = some ty
/-- which words a call needs: an instance method of class C / a static one -/
def sp_wV (own : String) (i : Nat) (C : String) (y : MethodName) (cy : ByteArray) (nY : Nat) (ret : Option FieldType) (n : Nat) : Prop := (Cond.methodLink own i y ∈ sp_T ∧ Cond.instanceMethod y ∈ sp_T ∧ Cond.selects C y y ∈ sp_T ∧ Cond.initialized C ∈ sp_T ∧ Cond.code y cy nY ret ∈ sp_T) ∧ y.cls = C ∧ y.cls ≠ "java/lang/invoke/MethodHandle" ∧ y.cls ≠ "java/lang/invoke/VarHandle" ∧ (parseMethodDescriptor y.desc).map (fun d => d.parameters.length) = some n
def sp_wS (own : String) (i : Nat) (y : MethodName) (cy : ByteArray) (nY : Nat) (ret : Option FieldType) (n : Nat) : Prop := (Cond.methodLink own i y ∈ sp_T ∧ Cond.static y ∈ sp_T ∧ Cond.initialized y.cls ∈ sp_T ∧ Cond.code y cy nY ret ∈ sp_T) ∧ y.cls ≠ "java/lang/invoke/MethodHandle" ∧ y.cls ≠ "java/lang/invoke/VarHandle" ∧ (parseMethodDescriptor y.desc).map (fun d => d.parameters.length) = some n
