/-! ===== what a constant names ===== -/
/-- the constant idx of class own names field k of class ci -/
def wF (own : String) (idx ci k : Nat) : Prop := ∃ (C : String) (T : u_T) (N : Nat), vwCl[ci]? = some (C, T, N) ∧ k < N ∧ Cond.fieldLink own idx (T k).1 (T k).2.1 (T k).2.2.1 ∈ wAll ∧ ∀ w ∈ u_ws C T N, w ∈ wAll
/-- the same, and what may be put there -/
def wFP (own : String) (idx ci k : Nat) (fin : Bool) (ty : FieldType) : Prop := ∃ (C : String) (T : u_T) (N : Nat) (tys : Nat → FieldType), vwCl[ci]? = some (C, T, N) ∧ k < N ∧ Cond.fieldLink own idx (T k).1 (T k).2.1 (T k).2.2.1 ∈ wAll ∧ (∀ w ∈ u_ws C T N, w ∈ wAll) ∧ (T k).2.2.2 = fin ∧ tys k = ty ∧ (∀ k, k < N → parseFieldDescriptor (T k).2.2.1 = some (tys k)) ∧ (∀ a, a < N → ∀ b, b < N → a ≠ b → (T a).2.1 ≠ (T b).2.1) ∧ (fin = true → (T k).1 = own)
def wNew (own : String) (idx ci N : Nat) (fs : List Value) : Prop := ∃ (C : String) (T : u_T) (tys : Nat → FieldType), vwCl[ci]? = some (C, T, N) ∧ Cond.classLink own idx C ∈ wAll ∧ Cond.instantiable C N ∈ wAll ∧ Cond.initialized C ∈ wAll ∧ (∀ w ∈ u_ws C T N, w ∈ wAll) ∧ (∀ k, k < N → parseFieldDescriptor (T k).2.2.1 = some (tys k)) ∧ ∀ j, j < N → defaultValue (tys j) = vp_V fs j
/-- what every call's link says: the constant idx of class own names y, whose code is cc -/
def wLB (y : MethodName) (cc : ByteArray) (ml : Nat) (rt : Option FieldType) (na : Nat) : Prop := Cond.initialized y.cls ∈ wAll ∧ Cond.code y cc ml rt ∈ wAll ∧ y.cls ≠ "java/lang/invoke/MethodHandle" ∧ y.cls ≠ "java/lang/invoke/VarHandle" ∧ (parseMethodDescriptor y.desc).map (fun d => d.parameters.length) = some na ∧ ml ≤ 19 ∧ plainName y.cls = true
def wLV (y : MethodName) : Prop := Cond.instanceMethod y ∈ wAll ∧ Cond.selects y.cls y y ∈ wAll
def wLS (y : MethodName) : Prop := Cond.static y ∈ wAll
def wLI (y : MethodName) : Prop := y.name = "<init>" ∧ Cond.instanceMethod y ∈ wAll
def wLk (own : String) (idx : Nat) (y : MethodName) : Prop := Cond.methodLink own idx y ∈ wAll
def wLN (own : String) (idx : Nat) (y : MethodName) : Prop := ∃ host : String, (own, idx, y, host) ∈ wNM
