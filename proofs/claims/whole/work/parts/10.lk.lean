/-- the words that a caller hands on -/
def lw_ok : List Cond := lw_tbl.filter goodWord
theorem okT {w : Cond} (i : Nat) (h : tables_1[i]? = some w) (hg : goodWord w = true) : w ∈ lw_ok := List.mem_filter.mpr ⟨List.mem_append_right _ (List.mem_of_getElem? h), hg⟩
theorem okS {w : Cond} (i : Nat) (h : (k2_sels lw_privs)[i]? = some w) (hg : goodWord w = true) : w ∈ lw_ok := List.mem_filter.mpr ⟨List.mem_append_left _ (List.mem_of_getElem? h), hg⟩
theorem ok_good {w : Cond} (h : w ∈ lw_ok) : goodWord w = true := (List.mem_filter.mp h).2
def mcl : List vw_C := [(RX0, TX0, 2), (RX1, TX1, 6), (RX2, TX2, 20), (RX3, TX3, 2), (RX4, TX4, 4), (RX5, TX5, 3), (RX6, TX6, 5), (RX7, TX7, 4), (RX8, TX8, 8), (RX9, TX9, 8), (RX10, TX10, 9), (RX11, TX11, 2), (RX12, TX12, 19), (RX13, TX13, 113)]
def nF (c : Nat) : Nat := ([2, 6, 20, 2, 4, 3, 5, 4, 8, 8, 9, 2, 19, 113] : List Nat).getD c 0
def mty (c : Nat) : Nat → FieldType := match c with
  | 0 => tyX0 | 1 => tyX1 | 2 => tyX2 | 3 => tyX3 | 4 => tyX4 | 5 => tyX5 | 6 => tyX6 | 7 => tyX7 | 8 => tyX8 | 9 => tyX9 | 10 => tyX10 | 11 => tyX11 | 12 => tyX12 | _ => tyX13
/-- kinds of arrays -/
def aty (t : Nat) : FieldType := match t with
  | 0 => .int | 1 => .long | 2 => .byte | 3 => .char | 4 => .boolean | 5 => .object "WildHunt$State" | _ => .array .int
/-- a field's link: by own's pool entry idx field k of class c -/
def LkF (own : String) (idx c k : Nat) (ty : FieldType) (fin : Bool) : Prop := ∃ (C : String) (T : u_T), mcl[c]? = some (C, T, nF c) ∧ k < nF c ∧ mty c k = ty ∧ (T k).2.2.2 = fin ∧ Cond.fieldLink own idx (T k).1 (T k).2.1 (T k).2.2.1 ∈ lw_ok ∧ (T k).1 = C
abbrev Mt : Type := MethodName × ByteArray × Nat × Option FieldType
def LkV (own : String) (idx : Nat) (y : Mt) (c n : Nat) : Prop := (Cond.methodLink own idx y.1 ∈ lw_ok ∧ Cond.instanceMethod y.1 ∈ lw_ok ∧ Cond.selects y.1.cls y.1 y.1 ∈ lw_ok ∧ Cond.initialized y.1.cls ∈ lw_ok ∧ Cond.code y.1 y.2.1 y.2.2.1 y.2.2.2 ∈ lw_ok) ∧ (∃ q : vw_C, mcl[c]? = some q ∧ q.1 = y.1.cls) ∧ (y.1.cls ≠ "java/lang/invoke/MethodHandle" ∧ y.1.cls ≠ "java/lang/invoke/VarHandle" ∧ (parseMethodDescriptor y.1.desc).map (fun d => d.parameters.length) = some n) ∧ y.2.2.1 ≤ 45
def LkS (own : String) (idx : Nat) (y : Mt) (n : Nat) : Prop := (Cond.methodLink own idx y.1 ∈ lw_ok ∧ Cond.static y.1 ∈ lw_ok ∧ Cond.initialized y.1.cls ∈ lw_ok ∧ Cond.code y.1 y.2.1 y.2.2.1 y.2.2.2 ∈ lw_ok) ∧ (y.1.cls ≠ "java/lang/invoke/MethodHandle" ∧ y.1.cls ≠ "java/lang/invoke/VarHandle" ∧ (parseMethodDescriptor y.1.desc).map (fun d => d.parameters.length) = some n) ∧ y.2.2.1 ≤ 45
def LkI (own : String) (idx : Nat) (y : Mt) (n : Nat) : Prop := (Cond.methodLink own idx y.1 ∈ lw_ok ∧ Cond.instanceMethod y.1 ∈ lw_ok ∧ Cond.initialized y.1.cls ∈ lw_ok ∧ Cond.code y.1 y.2.1 y.2.2.1 y.2.2.2 ∈ lw_ok) ∧ (y.1.cls ≠ "java/lang/invoke/MethodHandle" ∧ y.1.cls ≠ "java/lang/invoke/VarHandle" ∧ (parseMethodDescriptor y.1.desc).map (fun d => d.parameters.length) = some n) ∧ y.2.2.1 ≤ 45 ∧ y.1.name = "<init>" ∧ y.2.2.2 = none
def LkN (y : Mt) (n : Nat) : Prop := (Cond.initialized y.1.cls ∈ lw_ok ∧ Cond.code y.1 y.2.1 y.2.2.1 y.2.2.2 ∈ lw_ok) ∧ (y.1.cls ≠ "java/lang/invoke/MethodHandle" ∧ y.1.cls ≠ "java/lang/invoke/VarHandle" ∧ (parseMethodDescriptor y.1.desc).map (fun d => d.parameters.length) = some n) ∧ y.2.2.1 ≤ 45
