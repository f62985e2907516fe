/-! ===== the mini machine: heaps as functions, locals as lists, code as lists of instructions with what they link ===== -/
/-- size, slots, references, ints, longs: by cell and place -/
abbrev MH : Type := Nat × Nat × (Nat → Nat → Option Nat) × (Nat → Nat → Int32) × (Nat → Nat → Int64)
abbrev MLoc : Type := List (Option Value)
/-- kind of step, pc, instruction, what it links -/
abbrev MI : Type := Nat × Nat × Instr × List Nat
def m_up {α : Type} (f : Nat → Nat → α) (c j : Nat) (v : α) : Nat → Nat → α := fun c' => if c' = c then (fun j' => if j' = j then v else f c j') else f c'
def m_row {α : Type} (f : Nat → Nat → α) (c : Nat) (r : Nat → α) : Nat → Nat → α := fun c' => if c' = c then r else f c'
def m_clr (o : Option Value) : Option Value := match o with
  | some (.long _) => none
  | some (.double _) => none
  | o => o
def m_st1 : MLoc → Nat → Value → MLoc
  | [], _, _ => []
  | _ :: l, 0, v => some v :: l
  | [_], 1, _ => []
  | a :: _ :: l, 1, v => m_clr a :: some v :: l
  | a :: l, i + 2, v => a :: m_st1 l (i + 1) v
def m_st2 : MLoc → Nat → Value → MLoc
  | [], _, _ => []
  | [_], _, _ => []
  | _ :: _ :: l, 0, v => some v :: none :: l
  | [_, _], 1, _ => []
  | a :: _ :: _ :: l, 1, v => m_clr a :: some v :: none :: l
  | a :: l, i + 2, v => a :: m_st2 l (i + 1) v
def m_eloc : Nat → List Value → MLoc
  | n, [] => List.replicate n none
  | n, .long x :: vs => some (.long x) :: none :: m_eloc (n - 2) vs
  | n, v :: vs => some v :: m_eloc (n - 1) vs
abbrev MPR : Type := Option (MLoc × List Value)
def q_i2 (f : Int32 → Int32 → Int32) (loc : MLoc) (st : List Value) : MPR := match st with
  | .int y :: .int x :: r => some (loc, .int (f x y) :: r)
  | _ => none
def q_i2d (f : Int32 → Int32 → Int32) (loc : MLoc) (st : List Value) : MPR := match st with
  | .int y :: .int x :: r => if y = 0 then none else some (loc, .int (f x y) :: r)
  | _ => none
def q_i1 (f : Int32 → Int32) (loc : MLoc) (st : List Value) : MPR := match st with
  | .int x :: r => some (loc, .int (f x) :: r)
  | _ => none
def q_l2 (f : Int64 → Int64 → Int64) (loc : MLoc) (st : List Value) : MPR := match st with
  | .long y :: .long x :: r => some (loc, .long (f x y) :: r)
  | _ => none
def q_l2d (f : Int64 → Int64 → Int64) (loc : MLoc) (st : List Value) : MPR := match st with
  | .long y :: .long x :: r => if y = 0 then none else some (loc, .long (f x y) :: r)
  | _ => none
def q_lcmp (loc : MLoc) (st : List Value) : MPR := match st with
  | .long y :: .long x :: r => some (loc, .int (lg_cmp x y) :: r)
  | _ => none
def q_lshl (loc : MLoc) (st : List Value) : MPR := match st with
  | .int y :: .long x :: r => some (loc, .long (x <<< (y.toInt64 &&& 63)) :: r)
  | _ => none
def q_i2l (loc : MLoc) (st : List Value) : MPR := match st with
  | .int x :: r => some (loc, .long x.toInt64 :: r)
  | _ => none
def q_ild (loc : MLoc) (st : List Value) (i : Nat) : MPR := match loc[i]? with
  | some (some (.int x)) => some (loc, .int x :: st)
  | _ => none
def q_lld (loc : MLoc) (st : List Value) (i : Nat) : MPR := match loc[i]? with
  | some (some (.long x)) => some (loc, .long x :: st)
  | _ => none
def q_ald (loc : MLoc) (st : List Value) (i : Nat) : MPR := match loc[i]? with
  | some (some (.ref x)) => some (loc, .ref x :: st)
  | _ => none
def q_ist (loc : MLoc) (st : List Value) (i : Nat) : MPR := match st with
  | .int x :: r => if i < loc.length then some (m_st1 loc i (.int x), r) else none
  | _ => none
def q_ast (loc : MLoc) (st : List Value) (i : Nat) : MPR := match st with
  | .ref x :: r => if i < loc.length then some (m_st1 loc i (.ref x), r) else none
  | _ => none
def q_lst (loc : MLoc) (st : List Value) (i : Nat) : MPR := match st with
  | .long x :: r => if i + 1 < loc.length then some (m_st2 loc i (.long x), r) else none
  | _ => none
def q_inc (loc : MLoc) (st : List Value) (i : Nat) (n : Int) : MPR := match loc[i]? with
  | some (some (.int x)) => some (m_st1 loc i (.int (x + Int32.ofInt n)), st)
  | _ => none
def m_c1 (v : Value) : Bool := match v with
  | .int _ => true
  | .ref _ => true
  | _ => false
def q_dup (loc : MLoc) (st : List Value) : MPR := match st with
  | v :: r => if m_c1 v = true then some (loc, v :: v :: r) else none
  | _ => none
def q_dup2 (loc : MLoc) (st : List Value) : MPR := match st with
  | v :: w :: r => if m_c1 v = true ∧ m_c1 w = true then some (loc, v :: w :: v :: w :: r) else none
  | _ => none
def q_pop (loc : MLoc) (st : List Value) : MPR := match st with
  | v :: r => if m_c1 v = true then some (loc, r) else none
  | _ => none
/-- steps that touch locals and stack alone -/
def m_pure (ins : Instr) (loc : MLoc) (st : List Value) : MPR := match ins with
  | .iconst n => some (loc, .int (Int32.ofInt n) :: st)
  | .bipush n => some (loc, .int (Int8.ofInt n).toInt32 :: st)
  | .sipush n => some (loc, .int (Int16.ofInt n).toInt32 :: st)
  | .lconst n => some (loc, .long (Int64.ofNat (n : Nat)) :: st)
  | .iload_n k => q_ild loc st k
  | .iload k => q_ild loc st k
  | .lload_n k => q_lld loc st k
  | .lload k => q_lld loc st k
  | .aload_n k => q_ald loc st k
  | .aload k => q_ald loc st k
  | .istore_n k => q_ist loc st k
  | .istore k => q_ist loc st k
  | .lstore_n k => q_lst loc st k
  | .lstore k => q_lst loc st k
  | .astore_n k => q_ast loc st k
  | .astore k => q_ast loc st k
  | .iinc k n => q_inc loc st k n
  | .iadd => q_i2 (fun x y => x + y) loc st
  | .isub => q_i2 (fun x y => x - y) loc st
  | .imul => q_i2 (fun x y => x * y) loc st
  | .iand => q_i2 (fun x y => x &&& y) loc st
  | .ior => q_i2 (fun x y => x ||| y) loc st
  | .ixor => q_i2 (fun x y => x ^^^ y) loc st
  | .ishl => q_i2 (fun x y => x <<< (y &&& 31)) loc st
  | .ishr => q_i2 (fun x y => x >>> (y &&& 31)) loc st
  | .iushr => q_i2 (fun x y => (x.toUInt32 >>> (y.toUInt32 &&& Int32.toUInt32 31)).toInt32) loc st
  | .idiv => q_i2d (fun x y => x / y) loc st
  | .irem => q_i2d (fun x y => x - x / y * y) loc st
  | .ineg => q_i1 (fun x => 0 - x) loc st
  | .i2b => q_i1 (fun x => x.toInt8.toInt32) loc st
  | .i2c => q_i1 (fun x => (x.toUInt32 % 65536).toInt32) loc st
  | .i2l => q_i2l loc st
  | .ladd => q_l2 (fun x y => x + y) loc st
  | .lmul => q_l2 (fun x y => x * y) loc st
  | .ldiv => q_l2d (fun x y => x / y) loc st
  | .lrem => q_l2d (fun x y => x - x / y * y) loc st
  | .lshl => q_lshl loc st
  | .lcmp => q_lcmp loc st
  | .dup => q_dup loc st
  | .dup2 => q_dup2 loc st
  | .pop => q_pop loc st
  | _ => none
/-- the length of an instruction, where it has one -/
def m_len (ins : Instr) : Nat := match ins with
  | .bipush _ => 2
  | .sipush _ => 3
  | .iload _ => 2
  | .lload _ => 2
  | .aload _ => 2
  | .istore _ => 2
  | .lstore _ => 2
  | .astore _ => 2
  | .ldc _ => 2
  | .newarray _ => 2
  | .ldc_w _ => 3
  | .iinc _ _ => 3
  | .ifCond _ _ => 3
  | .if_icmp _ _ => 3
  | .goto _ => 3
  | .getfield _ => 3
  | .putfield _ => 3
  | .getstatic _ => 3
  | .invokevirtual _ => 3
  | .invokespecial _ => 3
  | .invokestatic _ => 3
  | .new _ => 3
  | .multianewarray _ _ => 4
  | _ => 1
/-- a value of the mini machine as the machine has it: cells by their addresses -/
def m_cv (ad : Nat → Nat) (fv : Value) (v : Value) : Value := match v with
  | .ref c => .ref (ad c)
  | .retAddr _ => fv
  | v => v
def m_LV (ad : Nat → Nat) (fv : Value) (ls : Array Slot) (loc : MLoc) : Prop := ls.size = loc.length ∧ lv_wf ls ∧ ∀ (i : Nat) (v : Value), loc[i]? = some (some v) → ls[i]? = some (.val (m_cv ad fv v))
def m_prs (ad : Nat → Nat) (fv : Value) : Nat → MLoc → List (Nat × Value)
  | _, [] => []
  | i, none :: l => m_prs ad fv (i + 1) l
  | i, some v :: l => (i, m_cv ad fv v) :: m_prs ad fv (i + 1) l
theorem m_prs_mem {ad : Nat → Nat} {fv : Value} : ∀ (loc : MLoc) (i : Nat) (q : Nat × Value), q ∈ m_prs ad fv i loc ↔ ∃ (j : Nat) (v : Value), loc[j]? = some (some v) ∧ q = (i + j, m_cv ad fv v)
  | [], i, q => by simp [m_prs]
  | none :: l, i, q => by
    rw [m_prs, m_prs_mem l (i + 1) q]
    constructor
    · rintro ⟨j, v, h, rfl⟩
      exact ⟨j + 1, v, by simpa using h, by rw [show i + 1 + j = i + (j + 1) by omega]⟩
    · rintro ⟨j, v, h, rfl⟩
      cases j with
      | zero => simp at h
      | succ j => exact ⟨j, v, by simpa using h, by rw [show i + 1 + j = i + (j + 1) by omega]⟩
  | some w :: l, i, q => by
    rw [m_prs, List.mem_cons, m_prs_mem l (i + 1) q]
    constructor
    · rintro (rfl | ⟨j, v, h, rfl⟩)
      · exact ⟨0, w, rfl, rfl⟩
      · exact ⟨j + 1, v, by simpa using h, by rw [show i + 1 + j = i + (j + 1) by omega]⟩
    · rintro ⟨j, v, h, rfl⟩
      cases j with
      | zero =>
        simp at h
        subst h
        exact Or.inl rfl
      | succ j => exact Or.inr ⟨j, v, by simpa using h, by rw [show i + 1 + j = i + (j + 1) by omega]⟩
theorem m_LV_has {ad : Nat → Nat} {fv : Value} {ls : Array Slot} {loc : MLoc} (h : m_LV ad fv ls loc) : lv_has ls loc.length (m_prs ad fv 0 loc) := by
  refine ⟨h.1, h.2.1, fun q hq => ?_⟩
  obtain ⟨j, v, hj, rfl⟩ := (m_prs_mem loc 0 q).mp hq
  have := h.2.2 j v hj
  simpa using this
theorem m_clr_some {o : Option Value} {w : Value} (h : m_clr o = some w) : o = some w ∧ w.category = 1 := by
  cases o with
  | none => simp [m_clr] at h
  | some v => cases v <;> simp [m_clr] at h <;> subst h <;> simp [Value.category]
theorem m_st1_len : ∀ (loc : MLoc) (i : Nat) (v : Value), i < loc.length → (m_st1 loc i v).length = loc.length
  | [], i, v, h => by simp at h
  | a :: l, 0, v, h => by simp [m_st1]
  | [a], 1, v, h => by simp at h
  | a :: b :: l, 1, v, h => by simp [m_st1]
  | a :: l, i + 2, v, h => by
    simp only [m_st1, List.length_cons]
    rw [m_st1_len l (i + 1) v (by simp only [List.length_cons] at h; omega)]
theorem m_st1_get : ∀ (loc : MLoc) (i : Nat) (v : Value), i < loc.length → ∀ (j : Nat) (w : Value), (m_st1 loc i v)[j]? = some (some w) → (j = i ∧ w = v) ∨ (j ≠ i ∧ loc[j]? = some (some w) ∧ (j + 1 = i → w.category = 1))
  | [], i, v, h, j, w, hj => by simp at h
  | a :: l, 0, v, h, j, w, hj => by
    cases j with
    | zero => simp [m_st1] at hj; exact Or.inl ⟨rfl, hj.symm⟩
    | succ j => exact Or.inr ⟨by omega, by simpa [m_st1] using hj, fun q => by omega⟩
  | [a], 1, v, h, j, w, hj => by simp at h
  | a :: b :: l, 1, v, h, j, w, hj => by
    match j with
    | 0 =>
      simp [m_st1] at hj
      obtain ⟨q1, q2⟩ := m_clr_some hj
      exact Or.inr ⟨by omega, by simp [q1], fun _ => q2⟩
    | 1 => simp [m_st1] at hj; exact Or.inl ⟨rfl, hj.symm⟩
    | j + 2 => exact Or.inr ⟨by omega, by simpa [m_st1] using hj, fun q => by omega⟩
  | a :: l, i + 2, v, h, j, w, hj => by
    cases j with
    | zero => exact Or.inr ⟨by omega, by simpa [m_st1] using hj, fun q => by omega⟩
    | succ j =>
      have hj' : (m_st1 l (i + 1) v)[j]? = some (some w) := by simpa [m_st1] using hj
      rcases m_st1_get l (i + 1) v (by simp only [List.length_cons] at h; omega) j w hj' with ⟨q1, q2⟩ | ⟨q1, q2, q3⟩
      · exact Or.inl ⟨by omega, q2⟩
      · exact Or.inr ⟨by omega, by simpa using q2, fun q => q3 (by omega)⟩
theorem m_st2_len : ∀ (loc : MLoc) (i : Nat) (v : Value), i + 1 < loc.length → (m_st2 loc i v).length = loc.length
  | [], i, v, h => by simp at h
  | [a], i, v, h => by simp at h
  | a :: b :: l, 0, v, h => by simp [m_st2]
  | [a, b], 1, v, h => by simp at h
  | a :: b :: d :: l, 1, v, h => by simp [m_st2]
  | a :: b :: l, i + 2, v, h => by
    simp only [m_st2, List.length_cons]
    rw [m_st2_len (b :: l) (i + 1) v (by simp only [List.length_cons] at h ⊢; omega)]
    simp
theorem m_st2_get : ∀ (loc : MLoc) (i : Nat) (v : Value), i + 1 < loc.length → ∀ (j : Nat) (w : Value), (m_st2 loc i v)[j]? = some (some w) → (j = i ∧ w = v) ∨ (j ≠ i ∧ j ≠ i + 1 ∧ loc[j]? = some (some w) ∧ (j + 1 = i → w.category = 1))
  | [], i, v, h, j, w, hj => by simp at h
  | [a], i, v, h, j, w, hj => by simp at h
  | a :: b :: l, 0, v, h, j, w, hj => by
    match j with
    | 0 => simp [m_st2] at hj; exact Or.inl ⟨rfl, hj.symm⟩
    | 1 => simp [m_st2] at hj
    | j + 2 => exact Or.inr ⟨by omega, by omega, by simpa [m_st2] using hj, fun q => by omega⟩
  | [a, b], 1, v, h, j, w, hj => by simp at h
  | a :: b :: d :: l, 1, v, h, j, w, hj => by
    match j with
    | 0 =>
      simp [m_st2] at hj
      obtain ⟨q1, q2⟩ := m_clr_some hj
      exact Or.inr ⟨by omega, by omega, by simp [q1], fun _ => q2⟩
    | 1 => simp [m_st2] at hj; exact Or.inl ⟨rfl, hj.symm⟩
    | 2 => simp [m_st2] at hj
    | j + 3 => exact Or.inr ⟨by omega, by omega, by simpa [m_st2] using hj, fun q => by omega⟩
  | a :: b :: l, i + 2, v, h, j, w, hj => by
    cases j with
    | zero => exact Or.inr ⟨by omega, by omega, by simpa [m_st2] using hj, fun q => by omega⟩
    | succ j =>
      have hj' : (m_st2 (b :: l) (i + 1) v)[j]? = some (some w) := by simpa [m_st2] using hj
      rcases m_st2_get (b :: l) (i + 1) v (by simp only [List.length_cons] at h ⊢; omega) j w hj' with ⟨q1, q2⟩ | ⟨q1, q2, q3, q4⟩
      · exact Or.inl ⟨by omega, q2⟩
      · exact Or.inr ⟨by omega, by omega, by simpa using q3, fun q => q4 (by omega)⟩
theorem m_cv_cat {ad : Nat → Nat} {fv : Value} (hf : fv.category = 1) (v : Value) : (m_cv ad fv v).category = v.category := by
  cases v <;> simp [m_cv, Value.category]
  exact hf
theorem m_LV_st1 {ad : Nat → Nat} {fv : Value} (hf : fv.category = 1) {ls : Array Slot} {loc : MLoc} {i : Nat} {v : Value} (h : m_LV ad fv ls loc) (hi : i < loc.length) (ls' : Array Slot) (hs : lv_has ls' loc.length ((i, m_cv ad fv v) :: (m_prs ad fv 0 loc).filter (fun q => !(q.1 == i) && !(q.1 + 1 == i && q.2.category == 2)))) : m_LV ad fv ls' (m_st1 loc i v) := by
  refine ⟨by rw [m_st1_len loc i v hi]; exact hs.1, hs.2.1, fun j w hj => ?_⟩
  rcases m_st1_get loc i v hi j w hj with ⟨rfl, rfl⟩ | ⟨q1, q2, q3⟩
  · exact hs.2.2 _ List.mem_cons_self
  · refine hs.2.2 (j, m_cv ad fv w) (List.mem_cons_of_mem _ (List.mem_filter.mpr ⟨(m_prs_mem loc 0 _).mpr ⟨j, w, q2, by simp⟩, ?_⟩))
    have e : (j == i) = false := by simpa using q1
    simp only [e, Bool.not_false, Bool.true_and, Bool.not_eq_true', Bool.and_eq_false_iff]
    by_cases hji : j + 1 = i
    · refine Or.inr ?_
      rw [m_cv_cat hf, q3 hji]
      rfl
    · exact Or.inl (by simpa using hji)
theorem m_LV_st2 {ad : Nat → Nat} {fv : Value} (hf : fv.category = 1) {ls : Array Slot} {loc : MLoc} {i : Nat} {v : Value} (h : m_LV ad fv ls loc) (hi : i + 1 < loc.length) (ls' : Array Slot) (hs : lv_has ls' loc.length ((i, m_cv ad fv v) :: (m_prs ad fv 0 loc).filter (fun q => !(q.1 == i) && (!(q.1 == i + 1) && !(q.1 + 1 == i && q.2.category == 2))))) : m_LV ad fv ls' (m_st2 loc i v) := by
  refine ⟨by rw [m_st2_len loc i v hi]; exact hs.1, hs.2.1, fun j w hj => ?_⟩
  rcases m_st2_get loc i v hi j w hj with ⟨rfl, rfl⟩ | ⟨q1, q2, q3, q4⟩
  · exact hs.2.2 _ List.mem_cons_self
  · refine hs.2.2 (j, m_cv ad fv w) (List.mem_cons_of_mem _ (List.mem_filter.mpr ⟨(m_prs_mem loc 0 _).mpr ⟨j, w, q3, by simp⟩, ?_⟩))
    have e : (j == i) = false := by simpa using q1
    have e2 : (j == i + 1) = false := by simpa using q2
    simp only [e, e2, Bool.not_false, Bool.true_and, Bool.not_eq_true', Bool.and_eq_false_iff]
    by_cases hji : j + 1 = i
    · refine Or.inr ?_
      rw [m_cv_cat hf, q4 hji]
      rfl
    · exact Or.inl (by simpa using hji)
theorem m_c1_cat {ad : Nat → Nat} {fv : Value} {v : Value} (h : m_c1 v = true) : (m_cv ad fv v).category = 1 := by
  cases v <;> simp [m_c1] at h <;> simp [m_cv, Value.category]

section MSP
variable {p : Program} {l : Launch} {e : Env} {R : Room} {s : State} {m : MethodId} {args : Array Value} {below : List Frame} {meth : Method} {c : Code} {H : Heap} {locs : List Loc} {cells slots : Nat} {Q : State → Prop}
variable {cc : ByteArray} {pc : Nat} {ls : Array Slot} {ad : Nat → Nat} {fv : Value}
set_option maxHeartbeats 4000000 in
theorem m_sim_pure (hexec : p.tables.exec = Jvm.exec) (hb : c.code = cc) (hf : fv.category = 1) {ins : Instr} {loc loc' : MLoc} {st st' : List Value} (hd : decode cc pc = .ok (ins, m_len ins)) (hp : m_pure ins loc st = some (loc', st')) (hl : m_LV ad fv ls loc)
    (kk : ∀ ls' : Array Slot, m_LV ad fv ls' loc' → W p l e R s m args below meth c H locs cells slots Q (F0 m (pc + m_len ins) ls' (st'.map (m_cv ad fv)))) : W p l e R s m args below meth c H locs cells slots Q (F0 m pc ls (st.map (m_cv ad fv))) := by
  cases ins with
  | iconst n =>
    obtain ⟨rfl, rfl⟩ : loc = loc' ∧ _ = st' := by simpa [m_pure] using hp
    exact lv_iconst hexec hb hd rfl (kk ls hl)
  | bipush n =>
    obtain ⟨rfl, rfl⟩ : loc = loc' ∧ _ = st' := by simpa [m_pure] using hp
    exact lv_bipush hexec hb hd rfl (kk ls hl)
  | sipush n =>
    obtain ⟨rfl, rfl⟩ : loc = loc' ∧ _ = st' := by simpa [m_pure] using hp
    exact lv_sipush hexec hb hd rfl (kk ls hl)
  | lconst n =>
    obtain ⟨rfl, rfl⟩ : loc = loc' ∧ _ = st' := by simpa [m_pure] using hp
    exact lv_lconst hexec hb hd rfl (kk ls hl)
  | iload_n k =>
    simp only [m_pure, q_ild] at hp
    split at hp
    · rename_i x hx
      obtain ⟨rfl, rfl⟩ : loc = loc' ∧ _ = st' := by simpa using hp
      exact lv_iload_n hexec hb hd rfl (hl.2.2 _ _ hx) (kk ls hl)
    · cases hp
  | iload k =>
    simp only [m_pure, q_ild] at hp
    split at hp
    · rename_i x hx
      obtain ⟨rfl, rfl⟩ : loc = loc' ∧ _ = st' := by simpa using hp
      exact lv_iload hexec hb hd (hl.2.2 _ _ hx) (kk ls hl)
    · cases hp
  | lload_n k =>
    simp only [m_pure, q_lld] at hp
    split at hp
    · rename_i x hx
      obtain ⟨rfl, rfl⟩ : loc = loc' ∧ _ = st' := by simpa using hp
      exact lv_lload_n hexec hb hd rfl (hl.2.2 _ _ hx) (kk ls hl)
    · cases hp
  | lload k =>
    simp only [m_pure, q_lld] at hp
    split at hp
    · rename_i x hx
      obtain ⟨rfl, rfl⟩ : loc = loc' ∧ _ = st' := by simpa using hp
      exact lv_lload hexec hb hd (hl.2.2 _ _ hx) (kk ls hl)
    · cases hp
  | aload_n k =>
    simp only [m_pure, q_ald] at hp
    split at hp
    · rename_i x hx
      obtain ⟨rfl, rfl⟩ : loc = loc' ∧ _ = st' := by simpa using hp
      exact lv_aload_n hexec hb hd rfl (hl.2.2 _ _ hx) (kk ls hl)
    · cases hp
  | aload k =>
    simp only [m_pure, q_ald] at hp
    split at hp
    · rename_i x hx
      obtain ⟨rfl, rfl⟩ : loc = loc' ∧ _ = st' := by simpa using hp
      exact lv_aload hexec hb hd (hl.2.2 _ _ hx) (kk ls hl)
    · cases hp
  | istore_n k =>
    simp only [m_pure, q_ist] at hp
    split at hp
    · rename_i x r
      split at hp
      · rename_i hi
        obtain ⟨rfl, rfl⟩ : _ = loc' ∧ r = st' := by simpa using hp
        exact lv_istore_n hexec hb hd rfl (m_LV_has hl) hi rfl (fun ls' h' => kk ls' (m_LV_st1 hf hl hi ls' h'))
      · cases hp
    · cases hp
  | istore k =>
    simp only [m_pure, q_ist] at hp
    split at hp
    · rename_i x r
      split at hp
      · rename_i hi
        obtain ⟨rfl, rfl⟩ : _ = loc' ∧ r = st' := by simpa using hp
        exact lv_istore hexec hb hd (m_LV_has hl) hi rfl (fun ls' h' => kk ls' (m_LV_st1 hf hl hi ls' h'))
      · cases hp
    · cases hp
  | astore_n k =>
    simp only [m_pure, q_ast] at hp
    split at hp
    · rename_i x r
      split at hp
      · rename_i hi
        obtain ⟨rfl, rfl⟩ : _ = loc' ∧ r = st' := by simpa using hp
        exact lv_astore_n hexec hb hd rfl (m_LV_has hl) hi rfl (fun ls' h' => kk ls' (m_LV_st1 hf hl hi ls' h'))
      · cases hp
    · cases hp
  | astore k =>
    simp only [m_pure, q_ast] at hp
    split at hp
    · rename_i x r
      split at hp
      · rename_i hi
        obtain ⟨rfl, rfl⟩ : _ = loc' ∧ r = st' := by simpa using hp
        exact lv_astore hexec hb hd (m_LV_has hl) hi rfl (fun ls' h' => kk ls' (m_LV_st1 hf hl hi ls' h'))
      · cases hp
    · cases hp
  | lstore_n k =>
    simp only [m_pure, q_lst] at hp
    split at hp
    · rename_i x r
      split at hp
      · rename_i hi
        obtain ⟨rfl, rfl⟩ : _ = loc' ∧ r = st' := by simpa using hp
        exact lv_lstore_n hexec hb hd rfl (m_LV_has hl) hi rfl (fun ls' h' => kk ls' (m_LV_st2 hf hl hi ls' h'))
      · cases hp
    · cases hp
  | lstore k =>
    simp only [m_pure, q_lst] at hp
    split at hp
    · rename_i x r
      split at hp
      · rename_i hi
        obtain ⟨rfl, rfl⟩ : _ = loc' ∧ r = st' := by simpa using hp
        exact lv_lstore hexec hb hd (m_LV_has hl) hi rfl (fun ls' h' => kk ls' (m_LV_st2 hf hl hi ls' h'))
      · cases hp
    · cases hp
  | iinc k n =>
    simp only [m_pure, q_inc] at hp
    split at hp
    · rename_i x hx
      obtain ⟨rfl, rfl⟩ : _ = loc' ∧ st = st' := by simpa using hp
      have hi : k < loc.length := (List.getElem?_eq_some_iff.mp hx).1
      obtain ⟨q, hq⟩ := List.getElem?_of_mem ((m_prs_mem (ad := ad) (fv := fv) loc 0 (k, .int x)).mpr ⟨k, .int x, hx, by simp [m_cv]⟩)
      exact lv_iinc hexec hb hd (m_LV_has hl) hq rfl hi rfl (fun ls' h' => kk ls' (m_LV_st1 hf hl hi ls' h'))
    · cases hp
  | iadd =>
    simp only [m_pure, q_i2] at hp
    split at hp
    · rename_i y x r
      obtain ⟨rfl, rfl⟩ : loc = loc' ∧ _ = st' := by simpa using hp
      exact lv_iadd hexec hb hd (kk ls hl)
    · cases hp
  | isub =>
    simp only [m_pure, q_i2] at hp
    split at hp
    · rename_i y x r
      obtain ⟨rfl, rfl⟩ : loc = loc' ∧ _ = st' := by simpa using hp
      exact lv_isub hexec hb hd (kk ls hl)
    · cases hp
  | imul =>
    simp only [m_pure, q_i2] at hp
    split at hp
    · rename_i y x r
      obtain ⟨rfl, rfl⟩ : loc = loc' ∧ _ = st' := by simpa using hp
      exact lv_imul hexec hb hd (kk ls hl)
    · cases hp
  | iand =>
    simp only [m_pure, q_i2] at hp
    split at hp
    · rename_i y x r
      obtain ⟨rfl, rfl⟩ : loc = loc' ∧ _ = st' := by simpa using hp
      exact lv_iand hexec hb hd (kk ls hl)
    · cases hp
  | ior =>
    simp only [m_pure, q_i2] at hp
    split at hp
    · rename_i y x r
      obtain ⟨rfl, rfl⟩ : loc = loc' ∧ _ = st' := by simpa using hp
      exact lv_ior hexec hb hd (kk ls hl)
    · cases hp
  | ixor =>
    simp only [m_pure, q_i2] at hp
    split at hp
    · rename_i y x r
      obtain ⟨rfl, rfl⟩ : loc = loc' ∧ _ = st' := by simpa using hp
      exact lv_ixor hexec hb hd (kk ls hl)
    · cases hp
  | ishl =>
    simp only [m_pure, q_i2] at hp
    split at hp
    · rename_i y x r
      obtain ⟨rfl, rfl⟩ : loc = loc' ∧ _ = st' := by simpa using hp
      exact lv_ishl hexec hb hd (kk ls hl)
    · cases hp
  | ishr =>
    simp only [m_pure, q_i2] at hp
    split at hp
    · rename_i y x r
      obtain ⟨rfl, rfl⟩ : loc = loc' ∧ _ = st' := by simpa using hp
      exact lv_ishr hexec hb hd (kk ls hl)
    · cases hp
  | iushr =>
    simp only [m_pure, q_i2] at hp
    split at hp
    · rename_i y x r
      obtain ⟨rfl, rfl⟩ : loc = loc' ∧ _ = st' := by simpa using hp
      exact lv_iushr hexec hb hd rfl (kk ls hl)
    · cases hp
  | idiv =>
    simp only [m_pure, q_i2d] at hp
    split at hp
    · rename_i y x r
      split at hp
      · cases hp
      · rename_i hy
        obtain ⟨rfl, rfl⟩ : loc = loc' ∧ _ = st' := by simpa using hp
        exact lv_idiv hexec hb hd hy (kk ls hl)
    · cases hp
  | irem =>
    simp only [m_pure, q_i2d] at hp
    split at hp
    · rename_i y x r
      split at hp
      · cases hp
      · rename_i hy
        obtain ⟨rfl, rfl⟩ : loc = loc' ∧ _ = st' := by simpa using hp
        exact lv_irem hexec hb hd hy (kk ls hl)
    · cases hp
  | ineg =>
    simp only [m_pure, q_i1] at hp
    split at hp
    · rename_i x r
      obtain ⟨rfl, rfl⟩ : loc = loc' ∧ _ = st' := by simpa using hp
      exact lv_ineg hexec hb hd (kk ls hl)
    · cases hp
  | i2b =>
    simp only [m_pure, q_i1] at hp
    split at hp
    · rename_i x r
      obtain ⟨rfl, rfl⟩ : loc = loc' ∧ _ = st' := by simpa using hp
      exact lv_i2b hexec hb hd rfl (kk ls hl)
    · cases hp
  | i2c =>
    simp only [m_pure, q_i1] at hp
    split at hp
    · rename_i x r
      obtain ⟨rfl, rfl⟩ : loc = loc' ∧ _ = st' := by simpa using hp
      exact lv_i2c hexec hb hd rfl (kk ls hl)
    · cases hp
  | i2l =>
    simp only [m_pure, q_i2l] at hp
    split at hp
    · rename_i x r
      obtain ⟨rfl, rfl⟩ : loc = loc' ∧ _ = st' := by simpa using hp
      exact lv_i2l hexec hb hd rfl (kk ls hl)
    · cases hp
  | ladd =>
    simp only [m_pure, q_l2] at hp
    split at hp
    · rename_i y x r
      obtain ⟨rfl, rfl⟩ : loc = loc' ∧ _ = st' := by simpa using hp
      exact lv_ladd hexec hb hd (kk ls hl)
    · cases hp
  | lmul =>
    simp only [m_pure, q_l2] at hp
    split at hp
    · rename_i y x r
      obtain ⟨rfl, rfl⟩ : loc = loc' ∧ _ = st' := by simpa using hp
      exact lv_lmul hexec hb hd (kk ls hl)
    · cases hp
  | ldiv =>
    simp only [m_pure, q_l2d] at hp
    split at hp
    · rename_i y x r
      split at hp
      · cases hp
      · rename_i hy
        obtain ⟨rfl, rfl⟩ : loc = loc' ∧ _ = st' := by simpa using hp
        exact lv_ldiv hexec hb hd hy (kk ls hl)
    · cases hp
  | lrem =>
    simp only [m_pure, q_l2d] at hp
    split at hp
    · rename_i y x r
      split at hp
      · cases hp
      · rename_i hy
        obtain ⟨rfl, rfl⟩ : loc = loc' ∧ _ = st' := by simpa using hp
        exact lv_lrem hexec hb hd hy (kk ls hl)
    · cases hp
  | lshl =>
    simp only [m_pure, q_lshl] at hp
    split at hp
    · rename_i y x r
      obtain ⟨rfl, rfl⟩ : loc = loc' ∧ _ = st' := by simpa using hp
      exact lv_lshl hexec hb hd rfl (kk ls hl)
    · cases hp
  | lcmp =>
    simp only [m_pure, q_lcmp] at hp
    split at hp
    · rename_i y x r
      obtain ⟨rfl, rfl⟩ : loc = loc' ∧ _ = st' := by simpa using hp
      exact W.lcmp hexec hb hd (kk ls hl)
    · cases hp
  | dup =>
    simp only [m_pure, q_dup] at hp
    split at hp
    · rename_i v r
      split at hp
      · rename_i hv
        obtain ⟨rfl, rfl⟩ : loc = loc' ∧ _ = st' := by simpa using hp
        exact lv_dup hexec hb hd (m_c1_cat hv) (kk ls hl)
      · cases hp
    · cases hp
  | dup2 =>
    simp only [m_pure, q_dup2] at hp
    split at hp
    · rename_i v w r
      split at hp
      · rename_i hv
        obtain ⟨rfl, rfl⟩ : loc = loc' ∧ _ = st' := by simpa using hp
        exact lv_dup2_11 hexec hb hd (m_c1_cat hv.1) (m_c1_cat hv.2) (kk ls hl)
      · cases hp
    · cases hp
  | pop =>
    simp only [m_pure, q_pop] at hp
    split at hp
    · rename_i v r
      split at hp
      · rename_i hv
        obtain ⟨rfl, rfl⟩ : loc = loc' ∧ _ = st' := by simpa using hp
        exact lv_pop hexec hb hd (m_c1_cat hv) (kk ls hl)
      · cases hp
    · cases hp
  | _ => first | (simp [m_pure] at hp; done) | cases hp
end MSP
