/-! ===== the mini machine runs ===== -/
abbrev MOut : Type := Option Value ⊕ Nat
def m_hfind : List (Nat × Nat × Nat × Nat × Nat) → Nat → Nat → Option Nat
  | [], _, _ => none
  | (f, t, hp, x, _) :: l, ip, x' => if f ≤ ip ∧ ip < t ∧ x = x' then some hp else m_hfind l ip x'
def m_ret (k : Nat) (ins : Instr) (st : List Value) : Option (Option Value) := match ins, st with
  | .ireturn, [.int x] => match m_rty k with
    | 1 => some (some (.int x))
    | 3 => if x = 0 ∨ x = 1 then some (some (.int x)) else none
    | 4 => if x.toInt8.toInt32 = x then some (some (.int x)) else none
    | 5 => if (x.toUInt32 % 65536).toInt32 = x then some (some (.int x)) else none
    | _ => none
  | .lreturn, [.long x] => if m_rty k = 2 then some (some (.long x)) else none
  | .return_, [] => if m_rty k = 0 then some none else none
  | _, _ => none
def m_wds (st : List Value) : Nat := (st.map fun v => v.category).sum
def m_rcv (kind ci : Nat) (as : List Value) : Bool := match kind with
  | 1 => match as with
    | .ref c :: _ => if ci = 12 then decide (m_K c = (22, 2)) else decide (m_K c = (10 + ci, m_nf ci))
    | _ => false
  | 4 => match as with
    | .ref c :: _ => if ci = 12 then false else decide (m_K c = (10 + ci, m_nf ci))
    | _ => false
  | 2 => match as with
    | .ref _ :: _ => true
    | _ => false
  | 5 => match as with
    | .ref _ :: _ => true
    | _ => false
  | _ => true
/-- a call: which method, its arguments, what is left on the stack, the environment there -/
def m_call (E : MEnv) (info : List Nat) (st : List Value) : Option (Nat × List Value × List Value × MEnv) := match info with
  | y :: n :: rc :: kind :: _ :: ci :: _ => if n ≤ st.length ∧ m_wds (st.drop n) ≤ 8 ∧ m_wds (st.take n).reverse ≤ m_maxl y ∧ m_rcv kind ci (st.take n).reverse = true then
      (if rc = 0 then some (y, (st.take n).reverse, st.drop n, E) else match E.1 with
        | 0 => none
        | d + 1 => some (y, (st.take n).reverse, st.drop n, (d, E.2)))
      else none
  | _ => none
/-- Math.min, max, abs -/
def m_math (info : List Nat) (st : List Value) : Option (List Value) := match info, st with
  | 0 :: _, .int y :: .int x :: r => some (.int (if y < x then y else x) :: r)
  | 1 :: _, .int y :: .int x :: r => some (.int (if x < y then y else x) :: r)
  | 2 :: _, .int x :: r => some (.int (if 0 ≤ x then x else 0 - x) :: r)
  | _, _ => none
def m_run : Nat → MEnv → Nat → Nat → MLoc → List Value → MH → Option (MOut × MH)
  | 0, _, _, _, _, _, _ => none
  | n + 1, E, k, ip, loc, st, h => match m_code k ip with
    | none => none
    | some (tag, _, ins, info) => match tag with
      | 0 => match m_pure ins loc st with
        | none => none
        | some q => m_run n E k (ip + 1) q.1 q.2 h
      | 1 => match m_heap E ins info st h with
        | none => none
        | some q => m_run n E k (ip + 1) loc q.1 q.2
      | 2 => match m_jump ins info ip st with
        | none => none
        | some q => m_run n E k q.1 loc q.2 h
      | 3 => match m_ret k ins st with
        | none => none
        | some v => some (.inl v, h)
      | 4 => match m_call E info st with
        | none => none
        | some q => match m_run n q.2.2.2 q.1 0 (m_eloc (m_maxl q.1) q.2.1) [] h with
          | none => none
          | some (.inl v, h1) => m_run n E k (ip + 1) loc (v.toList ++ q.2.2.1) h1
          | some (.inr x, h1) => if k = 0 ∨ info.getD 3 0 ≠ 1 then none else match m_hfind (m_hs k) ip x with
            | none => some (.inr x, h1)
            | some hp => m_run n E k (hp + 1) (loc.map fun _ => none) [] h1
      | 5 => match info with
        | x :: _ => if 537 ≤ h.1 ∧ h.1 < 1000000 ∧ m_wds st ≤ 40 then some (.inr x, (h.1 + 1, h.2.1 + 6, h.2.2)) else none
        | _ => none
      | 6 => match m_copy st h with
        | none => none
        | some q => if m_wds q.1 ≤ 40 then m_run n E k (ip + 1) loc q.1 q.2 else none
      | 7 => match st with
        | .ref _ :: r => if m_wds r ≤ 40 then m_run n E k (ip + 1) loc r h else none
        | _ => none
      | 8 => match m_math info st with
        | none => none
        | some st' => if m_wds st' ≤ 40 then m_run n E k (ip + 1) loc st' h else none
      | _ => none
/-! ===== what the tables must hold for a method and for each of its instructions ===== -/
def m_rt (k : Nat) : Option FieldType := match m_rty k with
  | 0 => none
  | 1 => some .int
  | 2 => some .long
  | 3 => some .boolean
  | 4 => some .byte
  | _ => some .char
def m_cw (k : Nat) : Cond := if m_hh k = [] then .code (m_y k) (m_bytes k) (m_maxl k) (m_rt k) else .codeWith (m_y k) (m_bytes k) (m_maxl k) (m_rt k) (m_hh k)
def m_ws (k : Nat) : List Cond := m_cw k :: m_tb
def m_rm (k d mc ms : Nat) : Room := { frames := m_rank k + 40 * d, cells := mc, slots := ms, locals := 64 * (m_rank k + 40 * d) }
def m_exn (x : Nat) : String := ["java/util/NoSuchElementException", "java/lang/IllegalArgumentException"].getD x ""
def m_cname (ci : Nat) : String := if ci = 12 then "java/lang/String" else match m_cl[ci]? with
  | some q => q.1
  | none => ""
def wfY (k : Nat) : Bool := decide (lw_tbl[(m_w k).1]? = some (m_cw k)) && decide (lw_tbl[(m_w k).2.2.2.1]? = some (.initialized (m_y k).cls)) && (if (m_w k).2.2.2.2.2 = 1 then decide (lw_tbl[(m_w k).2.1]? = some (.static (m_y k))) else decide (lw_tbl[(m_w k).2.2.1]? = some (.instanceMethod (m_y k)))) && plainName (m_y k).cls && decide ((m_y k).cls ≠ "java/lang/invoke/MethodHandle") && decide ((m_y k).cls ≠ "java/lang/invoke/VarHandle") && decide (m_maxl k ≤ 45)
def wf_call (k : Nat) (ins : Instr) (info : List Nat) : Bool := match info with
  | y :: n :: rc :: kind :: w :: ci :: _ => decide (y < 336) && decide (y ≠ 0) && decide ((parseMethodDescriptor (m_y y).desc).map (fun d => d.parameters.length) = some (if kind = 0 ∨ kind = 3 ∨ kind = 6 then n else n - 1)) && decide (kind = 0 ∨ kind = 3 ∨ kind = 6 ∨ 1 ≤ n) && (if rc = 0 then decide (m_rank y + 1 ≤ m_rank k) else decide (m_rank y + 1 ≤ m_rank k + 40)) &&
    (match kind, ins with
    | 0, .invokestatic idx => decide (lw_tbl[w]? = some (.methodLink (m_y k).cls idx (m_y y))) && decide ((m_w y).2.2.2.2.2 = 1) && decide (m_hh y = [])
    | 3, .invokestatic idx => decide (lw_tbl[w]? = some (.methodLinkNest (m_y k).cls idx (m_y y) "FeltHarness")) && decide ((m_w y).2.2.2.2.2 = 1) && decide (m_hh y = [])
    | 6, .invokestatic idx => decide (lw_tbl[w]? = some (.methodLink (m_y k).cls idx (m_y y))) && decide ((m_w y).2.2.2.2.2 = 1) && decide (m_hh y ≠ [])
    | 1, .invokevirtual idx => decide (lw_tbl[w]? = some (.methodLink (m_y k).cls idx (m_y y))) && decide ((m_w y).2.2.2.2.2 = 0) && decide (m_hh y = []) && decide (lw_tbl[(m_w y).2.2.2.2.1]? = some (.selects (m_y y).cls (m_y y) (m_y y))) && decide (m_cname ci = (m_y y).cls) && decide (ci ≤ 12)
    | 4, .invokevirtual idx => decide (lw_tbl[w]? = some (.methodLinkNest (m_y k).cls idx (m_y y) "FeltHarness")) && decide ((m_w y).2.2.2.2.2 = 0) && decide (m_hh y = []) && decide (lw_tbl[(m_w y).2.2.2.2.1]? = some (.selects (m_y y).cls (m_y y) (m_y y))) && decide (m_cname ci = (m_y y).cls) && decide (ci ≤ 12)
    | 2, .invokespecial idx => decide (lw_tbl[w]? = some (.methodLink (m_y k).cls idx (m_y y))) && decide ((m_w y).2.2.2.2.2 = 0) && decide (m_hh y = []) && decide ((m_y y).name = "<init>") && decide (m_rty y = 0)
    | 5, .invokespecial idx => decide (lw_tbl[w]? = some (.methodLinkNest (m_y k).cls idx (m_y y) "FeltHarness")) && decide ((m_w y).2.2.2.2.2 = 0) && decide (m_hh y = []) && decide ((m_y y).name = "<init>") && decide (m_rty y = 0)
    | _, _ => false)
  | _ => false
/-- the handlers of a method, and the place of a call: are both views of the table one? -/
def wf_hnd (k ip pc : Nat) : Bool := decide ((m_hh k).length = (m_hs k).length) && ((m_hh k).zip (m_hs k)).all (fun q => (decide (q.1.1 ≤ pc ∧ pc < q.1.2.1) == decide (q.2.1 ≤ ip ∧ ip < q.2.2.1)) && decide (q.1.2.2.2 ≠ 0) && decide (q.2.2.2.2.1 < 2) && decide (lw_tbl[q.2.2.2.2.2]? = some (.classLink (m_y k).cls q.1.2.2.2 (m_exn q.2.2.2.2.1))) &&
    (match m_code k q.2.2.2.1 with
    | some e => decide (e.2.1 = q.1.2.2.1) && m_nxt e.2.1 (m_len e.2.2.1) (m_code k) q.2.2.2.1 && decide (decode (m_bytes k) e.2.1 = .ok (e.2.2.1, m_len e.2.2.1)) && (match e.2.2.1 with
      | .astore i => decide (i < m_maxl k)
      | .astore_n i => decide ((i : Nat) < m_maxl k)
      | _ => false)
    | none => false))
def m_ei (x : Nat) : Nat := [121, 115].getD x 0
def m_tc (x : Nat) : Nat := [393, 402].getD x 0
def m_ix (x : Nat) : Nat := [13, 7].getD x 0
def m_rx (x : Nat) : ByteArray := [prog_29_method_4_code, prog_18_method_2_code].getD x ⟨#[]⟩
def m_names : List String := ["java/lang/RuntimeException", "java/lang/Exception"]
def wf_thr (k pc : Nat) (ins : Instr) (info : List Nat) : Bool := match ins, info with
  | .new ik, x :: w :: is :: ic :: sk :: _ => decide (x < 2) && decide (decode (m_bytes k) pc = .ok (.new ik, 3)) && decide (decode (m_bytes k) (pc + 3) = .ok (.dup, 1)) && decide (decode (m_bytes k) (pc + 4) = .ok (.ldc_w is, 3)) && decide (decode (m_bytes k) (pc + 7) = .ok (.invokespecial ic, 3)) && decide (decode (m_bytes k) (pc + 10) = .ok (.athrow, 1)) && decide (lw_tbl[w]? = some (.classLink (m_y k).cls ik (m_exn x))) && decide ((m_y k).cls = m_so sk) && decide (is = m_si sk) && decide (sk < 6) && decide (m_hh k = []) && decide (6 ≤ m_rank k) && decide (k ≠ 0) &&
    decide (ic = m_tc x) && decide ((m_y k).cls = "FeltHarness")
  | _, _ => false
def wfE (k ip : Nat) : Bool := match m_code k ip with
  | none => true
  | some (tag, pc, ins, info) => match tag with
    | 0 => decide (decode (m_bytes k) pc = .ok (ins, m_len ins)) && m_nxt pc (m_len ins) (m_code k) ip
    | 1 => decide (decode (m_bytes k) pc = .ok (ins, m_len ins)) && m_nxt pc (m_len ins) (m_code k) ip && wf_heap (m_y k).cls (decide ((m_y k).name = "<init>")) ins info
    | 2 => (match decode (m_bytes k) pc with
      | .ok q => decide (q.1 = ins) && (decide (q.2 = m_len ins) || (match ins with
        | .tableswitch _ _ _ _ => true
        | .lookupswitch _ _ => true
        | _ => false))
      | _ => false) && wf_jump (m_bytes k) (m_code k) ip pc ins info
    | 3 => decide (decode (m_bytes k) pc = .ok (ins, m_len ins))
    | 4 => decide (decode (m_bytes k) pc = .ok (ins, m_len ins)) && m_nxt pc 3 (m_code k) ip && wf_call k ins info && wf_hnd k ip pc
    | 5 => wf_thr k pc ins info
    | 6 => decide (decode (m_bytes k) pc = .ok (ins, m_len ins)) && m_nxt pc 3 (m_code k) ip && (match ins with
      | .invokestatic idx => wf_cpy (m_y k).cls idx info
      | _ => false) && decide (3 ≤ m_rank k)
    | 7 => decide (decode (m_bytes k) pc = .ok (ins, m_len ins)) && m_nxt pc 3 (m_code k) ip && decide (2 ≤ m_rank k) && (match ins, info with
      | .invokespecial idx, w :: _ => decide (lw_tbl[w]? = some (.methodLink (m_y k).cls idx ⟨"java/lang/Object", "<init>", "()V"⟩))
      | _, _ => false)
    | 8 => decide (decode (m_bytes k) pc = .ok (ins, m_len ins)) && m_nxt pc 3 (m_code k) ip && decide (2 ≤ m_rank k) && (match ins, info with
      | .invokestatic idx, a :: w :: _ => decide (lw_tbl[w]? = some (.methodLink (m_y k).cls idx ⟨"java/lang/Math", ["min", "max", "abs"].getD a "", if a = 2 then "(I)I" else "(II)I"⟩))
      | _, _ => false)
    | _ => true
def m_WF : Prop := (∀ k, k < 336 → ∀ ip, ip < m_cnt k → wfE k ip = true) ∧ ∀ k, k < 336 → k ≠ 0 → wfY k = true
set_option maxRecDepth 100000 in
theorem m_at0 : n_atX "FeltHarness" (m_tc 0) (m_exn 0) (m_ix 0) (m_rx 0) m_names = [112, 764, 773, 776, 779, 781, 765, 766, 128, 129, 767, 772, 777, 797, 754, 798, 756, 799, 758, 768, 770, 760, 793, 794, 796, 760, 1110, 1111, 1112, 787, 746, 787, 788, 789, 790, 748, 790, 791, 792, 793, 750, 1109, 1100, 1101, 1102, 775, 1103, 1104, 1105, 1106, 763, 762, 1107].filterMap (fun i => lw_tbl[i]?) := rfl
theorem m_atg0 : [112, 764, 773, 776, 779, 781, 765, 766, 128, 129, 767, 772, 777, 797, 754, 798, 756, 799, 758, 768, 770, 760, 793, 794, 796, 760, 1110, 1111, 1112, 787, 746, 787, 788, 789, 790, 748, 790, 791, 792, 793, 750, 1109, 1100, 1101, 1102, 775, 1103, 1104, 1105, 1106, 763, 762, 1107].all (fun i => match lw_tbl[i]? with | some w => goodWord w || m_isN w | none => false) = true := by decide +kernel
theorem m_ato0 : ∀ ik : Nat, (Cond.classLink "FeltHarness" ik (m_exn 0) :: Cond.initialized (m_exn 0) :: n_atX "FeltHarness" (m_tc 0) (m_exn 0) (m_ix 0) (m_rx 0) m_names).all vx_ot = true := by
  have h : (n_atX "FeltHarness" (m_tc 0) (m_exn 0) (m_ix 0) (m_rx 0) m_names).all vx_ot = true := by decide +kernel
  intro ik
  rw [List.all_cons, List.all_cons, h]
  rfl
theorem m_atd0 : decode (m_rx 0) 0 = .ok (.aload_n 0, 1) ∧ decode (m_rx 0) 1 = .ok (.aload_n 1, 1) ∧ decode (m_rx 0) 2 = .ok (.invokespecial (m_ix 0), 3) ∧ decode (m_rx 0) 5 = .ok (.return_, 1) := by decide +kernel
theorem m_atf0 : Bundle.fit (m_exn 0) = true := by decide +kernel
theorem m_ati0 : lw_tbl[m_ei 0]? = some (.initialized (m_exn 0)) := by decide +kernel
set_option maxRecDepth 100000 in
theorem m_at1 : n_atX "FeltHarness" (m_tc 1) (m_exn 1) (m_ix 1) (m_rx 1) m_names = [112, 764, 773, 776, 779, 781, 765, 766, 128, 129, 767, 772, 777, 797, 754, 798, 756, 799, 758, 768, 770, 760, 793, 794, 796, 760, 784, 785, 786, 787, 746, 787, 788, 789, 790, 748, 790, 791, 792, 793, 750, 783, 743, 744, 751, 752, 753, 755, 757, 759, 763, 762, 761].filterMap (fun i => lw_tbl[i]?) := rfl
theorem m_atg1 : [112, 764, 773, 776, 779, 781, 765, 766, 128, 129, 767, 772, 777, 797, 754, 798, 756, 799, 758, 768, 770, 760, 793, 794, 796, 760, 784, 785, 786, 787, 746, 787, 788, 789, 790, 748, 790, 791, 792, 793, 750, 783, 743, 744, 751, 752, 753, 755, 757, 759, 763, 762, 761].all (fun i => match lw_tbl[i]? with | some w => goodWord w || m_isN w | none => false) = true := by decide +kernel
theorem m_ato1 : ∀ ik : Nat, (Cond.classLink "FeltHarness" ik (m_exn 1) :: Cond.initialized (m_exn 1) :: n_atX "FeltHarness" (m_tc 1) (m_exn 1) (m_ix 1) (m_rx 1) m_names).all vx_ot = true := by
  have h : (n_atX "FeltHarness" (m_tc 1) (m_exn 1) (m_ix 1) (m_rx 1) m_names).all vx_ot = true := by decide +kernel
  intro ik
  rw [List.all_cons, List.all_cons, h]
  rfl
theorem m_atd1 : decode (m_rx 1) 0 = .ok (.aload_n 0, 1) ∧ decode (m_rx 1) 1 = .ok (.aload_n 1, 1) ∧ decode (m_rx 1) 2 = .ok (.invokespecial (m_ix 1), 3) ∧ decode (m_rx 1) 5 = .ok (.return_, 1) := by decide +kernel
theorem m_atf1 : Bundle.fit (m_exn 1) = true := by decide +kernel
theorem m_ati1 : lw_tbl[m_ei 1]? = some (.initialized (m_exn 1)) := by decide +kernel
theorem m_atn : ∀ n ∈ m_names, Bundle.fit n = true := by decide +kernel
set_option maxRecDepth 100000 in
theorem m_mw_min : lw_tbl[584]? = some (.static Lib.Math.min.name) ∧ lw_tbl[585]? = some (.code Lib.Math.min.name Lib.Math.min.code 2 (some .int)) := ⟨rfl, rfl⟩
set_option maxRecDepth 100000 in
theorem m_mw_max : lw_tbl[587]? = some (.static Lib.Math.max.name) ∧ lw_tbl[588]? = some (.code Lib.Math.max.name Lib.Math.max.code 2 (some .int)) := ⟨rfl, rfl⟩
set_option maxRecDepth 100000 in
theorem m_mw_abs : lw_tbl[606]? = some (.static Lib.Math.abs.name) ∧ lw_tbl[607]? = some (.code Lib.Math.abs.name Lib.Math.abs.code 1 (some .int)) := ⟨rfl, rfl⟩
theorem m_mwi : lw_tbl[111]? = some (.initialized "java/lang/Math") := by decide +kernel
set_option maxRecDepth 100000 in
theorem m_owi : lw_tbl[128]? = some (.instanceMethod objectInit) ∧ lw_tbl[129]? = some (.code objectInit ⟨#[0xb1]⟩ 1 none) := ⟨rfl, rfl⟩
theorem m_cst : lw_tbl[1101]? = some (.castable (m_exn 0) (m_exn 0)) ∧ lw_tbl[744]? = some (.castable (m_exn 1) (m_exn 1)) := by decide +kernel
theorem m_code_lt {k ip : Nat} {e9 : MI} (h : m_code k ip = some e9) : ip < m_cnt k := by
  unfold m_code at h
  split at h
  · assumption
  · cases h
