/-! ===== the law's loop, out of its 43 cases ===== -/
def TI (T : TT) (m : Nat) : Prop := 537 ≤ T.2.1 ∧ T.2.1 ≤ 537 + m ∧ T.2.2 ≤ 8980 + 6 * m
/-- a case of the law keeps the invariant and goes on -/
def op_ok (Inv : II → Prop) (E : MEnv) (t : MEnv → II → TT → QQ → Int32 → Prop) : Prop := ∀ (I : II) (T : TT) (Q : QQ) (i m : Nat), Inv I → TI T m → m ≤ 511 → i + 9 ≤ E.2.1 → E.2.1 ≤ 4608 → (∀ (I' : II) (T' : TT), Inv I' → TI T' (m + 1) → t_W_main_1543 E I' T' Q (nI i)) → t E I T Q (nI i)
theorem TI_up {T : TT} {m n : Nat} (h : TI T m) (hn : m ≤ n) : TI T n := ⟨h.1, by have := h.2.1; omega, by have := h.2.2; omega⟩
theorem sw_0 : m_tsw 0 42 [25, 82, 117, 152, 187, 222, 229, 236, 271, 316, 361, 396, 441, 546, 581, 588, 595, 640, 685, 692, 727, 762, 797, 832, 887, 951, 1006, 1041, 1076, 1111, 1146, 1153, 1160, 1205, 1240, 1275, 1310, 1345, 1410, 1495, 1502, 1509, 1526] 1543 (nI 0) = 25 := by decide +kernel
theorem sw_1 : m_tsw 0 42 [25, 82, 117, 152, 187, 222, 229, 236, 271, 316, 361, 396, 441, 546, 581, 588, 595, 640, 685, 692, 727, 762, 797, 832, 887, 951, 1006, 1041, 1076, 1111, 1146, 1153, 1160, 1205, 1240, 1275, 1310, 1345, 1410, 1495, 1502, 1509, 1526] 1543 (nI 1) = 82 := by decide +kernel
theorem sw_2 : m_tsw 0 42 [25, 82, 117, 152, 187, 222, 229, 236, 271, 316, 361, 396, 441, 546, 581, 588, 595, 640, 685, 692, 727, 762, 797, 832, 887, 951, 1006, 1041, 1076, 1111, 1146, 1153, 1160, 1205, 1240, 1275, 1310, 1345, 1410, 1495, 1502, 1509, 1526] 1543 (nI 2) = 117 := by decide +kernel
theorem sw_3 : m_tsw 0 42 [25, 82, 117, 152, 187, 222, 229, 236, 271, 316, 361, 396, 441, 546, 581, 588, 595, 640, 685, 692, 727, 762, 797, 832, 887, 951, 1006, 1041, 1076, 1111, 1146, 1153, 1160, 1205, 1240, 1275, 1310, 1345, 1410, 1495, 1502, 1509, 1526] 1543 (nI 3) = 152 := by decide +kernel
theorem sw_4 : m_tsw 0 42 [25, 82, 117, 152, 187, 222, 229, 236, 271, 316, 361, 396, 441, 546, 581, 588, 595, 640, 685, 692, 727, 762, 797, 832, 887, 951, 1006, 1041, 1076, 1111, 1146, 1153, 1160, 1205, 1240, 1275, 1310, 1345, 1410, 1495, 1502, 1509, 1526] 1543 (nI 4) = 187 := by decide +kernel
theorem sw_5 : m_tsw 0 42 [25, 82, 117, 152, 187, 222, 229, 236, 271, 316, 361, 396, 441, 546, 581, 588, 595, 640, 685, 692, 727, 762, 797, 832, 887, 951, 1006, 1041, 1076, 1111, 1146, 1153, 1160, 1205, 1240, 1275, 1310, 1345, 1410, 1495, 1502, 1509, 1526] 1543 (nI 5) = 222 := by decide +kernel
theorem sw_6 : m_tsw 0 42 [25, 82, 117, 152, 187, 222, 229, 236, 271, 316, 361, 396, 441, 546, 581, 588, 595, 640, 685, 692, 727, 762, 797, 832, 887, 951, 1006, 1041, 1076, 1111, 1146, 1153, 1160, 1205, 1240, 1275, 1310, 1345, 1410, 1495, 1502, 1509, 1526] 1543 (nI 6) = 229 := by decide +kernel
theorem sw_7 : m_tsw 0 42 [25, 82, 117, 152, 187, 222, 229, 236, 271, 316, 361, 396, 441, 546, 581, 588, 595, 640, 685, 692, 727, 762, 797, 832, 887, 951, 1006, 1041, 1076, 1111, 1146, 1153, 1160, 1205, 1240, 1275, 1310, 1345, 1410, 1495, 1502, 1509, 1526] 1543 (nI 7) = 236 := by decide +kernel
theorem sw_8 : m_tsw 0 42 [25, 82, 117, 152, 187, 222, 229, 236, 271, 316, 361, 396, 441, 546, 581, 588, 595, 640, 685, 692, 727, 762, 797, 832, 887, 951, 1006, 1041, 1076, 1111, 1146, 1153, 1160, 1205, 1240, 1275, 1310, 1345, 1410, 1495, 1502, 1509, 1526] 1543 (nI 8) = 271 := by decide +kernel
theorem sw_9 : m_tsw 0 42 [25, 82, 117, 152, 187, 222, 229, 236, 271, 316, 361, 396, 441, 546, 581, 588, 595, 640, 685, 692, 727, 762, 797, 832, 887, 951, 1006, 1041, 1076, 1111, 1146, 1153, 1160, 1205, 1240, 1275, 1310, 1345, 1410, 1495, 1502, 1509, 1526] 1543 (nI 9) = 316 := by decide +kernel
theorem sw_10 : m_tsw 0 42 [25, 82, 117, 152, 187, 222, 229, 236, 271, 316, 361, 396, 441, 546, 581, 588, 595, 640, 685, 692, 727, 762, 797, 832, 887, 951, 1006, 1041, 1076, 1111, 1146, 1153, 1160, 1205, 1240, 1275, 1310, 1345, 1410, 1495, 1502, 1509, 1526] 1543 (nI 10) = 361 := by decide +kernel
theorem sw_11 : m_tsw 0 42 [25, 82, 117, 152, 187, 222, 229, 236, 271, 316, 361, 396, 441, 546, 581, 588, 595, 640, 685, 692, 727, 762, 797, 832, 887, 951, 1006, 1041, 1076, 1111, 1146, 1153, 1160, 1205, 1240, 1275, 1310, 1345, 1410, 1495, 1502, 1509, 1526] 1543 (nI 11) = 396 := by decide +kernel
theorem sw_12 : m_tsw 0 42 [25, 82, 117, 152, 187, 222, 229, 236, 271, 316, 361, 396, 441, 546, 581, 588, 595, 640, 685, 692, 727, 762, 797, 832, 887, 951, 1006, 1041, 1076, 1111, 1146, 1153, 1160, 1205, 1240, 1275, 1310, 1345, 1410, 1495, 1502, 1509, 1526] 1543 (nI 12) = 441 := by decide +kernel
theorem sw_13 : m_tsw 0 42 [25, 82, 117, 152, 187, 222, 229, 236, 271, 316, 361, 396, 441, 546, 581, 588, 595, 640, 685, 692, 727, 762, 797, 832, 887, 951, 1006, 1041, 1076, 1111, 1146, 1153, 1160, 1205, 1240, 1275, 1310, 1345, 1410, 1495, 1502, 1509, 1526] 1543 (nI 13) = 546 := by decide +kernel
theorem sw_14 : m_tsw 0 42 [25, 82, 117, 152, 187, 222, 229, 236, 271, 316, 361, 396, 441, 546, 581, 588, 595, 640, 685, 692, 727, 762, 797, 832, 887, 951, 1006, 1041, 1076, 1111, 1146, 1153, 1160, 1205, 1240, 1275, 1310, 1345, 1410, 1495, 1502, 1509, 1526] 1543 (nI 14) = 581 := by decide +kernel
theorem sw_15 : m_tsw 0 42 [25, 82, 117, 152, 187, 222, 229, 236, 271, 316, 361, 396, 441, 546, 581, 588, 595, 640, 685, 692, 727, 762, 797, 832, 887, 951, 1006, 1041, 1076, 1111, 1146, 1153, 1160, 1205, 1240, 1275, 1310, 1345, 1410, 1495, 1502, 1509, 1526] 1543 (nI 15) = 588 := by decide +kernel
theorem sw_16 : m_tsw 0 42 [25, 82, 117, 152, 187, 222, 229, 236, 271, 316, 361, 396, 441, 546, 581, 588, 595, 640, 685, 692, 727, 762, 797, 832, 887, 951, 1006, 1041, 1076, 1111, 1146, 1153, 1160, 1205, 1240, 1275, 1310, 1345, 1410, 1495, 1502, 1509, 1526] 1543 (nI 16) = 595 := by decide +kernel
theorem sw_17 : m_tsw 0 42 [25, 82, 117, 152, 187, 222, 229, 236, 271, 316, 361, 396, 441, 546, 581, 588, 595, 640, 685, 692, 727, 762, 797, 832, 887, 951, 1006, 1041, 1076, 1111, 1146, 1153, 1160, 1205, 1240, 1275, 1310, 1345, 1410, 1495, 1502, 1509, 1526] 1543 (nI 17) = 640 := by decide +kernel
theorem sw_18 : m_tsw 0 42 [25, 82, 117, 152, 187, 222, 229, 236, 271, 316, 361, 396, 441, 546, 581, 588, 595, 640, 685, 692, 727, 762, 797, 832, 887, 951, 1006, 1041, 1076, 1111, 1146, 1153, 1160, 1205, 1240, 1275, 1310, 1345, 1410, 1495, 1502, 1509, 1526] 1543 (nI 18) = 685 := by decide +kernel
theorem sw_19 : m_tsw 0 42 [25, 82, 117, 152, 187, 222, 229, 236, 271, 316, 361, 396, 441, 546, 581, 588, 595, 640, 685, 692, 727, 762, 797, 832, 887, 951, 1006, 1041, 1076, 1111, 1146, 1153, 1160, 1205, 1240, 1275, 1310, 1345, 1410, 1495, 1502, 1509, 1526] 1543 (nI 19) = 692 := by decide +kernel
theorem sw_20 : m_tsw 0 42 [25, 82, 117, 152, 187, 222, 229, 236, 271, 316, 361, 396, 441, 546, 581, 588, 595, 640, 685, 692, 727, 762, 797, 832, 887, 951, 1006, 1041, 1076, 1111, 1146, 1153, 1160, 1205, 1240, 1275, 1310, 1345, 1410, 1495, 1502, 1509, 1526] 1543 (nI 20) = 727 := by decide +kernel
theorem sw_21 : m_tsw 0 42 [25, 82, 117, 152, 187, 222, 229, 236, 271, 316, 361, 396, 441, 546, 581, 588, 595, 640, 685, 692, 727, 762, 797, 832, 887, 951, 1006, 1041, 1076, 1111, 1146, 1153, 1160, 1205, 1240, 1275, 1310, 1345, 1410, 1495, 1502, 1509, 1526] 1543 (nI 21) = 762 := by decide +kernel
theorem sw_22 : m_tsw 0 42 [25, 82, 117, 152, 187, 222, 229, 236, 271, 316, 361, 396, 441, 546, 581, 588, 595, 640, 685, 692, 727, 762, 797, 832, 887, 951, 1006, 1041, 1076, 1111, 1146, 1153, 1160, 1205, 1240, 1275, 1310, 1345, 1410, 1495, 1502, 1509, 1526] 1543 (nI 22) = 797 := by decide +kernel
theorem sw_23 : m_tsw 0 42 [25, 82, 117, 152, 187, 222, 229, 236, 271, 316, 361, 396, 441, 546, 581, 588, 595, 640, 685, 692, 727, 762, 797, 832, 887, 951, 1006, 1041, 1076, 1111, 1146, 1153, 1160, 1205, 1240, 1275, 1310, 1345, 1410, 1495, 1502, 1509, 1526] 1543 (nI 23) = 832 := by decide +kernel
theorem sw_24 : m_tsw 0 42 [25, 82, 117, 152, 187, 222, 229, 236, 271, 316, 361, 396, 441, 546, 581, 588, 595, 640, 685, 692, 727, 762, 797, 832, 887, 951, 1006, 1041, 1076, 1111, 1146, 1153, 1160, 1205, 1240, 1275, 1310, 1345, 1410, 1495, 1502, 1509, 1526] 1543 (nI 24) = 887 := by decide +kernel
theorem sw_25 : m_tsw 0 42 [25, 82, 117, 152, 187, 222, 229, 236, 271, 316, 361, 396, 441, 546, 581, 588, 595, 640, 685, 692, 727, 762, 797, 832, 887, 951, 1006, 1041, 1076, 1111, 1146, 1153, 1160, 1205, 1240, 1275, 1310, 1345, 1410, 1495, 1502, 1509, 1526] 1543 (nI 25) = 951 := by decide +kernel
theorem sw_26 : m_tsw 0 42 [25, 82, 117, 152, 187, 222, 229, 236, 271, 316, 361, 396, 441, 546, 581, 588, 595, 640, 685, 692, 727, 762, 797, 832, 887, 951, 1006, 1041, 1076, 1111, 1146, 1153, 1160, 1205, 1240, 1275, 1310, 1345, 1410, 1495, 1502, 1509, 1526] 1543 (nI 26) = 1006 := by decide +kernel
theorem sw_27 : m_tsw 0 42 [25, 82, 117, 152, 187, 222, 229, 236, 271, 316, 361, 396, 441, 546, 581, 588, 595, 640, 685, 692, 727, 762, 797, 832, 887, 951, 1006, 1041, 1076, 1111, 1146, 1153, 1160, 1205, 1240, 1275, 1310, 1345, 1410, 1495, 1502, 1509, 1526] 1543 (nI 27) = 1041 := by decide +kernel
theorem sw_28 : m_tsw 0 42 [25, 82, 117, 152, 187, 222, 229, 236, 271, 316, 361, 396, 441, 546, 581, 588, 595, 640, 685, 692, 727, 762, 797, 832, 887, 951, 1006, 1041, 1076, 1111, 1146, 1153, 1160, 1205, 1240, 1275, 1310, 1345, 1410, 1495, 1502, 1509, 1526] 1543 (nI 28) = 1076 := by decide +kernel
theorem sw_29 : m_tsw 0 42 [25, 82, 117, 152, 187, 222, 229, 236, 271, 316, 361, 396, 441, 546, 581, 588, 595, 640, 685, 692, 727, 762, 797, 832, 887, 951, 1006, 1041, 1076, 1111, 1146, 1153, 1160, 1205, 1240, 1275, 1310, 1345, 1410, 1495, 1502, 1509, 1526] 1543 (nI 29) = 1111 := by decide +kernel
theorem sw_30 : m_tsw 0 42 [25, 82, 117, 152, 187, 222, 229, 236, 271, 316, 361, 396, 441, 546, 581, 588, 595, 640, 685, 692, 727, 762, 797, 832, 887, 951, 1006, 1041, 1076, 1111, 1146, 1153, 1160, 1205, 1240, 1275, 1310, 1345, 1410, 1495, 1502, 1509, 1526] 1543 (nI 30) = 1146 := by decide +kernel
theorem sw_31 : m_tsw 0 42 [25, 82, 117, 152, 187, 222, 229, 236, 271, 316, 361, 396, 441, 546, 581, 588, 595, 640, 685, 692, 727, 762, 797, 832, 887, 951, 1006, 1041, 1076, 1111, 1146, 1153, 1160, 1205, 1240, 1275, 1310, 1345, 1410, 1495, 1502, 1509, 1526] 1543 (nI 31) = 1153 := by decide +kernel
theorem sw_32 : m_tsw 0 42 [25, 82, 117, 152, 187, 222, 229, 236, 271, 316, 361, 396, 441, 546, 581, 588, 595, 640, 685, 692, 727, 762, 797, 832, 887, 951, 1006, 1041, 1076, 1111, 1146, 1153, 1160, 1205, 1240, 1275, 1310, 1345, 1410, 1495, 1502, 1509, 1526] 1543 (nI 32) = 1160 := by decide +kernel
theorem sw_33 : m_tsw 0 42 [25, 82, 117, 152, 187, 222, 229, 236, 271, 316, 361, 396, 441, 546, 581, 588, 595, 640, 685, 692, 727, 762, 797, 832, 887, 951, 1006, 1041, 1076, 1111, 1146, 1153, 1160, 1205, 1240, 1275, 1310, 1345, 1410, 1495, 1502, 1509, 1526] 1543 (nI 33) = 1205 := by decide +kernel
theorem sw_34 : m_tsw 0 42 [25, 82, 117, 152, 187, 222, 229, 236, 271, 316, 361, 396, 441, 546, 581, 588, 595, 640, 685, 692, 727, 762, 797, 832, 887, 951, 1006, 1041, 1076, 1111, 1146, 1153, 1160, 1205, 1240, 1275, 1310, 1345, 1410, 1495, 1502, 1509, 1526] 1543 (nI 34) = 1240 := by decide +kernel
theorem sw_35 : m_tsw 0 42 [25, 82, 117, 152, 187, 222, 229, 236, 271, 316, 361, 396, 441, 546, 581, 588, 595, 640, 685, 692, 727, 762, 797, 832, 887, 951, 1006, 1041, 1076, 1111, 1146, 1153, 1160, 1205, 1240, 1275, 1310, 1345, 1410, 1495, 1502, 1509, 1526] 1543 (nI 35) = 1275 := by decide +kernel
theorem sw_36 : m_tsw 0 42 [25, 82, 117, 152, 187, 222, 229, 236, 271, 316, 361, 396, 441, 546, 581, 588, 595, 640, 685, 692, 727, 762, 797, 832, 887, 951, 1006, 1041, 1076, 1111, 1146, 1153, 1160, 1205, 1240, 1275, 1310, 1345, 1410, 1495, 1502, 1509, 1526] 1543 (nI 36) = 1310 := by decide +kernel
theorem sw_37 : m_tsw 0 42 [25, 82, 117, 152, 187, 222, 229, 236, 271, 316, 361, 396, 441, 546, 581, 588, 595, 640, 685, 692, 727, 762, 797, 832, 887, 951, 1006, 1041, 1076, 1111, 1146, 1153, 1160, 1205, 1240, 1275, 1310, 1345, 1410, 1495, 1502, 1509, 1526] 1543 (nI 37) = 1345 := by decide +kernel
theorem sw_38 : m_tsw 0 42 [25, 82, 117, 152, 187, 222, 229, 236, 271, 316, 361, 396, 441, 546, 581, 588, 595, 640, 685, 692, 727, 762, 797, 832, 887, 951, 1006, 1041, 1076, 1111, 1146, 1153, 1160, 1205, 1240, 1275, 1310, 1345, 1410, 1495, 1502, 1509, 1526] 1543 (nI 38) = 1410 := by decide +kernel
theorem sw_39 : m_tsw 0 42 [25, 82, 117, 152, 187, 222, 229, 236, 271, 316, 361, 396, 441, 546, 581, 588, 595, 640, 685, 692, 727, 762, 797, 832, 887, 951, 1006, 1041, 1076, 1111, 1146, 1153, 1160, 1205, 1240, 1275, 1310, 1345, 1410, 1495, 1502, 1509, 1526] 1543 (nI 39) = 1495 := by decide +kernel
theorem sw_40 : m_tsw 0 42 [25, 82, 117, 152, 187, 222, 229, 236, 271, 316, 361, 396, 441, 546, 581, 588, 595, 640, 685, 692, 727, 762, 797, 832, 887, 951, 1006, 1041, 1076, 1111, 1146, 1153, 1160, 1205, 1240, 1275, 1310, 1345, 1410, 1495, 1502, 1509, 1526] 1543 (nI 40) = 1502 := by decide +kernel
theorem sw_41 : m_tsw 0 42 [25, 82, 117, 152, 187, 222, 229, 236, 271, 316, 361, 396, 441, 546, 581, 588, 595, 640, 685, 692, 727, 762, 797, 832, 887, 951, 1006, 1041, 1076, 1111, 1146, 1153, 1160, 1205, 1240, 1275, 1310, 1345, 1410, 1495, 1502, 1509, 1526] 1543 (nI 41) = 1509 := by decide +kernel
theorem sw_42 : m_tsw 0 42 [25, 82, 117, 152, 187, 222, 229, 236, 271, 316, 361, 396, 441, 546, 581, 588, 595, 640, 685, 692, 727, 762, 797, 832, 887, 951, 1006, 1041, 1076, 1111, 1146, 1153, 1160, 1205, 1240, 1275, 1310, 1345, 1410, 1495, 1502, 1509, 1526] 1543 (nI 42) = 1526 := by decide +kernel
theorem sw_off (j : Nat) (h : 42 < j) (h2 : j < 64) : m_tsw 0 42 [25, 82, 117, 152, 187, 222, 229, 236, 271, 316, 361, 396, 441, 546, 581, 588, 595, 640, 685, 692, 727, 762, 797, 832, 887, 951, 1006, 1041, 1076, 1111, 1146, 1153, 1160, 1205, 1240, 1275, 1310, 1345, 1410, 1495, 1502, 1509, 1526] 1543 (nI j) = 1543 := by
  unfold m_tsw
  rw [nI_toInt (by omega)]
  exact if_pos (Or.inr (by omega))
theorem m_case {Inv : II → Prop} {E : MEnv} (o0 : op_ok Inv E t_W_main_25) (o1 : op_ok Inv E t_W_main_82) (o2 : op_ok Inv E t_W_main_117) (o3 : op_ok Inv E t_W_main_152) (o4 : op_ok Inv E t_W_main_187) (o5 : op_ok Inv E t_W_main_222) (o6 : op_ok Inv E t_W_main_229) (o7 : op_ok Inv E t_W_main_236) (o8 : op_ok Inv E t_W_main_271) (o9 : op_ok Inv E t_W_main_316) (o10 : op_ok Inv E t_W_main_361) (o11 : op_ok Inv E t_W_main_396) (o12 : op_ok Inv E t_W_main_441) (o13 : op_ok Inv E t_W_main_546) (o14 : op_ok Inv E t_W_main_581) (o15 : op_ok Inv E t_W_main_588) (o16 : op_ok Inv E t_W_main_595) (o17 : op_ok Inv E t_W_main_640) (o18 : op_ok Inv E t_W_main_685) (o19 : op_ok Inv E t_W_main_692) (o20 : op_ok Inv E t_W_main_727) (o21 : op_ok Inv E t_W_main_762) (o22 : op_ok Inv E t_W_main_797) (o23 : op_ok Inv E t_W_main_832) (o24 : op_ok Inv E t_W_main_887) (o25 : op_ok Inv E t_W_main_951) (o26 : op_ok Inv E t_W_main_1006) (o27 : op_ok Inv E t_W_main_1041) (o28 : op_ok Inv E t_W_main_1076) (o29 : op_ok Inv E t_W_main_1111) (o30 : op_ok Inv E t_W_main_1146) (o31 : op_ok Inv E t_W_main_1153) (o32 : op_ok Inv E t_W_main_1160) (o33 : op_ok Inv E t_W_main_1205) (o34 : op_ok Inv E t_W_main_1240) (o35 : op_ok Inv E t_W_main_1275) (o36 : op_ok Inv E t_W_main_1310) (o37 : op_ok Inv E t_W_main_1345) (o38 : op_ok Inv E t_W_main_1410) (o39 : op_ok Inv E t_W_main_1495) (o40 : op_ok Inv E t_W_main_1502) (o41 : op_ok Inv E t_W_main_1509) (o42 : op_ok Inv E t_W_main_1526) (I : II) (T : TT) (Q : QQ) (i m j : Nat) (hj : j < 64) (hI : Inv I) (hT : TI T m) (hm : m ≤ 511) (hi : i + 9 ≤ E.2.1) (hL : E.2.1 ≤ 4608) (hn : ∀ (I' : II) (T' : TT), Inv I' → TI T' (m + 1) → t_W_main_1543 E I' T' Q (nI i)) : ev E 0 (m_tsw 0 42 [25, 82, 117, 152, 187, 222, 229, 236, 271, 316, 361, 396, 441, 546, 581, 588, 595, 640, 685, 692, 727, 762, 797, 832, 887, 951, 1006, 1041, 1076, 1111, 1146, 1153, 1160, 1205, 1240, 1275, 1310, 1345, 1410, 1495, 1502, 1509, 1526] 1543 (nI j)) [some (.ref 2000000), some (.ref 0), some (.ref 46), some (.ref 536), some (.int (nI i)), none, none, none] [] I T Q := by
  match j, hj with
  | 0, _ =>
    rw [sw_0]
    exact s_W_main_25 (o0 I T Q i m hI hT hm hi hL hn)
  | 1, _ =>
    rw [sw_1]
    exact s_W_main_82 (o1 I T Q i m hI hT hm hi hL hn)
  | 2, _ =>
    rw [sw_2]
    exact s_W_main_117 (o2 I T Q i m hI hT hm hi hL hn)
  | 3, _ =>
    rw [sw_3]
    exact s_W_main_152 (o3 I T Q i m hI hT hm hi hL hn)
  | 4, _ =>
    rw [sw_4]
    exact s_W_main_187 (o4 I T Q i m hI hT hm hi hL hn)
  | 5, _ =>
    rw [sw_5]
    exact s_W_main_222 (o5 I T Q i m hI hT hm hi hL hn)
  | 6, _ =>
    rw [sw_6]
    exact s_W_main_229 (o6 I T Q i m hI hT hm hi hL hn)
  | 7, _ =>
    rw [sw_7]
    exact s_W_main_236 (o7 I T Q i m hI hT hm hi hL hn)
  | 8, _ =>
    rw [sw_8]
    exact s_W_main_271 (o8 I T Q i m hI hT hm hi hL hn)
  | 9, _ =>
    rw [sw_9]
    exact s_W_main_316 (o9 I T Q i m hI hT hm hi hL hn)
  | 10, _ =>
    rw [sw_10]
    exact s_W_main_361 (o10 I T Q i m hI hT hm hi hL hn)
  | 11, _ =>
    rw [sw_11]
    exact s_W_main_396 (o11 I T Q i m hI hT hm hi hL hn)
  | 12, _ =>
    rw [sw_12]
    exact s_W_main_441 (o12 I T Q i m hI hT hm hi hL hn)
  | 13, _ =>
    rw [sw_13]
    exact s_W_main_546 (o13 I T Q i m hI hT hm hi hL hn)
  | 14, _ =>
    rw [sw_14]
    exact s_W_main_581 (o14 I T Q i m hI hT hm hi hL hn)
  | 15, _ =>
    rw [sw_15]
    exact s_W_main_588 (o15 I T Q i m hI hT hm hi hL hn)
  | 16, _ =>
    rw [sw_16]
    exact s_W_main_595 (o16 I T Q i m hI hT hm hi hL hn)
  | 17, _ =>
    rw [sw_17]
    exact s_W_main_640 (o17 I T Q i m hI hT hm hi hL hn)
  | 18, _ =>
    rw [sw_18]
    exact s_W_main_685 (o18 I T Q i m hI hT hm hi hL hn)
  | 19, _ =>
    rw [sw_19]
    exact s_W_main_692 (o19 I T Q i m hI hT hm hi hL hn)
  | 20, _ =>
    rw [sw_20]
    exact s_W_main_727 (o20 I T Q i m hI hT hm hi hL hn)
  | 21, _ =>
    rw [sw_21]
    exact s_W_main_762 (o21 I T Q i m hI hT hm hi hL hn)
  | 22, _ =>
    rw [sw_22]
    exact s_W_main_797 (o22 I T Q i m hI hT hm hi hL hn)
  | 23, _ =>
    rw [sw_23]
    exact s_W_main_832 (o23 I T Q i m hI hT hm hi hL hn)
  | 24, _ =>
    rw [sw_24]
    exact s_W_main_887 (o24 I T Q i m hI hT hm hi hL hn)
  | 25, _ =>
    rw [sw_25]
    exact s_W_main_951 (o25 I T Q i m hI hT hm hi hL hn)
  | 26, _ =>
    rw [sw_26]
    exact s_W_main_1006 (o26 I T Q i m hI hT hm hi hL hn)
  | 27, _ =>
    rw [sw_27]
    exact s_W_main_1041 (o27 I T Q i m hI hT hm hi hL hn)
  | 28, _ =>
    rw [sw_28]
    exact s_W_main_1076 (o28 I T Q i m hI hT hm hi hL hn)
  | 29, _ =>
    rw [sw_29]
    exact s_W_main_1111 (o29 I T Q i m hI hT hm hi hL hn)
  | 30, _ =>
    rw [sw_30]
    exact s_W_main_1146 (o30 I T Q i m hI hT hm hi hL hn)
  | 31, _ =>
    rw [sw_31]
    exact s_W_main_1153 (o31 I T Q i m hI hT hm hi hL hn)
  | 32, _ =>
    rw [sw_32]
    exact s_W_main_1160 (o32 I T Q i m hI hT hm hi hL hn)
  | 33, _ =>
    rw [sw_33]
    exact s_W_main_1205 (o33 I T Q i m hI hT hm hi hL hn)
  | 34, _ =>
    rw [sw_34]
    exact s_W_main_1240 (o34 I T Q i m hI hT hm hi hL hn)
  | 35, _ =>
    rw [sw_35]
    exact s_W_main_1275 (o35 I T Q i m hI hT hm hi hL hn)
  | 36, _ =>
    rw [sw_36]
    exact s_W_main_1310 (o36 I T Q i m hI hT hm hi hL hn)
  | 37, _ =>
    rw [sw_37]
    exact s_W_main_1345 (o37 I T Q i m hI hT hm hi hL hn)
  | 38, _ =>
    rw [sw_38]
    exact s_W_main_1410 (o38 I T Q i m hI hT hm hi hL hn)
  | 39, _ =>
    rw [sw_39]
    exact s_W_main_1495 (o39 I T Q i m hI hT hm hi hL hn)
  | 40, _ =>
    rw [sw_40]
    exact s_W_main_1502 (o40 I T Q i m hI hT hm hi hL hn)
  | 41, _ =>
    rw [sw_41]
    exact s_W_main_1509 (o41 I T Q i m hI hT hm hi hL hn)
  | 42, _ =>
    rw [sw_42]
    exact s_W_main_1526 (o42 I T Q i m hI hT hm hi hL hn)
  | j + 43, h =>
    rw [sw_off (j + 43) (by omega) h]
    exact s_W_main_1543 (hn I T hI (TI_up hT (Nat.le_succ m)))
theorem m_loop {Inv : II → Prop} {E : MEnv} (hL : E.2.1 ≤ 4608) (o0 : op_ok Inv E t_W_main_25) (o1 : op_ok Inv E t_W_main_82) (o2 : op_ok Inv E t_W_main_117) (o3 : op_ok Inv E t_W_main_152) (o4 : op_ok Inv E t_W_main_187) (o5 : op_ok Inv E t_W_main_222) (o6 : op_ok Inv E t_W_main_229) (o7 : op_ok Inv E t_W_main_236) (o8 : op_ok Inv E t_W_main_271) (o9 : op_ok Inv E t_W_main_316) (o10 : op_ok Inv E t_W_main_361) (o11 : op_ok Inv E t_W_main_396) (o12 : op_ok Inv E t_W_main_441) (o13 : op_ok Inv E t_W_main_546) (o14 : op_ok Inv E t_W_main_581) (o15 : op_ok Inv E t_W_main_588) (o16 : op_ok Inv E t_W_main_595) (o17 : op_ok Inv E t_W_main_640) (o18 : op_ok Inv E t_W_main_685) (o19 : op_ok Inv E t_W_main_692) (o20 : op_ok Inv E t_W_main_727) (o21 : op_ok Inv E t_W_main_762) (o22 : op_ok Inv E t_W_main_797) (o23 : op_ok Inv E t_W_main_832) (o24 : op_ok Inv E t_W_main_887) (o25 : op_ok Inv E t_W_main_951) (o26 : op_ok Inv E t_W_main_1006) (o27 : op_ok Inv E t_W_main_1041) (o28 : op_ok Inv E t_W_main_1076) (o29 : op_ok Inv E t_W_main_1111) (o30 : op_ok Inv E t_W_main_1146) (o31 : op_ok Inv E t_W_main_1153) (o32 : op_ok Inv E t_W_main_1160) (o33 : op_ok Inv E t_W_main_1205) (o34 : op_ok Inv E t_W_main_1240) (o35 : op_ok Inv E t_W_main_1275) (o36 : op_ok Inv E t_W_main_1310) (o37 : op_ok Inv E t_W_main_1345) (o38 : op_ok Inv E t_W_main_1410) (o39 : op_ok Inv E t_W_main_1495) (o40 : op_ok Inv E t_W_main_1502) (o41 : op_ok Inv E t_W_main_1509) (o42 : op_ok Inv E t_W_main_1526) : ∀ (d i m : Nat) (I : II) (T : TT) (Q : QQ), E.2.1 < i + 9 * d + 9 → i ≤ 9 * m → 9 * m ≤ i → Inv I → TI T m → (∀ (I' : II) (T' : TT) (m' : Nat), m' ≤ 512 → TI T' m' → Q (.inl (some (.int 1))) I' T') → i ≤ E.2.1 → t_W_main_13 E I T Q (nI i)
  | d, i, m, I, T, Q, hd, h1, h2, hI, hT, hQ, hi => by
    have e9 : (Int32.ofNat E.2.1 - 9 < nI i) ↔ E.2.1 < i + 9 := by
      rw [fa_lt, show Int32.ofNat E.2.1 = nI E.2.1 from rfl, show (9 : Int32) = nI 9 from rfl, pk_sub_toInt (by omega) (by omega), nI_toInt (by omega)]
      omega
    unfold t_W_main_13
    refine ⟨fun _ => ?_, fun hc => ?_⟩
    · exact hQ I T (min m 512) (Nat.min_le_right _ _) (by
        rw [show min m 512 = m from Nat.min_eq_left (by omega)]
        exact hT)
    · rw [e9] at hc
      have hi9 : i + 9 ≤ E.2.1 := by omega
      refine ⟨⟨nI_pos (by omega), by rw [nI_clamp (by omega)]; omega⟩, ?_⟩
      obtain ⟨j, hj, ej⟩ := pk_andE (E.2.2 (nI i).toNatClampNeg) (m := 63) 6 rfl
      rw [ej]
      refine m_case o0 o1 o2 o3 o4 o5 o6 o7 o8 o9 o10 o11 o12 o13 o14 o15 o16 o17 o18 o19 o20 o21 o22 o23 o24 o25 o26 o27 o28 o29 o30 o31 o32 o33 o34 o35 o36 o37 o38 o39 o40 o41 o42 I T Q i m j hj hI hT (by omega) hi9 hL (fun I' T' hI' hT' => ?_)
      unfold t_W_main_1543
      refine s_W_main_13 ?_
      rw [show nI i + 9 = nI (i + 9) from nI_add i 9]
      match d, hd with
      | 0, hd => exact absurd hd (by omega)
      | d + 1, hd => exact m_loop hL o0 o1 o2 o3 o4 o5 o6 o7 o8 o9 o10 o11 o12 o13 o14 o15 o16 o17 o18 o19 o20 o21 o22 o23 o24 o25 o26 o27 o28 o29 o30 o31 o32 o33 o34 o35 o36 o37 o38 o39 o40 o41 o42 d (i + 9) (m + 1) I' T' Q (by omega) (by omega) (by omega) hI' hT' hQ (by omega)
theorem m_law_of {Inv : II → Prop} (h0 : ∀ I, c_I0 I → Inv I) (hops : ∀ E : MEnv, E.2.1 ≤ 4608 → E.1 = 16 → op_ok Inv E t_W_main_25 ∧ op_ok Inv E t_W_main_82 ∧ op_ok Inv E t_W_main_117 ∧ op_ok Inv E t_W_main_152 ∧ op_ok Inv E t_W_main_187 ∧ op_ok Inv E t_W_main_222 ∧ op_ok Inv E t_W_main_229 ∧ op_ok Inv E t_W_main_236 ∧ op_ok Inv E t_W_main_271 ∧ op_ok Inv E t_W_main_316 ∧ op_ok Inv E t_W_main_361 ∧ op_ok Inv E t_W_main_396 ∧ op_ok Inv E t_W_main_441 ∧ op_ok Inv E t_W_main_546 ∧ op_ok Inv E t_W_main_581 ∧ op_ok Inv E t_W_main_588 ∧ op_ok Inv E t_W_main_595 ∧ op_ok Inv E t_W_main_640 ∧ op_ok Inv E t_W_main_685 ∧ op_ok Inv E t_W_main_692 ∧ op_ok Inv E t_W_main_727 ∧ op_ok Inv E t_W_main_762 ∧ op_ok Inv E t_W_main_797 ∧ op_ok Inv E t_W_main_832 ∧ op_ok Inv E t_W_main_887 ∧ op_ok Inv E t_W_main_951 ∧ op_ok Inv E t_W_main_1006 ∧ op_ok Inv E t_W_main_1041 ∧ op_ok Inv E t_W_main_1076 ∧ op_ok Inv E t_W_main_1111 ∧ op_ok Inv E t_W_main_1146 ∧ op_ok Inv E t_W_main_1153 ∧ op_ok Inv E t_W_main_1160 ∧ op_ok Inv E t_W_main_1205 ∧ op_ok Inv E t_W_main_1240 ∧ op_ok Inv E t_W_main_1275 ∧ op_ok Inv E t_W_main_1310 ∧ op_ok Inv E t_W_main_1345 ∧ op_ok Inv E t_W_main_1410 ∧ op_ok Inv E t_W_main_1495 ∧ op_ok Inv E t_W_main_1502 ∧ op_ok Inv E t_W_main_1509 ∧ op_ok Inv E t_W_main_1526) : m_law_ok := by
  intro L xs hL
  obtain ⟨I, J, hI, hgo⟩ := c_begin (L, xs)
  obtain ⟨o0, o1, o2, o3, o4, o5, o6, o7, o8, o9, o10, o11, o12, o13, o14, o15, o16, o17, o18, o19, o20, o21, o22, o23, o24, o25, o26, o27, o28, o29, o30, o31, o32, o33, o34, o35, o36, o37, o38, o39, o40, o41, o42⟩ := hops (16, L, xs) hL rfl
  obtain ⟨n, o, I', T', h1, h2⟩ := hgo (fun o I' T' => o = .inl (some (.int 1)) ∧ T'.2.1 ≤ 601024 ∧ T'.2.2 ≤ 7293034) (s_W_main_13 (m_loop (Inv := Inv) (E := (16, L, xs)) hL o0 o1 o2 o3 o4 o5 o6 o7 o8 o9 o10 o11 o12 o13 o14 o15 o16 o17 o18 o19 o20 o21 o22 o23 o24 o25 o26 o27 o28 o29 o30 o31 o32 o33 o34 o35 o36 o37 o38 o39 o40 o41 o42 512 0 0 I (J, 537, 8980) _ (by show L < _; omega) (by omega) (by omega) (h0 I hI) ⟨Nat.le_refl 537, Nat.le_refl 537, Nat.le_refl 8980⟩ (fun I' T' m' hm' hT' => ⟨rfl, by have := hT'.2.1; omega, by have := hT'.2.2; omega⟩) (Nat.zero_le _)))
  obtain ⟨rfl, h3, h4⟩ := h2
  exact ⟨n, hp I' T', h1, h3, h4⟩
