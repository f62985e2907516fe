/-! ===== steady: pure ===== -/
def pw (b : Int32) : Nat → Int64 → Int64
  | 0, a => a
  | d + 1, a => pw b d (a * b.toInt64)
def wy (m : Int32) : Nat → Nat → Int64 → Int64
  | 0, _, a => a
  | d + 1, j, a => wy m d (j + 1) ((a * ((m + nI j).toInt64)) / (nI j).toInt64)
def smX (n q : Nat) : Nat → Nat → Int64 → Int64
  | 0, _, a => a
  | d + 1, j, a => smX n q d (j + 1) (a + ((wy (nI n - nI j) j 1 1 * pw (16 - nI q) j 1) * pw (nI q) (n - j) 1))
def cv2 : Nat → Int64 → Int64 → Int64
  | 0, a, _ => a
  | d + 1, a, b => if lg_cmp b 0 = 0 then a else cv2 d b (a - a / b * b)
def gM : Nat → Int64 → Int64 → Option Int64
  | 0, _, _ => none
  | d + 1, a, b => if lg_cmp b 0 = 0 then some a else gM d b (a - a / b * b)
def nxL (q : Nat) (l : List Int64) : List Int64 := List.zipWith (fun a b => a * (nI q).toInt64 + b) l (0 :: l.map (fun b => b * (16 - nI q).toInt64))
def rwL (q : Nat) : Nat → List Int64
  | 0 => 1 :: List.replicate 13 0
  | n + 1 => nxL q (rwL q n)
def skL (l : List Int64) (k : Nat) : Int64 := (l.drop k).foldl (fun a b => a + b) 0
def totM (n : Nat) : Int64 := 1 <<< ((4 * nI n).toInt64 &&& 63)
def chS (n q k : Nat) (S : Int64) : Bool := decide (S = smX n q (n + 1 - k) k 0) && decide (gM 200 (totM n) S = some (cv2 200 S (totM n))) && decide (cv2 200 S (totM n) ≠ 0)
def chR (n q : Nat) (l : List Int64) : Bool := (List.range 14).all (fun k => chS n q k (skL l k))
theorem tot_eq : ∀ n : Fin 13, totM n.val = pw 16 n.val 1 := by decide +kernel

theorem ch_0 : ∀ q : Fin 17, chR 0 q.val (rwL q.val 0) = true := by decide +kernel
theorem ch_1 : ∀ q : Fin 17, chR 1 q.val (rwL q.val 1) = true := by decide +kernel
theorem ch_2 : ∀ q : Fin 17, chR 2 q.val (rwL q.val 2) = true := by decide +kernel
theorem ch_3 : ∀ q : Fin 17, chR 3 q.val (rwL q.val 3) = true := by decide +kernel
theorem ch_4 : ∀ q : Fin 17, chR 4 q.val (rwL q.val 4) = true := by decide +kernel
theorem ch_5 : ∀ q : Fin 17, chR 5 q.val (rwL q.val 5) = true := by decide +kernel
theorem ch_6 : ∀ q : Fin 17, chR 6 q.val (rwL q.val 6) = true := by decide +kernel
theorem ch_7 : ∀ q : Fin 17, chR 7 q.val (rwL q.val 7) = true := by decide +kernel
theorem ch_8 : ∀ q : Fin 17, chR 8 q.val (rwL q.val 8) = true := by decide +kernel
theorem ch_9 : ∀ q : Fin 17, chR 9 q.val (rwL q.val 9) = true := by decide +kernel
theorem ch_10 : ∀ q : Fin 17, chR 10 q.val (rwL q.val 10) = true := by decide +kernel
theorem ch_11 : ∀ q : Fin 17, chR 11 q.val (rwL q.val 11) = true := by decide +kernel
theorem ch_12 : ∀ q : Fin 17, chR 12 q.val (rwL q.val 12) = true := by decide +kernel
theorem ch_all {n q : Nat} (hn : n ≤ 12) (hq : q ≤ 16) : chR n q (rwL q n) = true := by
  match n, hn with
  | 0, _ => exact ch_0 ⟨q, by omega⟩
  | 1, _ => exact ch_1 ⟨q, by omega⟩
  | 2, _ => exact ch_2 ⟨q, by omega⟩
  | 3, _ => exact ch_3 ⟨q, by omega⟩
  | 4, _ => exact ch_4 ⟨q, by omega⟩
  | 5, _ => exact ch_5 ⟨q, by omega⟩
  | 6, _ => exact ch_6 ⟨q, by omega⟩
  | 7, _ => exact ch_7 ⟨q, by omega⟩
  | 8, _ => exact ch_8 ⟨q, by omega⟩
  | 9, _ => exact ch_9 ⟨q, by omega⟩
  | 10, _ => exact ch_10 ⟨q, by omega⟩
  | 11, _ => exact ch_11 ⟨q, by omega⟩
  | 12, _ => exact ch_12 ⟨q, by omega⟩
