/-! ===== steady: the class ===== -/
section STEADYC
variable {E : MEnv} {I : II} {T : TT} {Q : QQ}
theorem l_pow {b : Int32} {e : Nat} (he : e ≤ 13) : ∀ (d k : Nat) (a : Int64), k + d = e → Q (.inl (some (.long (pw b d a)))) I T → t_X_power_4 E I T Q b (nI e) a (nI k)
  | 0, k, a, hk, hq => by
    unfold t_X_power_4
    exact bq_t (nI_le (by omega) (by omega)) hq
  | d + 1, k, a, hk, hq => by
    unfold t_X_power_4
    refine bq_f (nI_ge (by omega) (by omega)) ?_
    rw [nI_1]
    exact s_X_power_4 (l_pow he d (k + 1) _ (by omega) hq)
theorem q_pow {b : Int32} {e : Nat} (he : e ≤ 13) (hq : Q (.inl (some (.long (pw b e 1)))) I T) : ev E 272 0 [some (.int b), some (.int (nI e)), none, none, none] [] I T Q := s_X_power_0 (l_pow he e 0 1 (by omega) hq)
theorem nz13 : ∀ j : Fin 15, 1 ≤ j.val → (nI j.val).toInt64 ≠ 0 := by decide +kernel
theorem l_ways {n k : Nat} (hk : k ≤ 13) : ∀ (d j : Nat) (a : Int64), j + d = k + 1 → 1 ≤ j → Q (.inl (some (.long (wy (nI n - nI k) d j a)))) I T → t_X_ways_4 E I T Q (nI n) (nI k) a (nI j)
  | 0, j, a, hj, h1, hq => by
    unfold t_X_ways_4
    exact bq_t (nI_lt (by omega) (by omega)) hq
  | d + 1, j, a, hj, h1, hq => by
    unfold t_X_ways_4
    refine bq_f (nI_nlt (by omega) (by omega)) ⟨nz13 ⟨j, by omega⟩ h1, ?_⟩
    rw [nI_1]
    exact s_X_ways_4 (l_ways hk d (j + 1) _ (by omega) (by omega) hq)
theorem q_ways {n k : Nat} (hk : k ≤ 13) (hq : Q (.inl (some (.long (wy (nI n - nI k) k 1 1)))) I T) : ev E 271 0 [some (.int (nI n)), some (.int (nI k)), none, none, none] [] I T Q := s_X_ways_0 (l_ways hk k 1 1 (by omega) (by omega) hq)
theorem l_cdv : ∀ (d x : Nat) (a b : Int64), x + d = 200 → Q (.inl (some (.long (cv2 d a b)))) I T → t_X_commonDivisor_6 E I T Q a b (nI x)
  | 0, x, a, b, hx, hq => by
    unfold t_X_commonDivisor_6 t_X_commonDivisor_23
    have e : x = 200 := by omega
    subst e
    exact bq_t (by decide) hq
  | d + 1, x, a, b, hx, hq => by
    unfold t_X_commonDivisor_6 t_X_commonDivisor_23
    refine bq_f (nI_ge (a := x) (b := 200) (by omega) (by omega)) ?_
    rw [cv2] at hq
    by_cases c : lg_cmp b 0 = 0
    · rw [if_pos c] at hq
      exact bq_t c hq
    · rw [if_neg c] at hq
      refine bq_f c ⟨fun e => c ((lg_cmp_eq _ _).mpr e), ?_⟩
      rw [nI_1]
      exact s_X_commonDivisor_6 (l_cdv d (x + 1) _ _ (by omega) hq)
theorem q_cdv {a b : Int64} (hq : Q (.inl (some (.long (cv2 200 a b)))) I T) : ev E 273 0 [some (.long a), none, some (.long b), none, none, none, none, none, none, none, none] [] I T Q := s_X_commonDivisor_0 (l_cdv 200 0 a b (by omega) hq)
/-- the answer -/
def stV (part : Nat) (S v g : Int64) : Int64 := if part = 0 then S / g else v / g
theorem l_xst {n q part : Nat} (hn : n ≤ 12) (hq16 : q ≤ 16) (hp : part ≤ 1) : ∀ (d j : Nat) (a : Int64), (j + d = n + 1 ∨ (d = 0 ∧ n < j)) → j ≤ 13 → cv2 200 (smX n q d j a) (pw 16 n 1) ≠ 0 → Q (.inl (some (.long (stV part (smX n q d j a) (pw 16 n 1) (cv2 200 (smX n q d j a) (pw 16 n 1)))))) I T → t_X_steady_29 E I T Q (nI n) (nI q) (nI part) a (nI j)
  | 0, j, a, hj, h13, hz, hq => by
    have e0 : smX n q 0 j a = a := rfl
    rw [e0] at hz hq
    unfold t_X_steady_29 t_X_steady_76
    refine bq_t (nI_lt (by omega) (by omega)) ?_
    refine q_pow (by omega) ?_
    refine q_cdv ?_
    refine bq_f (fun c => hz ((lg_cmp_eq _ _).mp c)) ?_
    unfold stV at hq
    by_cases c : part = 0
    · rw [if_pos c] at hq
      exact bq_t (by rw [c]; rfl) ⟨hz, hq⟩
    · rw [if_neg c] at hq
      exact bq_f (fun y => c ((nI_eq (a := part) (b := 0) (by omega) (by omega)).mp y)) ⟨hz, hq⟩
  | d + 1, j, a, hj, h13, hz, hq => by
    unfold t_X_steady_29
    refine bq_f (nI_nlt (by omega) (by omega)) ?_
    refine q_ways (by omega) ?_
    refine q_pow (by omega) ?_
    have e : (nI n - nI j : Int32) = nI (n - j) := pk_sub (by omega)
    show ev E 272 0 [some (.int (nI q)), some (.int (nI n - nI j)), none, none, none] [] I T _
    have eS : smX n q (d + 1) j a = smX n q d (j + 1) (a + wy (nI (n - j)) j 1 1 * pw (16 - nI q) j 1 * pw (nI q) (n - j) 1) := by rw [smX, e]
    rw [eS] at hz hq
    rw [e]
    refine q_pow (by omega) ?_
    rw [nI_1]
    exact s_X_steady_29 (l_xst hn hq16 hp d (j + 1) _ (by omega) (by omega) hz hq)
theorem xq_steady (hT : TG T) {n k q part : Nat} (hn : n ≤ 12) (hk : k ≤ 13) (hq16 : q ≤ 16) (hp : part ≤ 1) (hz : cv2 200 (smX n q (n + 1 - k) k 0) (pw 16 n 1) ≠ 0) (hq : Q (.inl (some (.long (stV part (smX n q (n + 1 - k) k 0) (pw 16 n 1) (cv2 200 (smX n q (n + 1 - k) k 0) (pw 16 n 1)))))) I T) : ev E 270 0 [some (.ref 0), some (.int (nI n)), some (.int (nI k)), some (.int (nI q)), some (.int (nI part)), none, none, none, none, none, none] [] I T Q := by
  refine s_X_steady_0 ?_
  unfold t_X_steady_0 t_X_steady_23 t_X_steady_24
  refine q_within _ _ _ ?_
  rw [show wI (nI n) 0 12 = 1 from wI_n (b := 12) hn (by decide)]
  refine bq_f (by decide) ?_
  refine q_within _ _ _ ?_
  rw [show wI (nI k) 0 13 = 1 from wI_n (b := 13) hk (by decide)]
  refine bq_f (by decide) ?_
  refine q_within _ _ _ ?_
  rw [show wI (nI q) 0 16 = 1 from wI_n (b := 16) hq16 (by decide)]
  refine bq_f (by decide) ?_
  refine q_within _ _ _ ?_
  rw [show wI (nI part) 0 1 = 1 from wI_n (b := 1) hp (by decide)]
  refine bq_f (by decide) ?_
  refine q_need hT _ (fun _ => ?_) (fun q => absurd q (by decide))
  exact l_xst hn hq16 hp (n + 1 - k) k 0 (by omega) hk hz hq
end STEADYC
