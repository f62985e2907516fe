/-! ===== the induction: a run of the mini machine is a run of the machine ===== -/
theorem m_nat_a {a b c : Nat} (h1 : a ≤ b) (h2 : b ≤ c) : b - a + (c - b) = c - a := by omega
theorem m_nat_b {a b c d : Nat} (h1 : a ≤ b) (h2 : b ≤ c) (h3 : c ≤ d) {r : Nat} (h4 : d - a ≤ r) : b - a + (c - b) ≤ r := by omega
theorem m_st_wds {n : Nat} {G : MG} (hf : (g_fv G).category = 1) {st : List Value} (h : m_wds st ≤ n) : ((st.map (g_cv G)).map fun v => v.category).sum ≤ n := by
  rw [m_wds_cv hf]; exact h
theorem m_arw : nativeFrameWords "java/lang/System" "arraycopy" 5 ≤ 100 := by decide
section MSB
variable {l : Launch} {G : MG}
set_option maxHeartbeats 8000000 in
theorem m_body (hwf : m_WF) : ∀ n, m_Body l G n
  | 0 => by
    intro E k ip loc st h h0 o h' hr
    cases hr
  | n + 1 => by
    have IH := m_body hwf n
    intro E k ip loc st h h0 o h' hr hk p e R s m args below meth c ctx pc ls H locs tag ins info hcode hLV hlen hokl hoks hHR hb1 hb2 hR1 hR2 hHP hS
    obtain ⟨z1, z2, z3, z4⟩ := m_run_ok (n + 1) E k ip loc st h o h' hr hokl hoks hHR
    have ctx' := ctx
    obtain ⟨hx, hb, hrt, hml, hown, hts, hE, hlk, hini, htab, htr, hfr, hlo⟩ := ctx'
    have hf : (g_fv G).category = 1 := hE.2.2.2.2.2.1.2.2
    have hw := hwf.1 k hk ip (m_code_lt hcode)
    have hls : ls.size = m_maxl k := by rw [hLV.1]; exact hlen
    unfold wfE at hw
    unfold m_run at hr
    rw [hcode] at hr hw
    simp only at hr
    split at hr
    · -- 0: locals and stack
      simp only [Bool.and_eq_true, decide_eq_true_eq] at hw
      split at hr
      · cases hr
      · rename_i q hq
        obtain ⟨l', s'⟩ := q
        obtain ⟨a1, a2⟩ := m_pure_ok hq hokl hoks
        obtain ⟨e9, n1, n2⟩ := m_nxt_spec hw.2
        obtain ⟨t9, p9, i9, f9⟩ := e9
        refine m_sim_pure hx hb hf hw.1 hq hLV (fun ls' hl' => ?_)
        have := IH E k (ip + 1) l' s' h h0 o h' hr hk p e R s m args below meth c ctx p9 ls' H locs t9 i9 f9 n1 hl' (by rw [m_pure_len hq]; exact hlen) a1 a2 hHR hb1 hb2 hR1 hR2 hHP hS
        rw [show p9 = pc + m_len ins from n2] at this
        exact this
    · -- 1: heap
      simp only [Bool.and_eq_true, decide_eq_true_eq] at hw
      split at hr
      · cases hr
      · rename_i q hq
        obtain ⟨s', h1⟩ := q
        obtain ⟨a1, a2, a3, a4⟩ := m_heap_ok hq hoks hHR
        obtain ⟨y1, y2, y3, y4⟩ := m_run_ok n E k (ip + 1) loc s' h1 o h' hr (m_okl_mono a1 hokl) a3 a4
        obtain ⟨e9, n1, n2⟩ := m_nxt_spec hw.1.2
        obtain ⟨t9, p9, i9, f9⟩ := e9
        refine m_sim_heap hx hb hown hts hE hHP hS (ini := decide ((m_y k).name = "<init>")) (fun q => hini (of_decide_eq_true q)) hw.2 hq hoks hw.1.1 (m_nat_b hb1 a1 y1 hR1) (m_nat_b hb2 a2 y2 hR2) (fun H' locs' hHP' hS' => ?_)
        have := IH E k (ip + 1) loc s' h1 h0 o h' hr hk p e R s m args below meth c ctx p9 ls H' locs' t9 i9 f9 n1 hLV hlen (m_okl_mono a1 hokl) a3 a4 (Nat.le_trans hb1 a1) (Nat.le_trans hb2 a2) hR1 hR2 hHP' hS'
        rw [show p9 = pc + m_len ins from n2] at this
        rw [m_nat_a hb1 a1, m_nat_a hb2 a2]
        exact this
    · -- 2: jumps
      simp only [Bool.and_eq_true] at hw
      split at hr
      · cases hr
      · rename_i q hq
        obtain ⟨i', s'⟩ := q
        refine m_sim_jump hx hb hq hw.2 ?_ (fun e9 n1 => ?_)
        · have hw1 := hw.1
          split at hw1
          · rename_i q9 hd9
            simp only [Bool.and_eq_true, Bool.or_eq_true, decide_eq_true_eq] at hw1
            obtain ⟨b1, b2⟩ := hw1
            refine ⟨q9.2, by rw [hd9, ← b1], ?_⟩
            rcases b2 with b2 | b2
            · exact Or.inl b2
            · refine Or.inr ?_
              split at b2
              · exact Or.inl ⟨_, _, _, _, rfl⟩
              · exact Or.inr ⟨_, _, rfl⟩
              · cases b2
          · cases hw1
        · obtain ⟨t9, p9, i9, f9⟩ := e9
          exact IH E k i' loc s' h h0 o h' hr hk p e R s m args below meth c ctx p9 ls H locs t9 i9 f9 n1 hLV hlen hokl (m_jump_ok hq hoks) hHR hb1 hb2 hR1 hR2 hHP hS
    · -- 3: return
      simp only [decide_eq_true_eq] at hw
      split at hr
      · cases hr
      · rename_i v hv
        cases hr
        exact vx_ret (m_sim_ret hx hb hrt hlk hv hw (fun t ht _ => ⟨v, rfl, rfl, by rw [ht]; exact hHP, hS.F ht⟩) hS.2.2)
    · -- 4: calls
      simp only [Bool.and_eq_true, decide_eq_true_eq] at hw
      obtain ⟨⟨⟨hd, hnx⟩, hwc⟩, hwh⟩ := hw
      split at hr
      · cases hr
      · rename_i q hq
        obtain ⟨y, as, rest, E'⟩ := q
        obtain ⟨n9, rc, kind, w, ci, inf, einfo, -, eas, erest, hw8, hwm, -, -⟩ := m_call_spec hq
        have kas : ∀ v ∈ as, m_okv h v := fun v hv => hoks v (List.mem_of_mem_take (by rw [eas] at hv; exact List.mem_reverse.mp hv))
        have krest : ∀ v ∈ rest, m_okv h v := fun v hv => hoks v (List.mem_of_mem_drop (by rw [erest] at hv; exact hv))
        have hyy : y < 336 ∧ y ≠ 0 := by
          rw [einfo] at hwc
          simp only [wf_call, Bool.and_eq_true, decide_eq_true_eq] at hwc
          exact ⟨hwc.1.1.1.1.1, hwc.1.1.1.1.2⟩
        split at hr
        · cases hr
        · rename_i v h1 hc
          obtain ⟨a1, a2, a3, a4⟩ := m_run_ok n E' y 0 _ [] h _ h1 hc (m_eloc_ok as _ kas) (fun v hv => by cases hv) hHR
          have ks : ∀ u ∈ v.toList ++ rest, m_okv h1 u := fun u hu => by
            rcases List.mem_append.mp hu with hu | hu
            · exact a4 v rfl u hu
            · exact m_okv_mono a1 (krest u hu)
          obtain ⟨y1, y2, y3, y4⟩ := m_run_ok n E k (ip + 1) loc _ h1 o h' hr (m_okl_mono a1 hokl) ks a3
          obtain ⟨e9, n1, n2⟩ := m_nxt_spec hnx
          obtain ⟨t9, p9, i9, f9⟩ := e9
          refine m_sim_callr hwf ctx hq hwc hd hoks hHP hS hls (m_contract hwf htr IH hc hyy.1 hyy.2 kas hHR hwm) (m_nat_b hb1 a1 y1 hR1) (m_nat_b hb2 a2 y2 hR2) (fun H1 locs1 hHP1 hS1 => ?_)
          have := IH E k (ip + 1) loc _ h1 h0 o h' hr hk p e R s m args below meth c ctx p9 ls H1 locs1 t9 i9 f9 n1 hLV hlen (m_okl_mono a1 hokl) ks a3 (Nat.le_trans hb1 a1) (Nat.le_trans hb2 a2) hR1 hR2 hHP1 hS1
          rw [show p9 = pc + 3 from n2] at this
          rw [m_nat_a hb1 a1, m_nat_a hb2 a2]
          exact this
        · rename_i x h1 hc
          obtain ⟨a1, a2, a3, a4⟩ := m_run_ok n E' y 0 _ [] h _ h1 hc (m_eloc_ok as _ kas) (fun v hv => by cases hv) hHR
          split at hr
          · cases hr
          · rename_i hkx
            have hk0 : k ≠ 0 := fun q => hkx (Or.inl q)
            have hkd : info.getD 3 0 = 1 := Decidable.byContradiction (fun q => hkx (Or.inr q))
            have ht := htab hk0
            unfold wf_hnd at hwh
            rw [Bool.and_eq_true, decide_eq_true_eq] at hwh
            obtain ⟨hl9, ha9⟩ := hwh
            have ha9 : ((m_hh k).zip (m_hs k)).all (m_hent k ip pc) = true := ha9
            split at hr
            · rename_i hfind
              cases hr
              refine m_sim_callt hwf ctx hq hkd hwc hd hoks hHP hS hls (m_contract hwf htr IH hc hyy.1 hyy.2 kas hHR hwm) (m_nat_b hb1 a1 (Nat.le_refl _) hR1) (m_nat_b hb2 a2 (Nat.le_refl _) hR2) (fun ce q9 H1 locs1 hHP1 hS1 hce hcv hcl hx2 => ?_)
              refine vx_outP hown hlk (fun z hz => ?_) hce hcv hcl (fun t ht9 _ => ⟨x, rfl, hx2, rfl, by rw [ht9]; exact hHP1, hS1.F ht9⟩) hS1.2.2 (Nat.le_of_eq (m_nat_a hb1 a1)) (Nat.le_of_eq (m_nat_a hb2 a2))
              rw [ht] at hz
              exact m_hnone hE hts hx2 (m_hh k) (m_hs k) hl9 ha9 hfind z hz
            · rename_i hp hfind
              obtain ⟨y1, y2, y3, y4⟩ := m_run_ok n E k (hp + 1) _ [] h1 o h' hr (fun v hv => by
                  obtain ⟨z, -, hz⟩ := List.mem_map.mp hv
                  cases hz) (fun v hv => by cases hv) a3
              refine m_sim_callt hwf ctx hq hkd hwc hd hoks hHP hS hls (m_contract hwf htr IH hc hyy.1 hyy.2 kas hHR hwm) (m_nat_b hb1 a1 y1 hR1) (m_nat_b hb2 a2 y2 hR2) (fun ce q9 H1 locs1 hHP1 hS1 hce hcv hcl hx2 => ?_)
              obtain ⟨pre, z, suf, b1, b2, b3, b4, b5, e9, b6, b7, b8, b9, b10⟩ := m_hsome hE hts hx2 (m_hh k) (m_hs k) hl9 ha9 hfind
              obtain ⟨e8, n1, n2⟩ := m_nxt_spec b8
              obtain ⟨t9, p9, i9, f9⟩ := e8
              refine vx_catch hown pre z suf (ht.trans b1) b2 b3 b4 b5 (m_hcast hE hx2) hce hcv hcl ?_
              have fin : ∀ ls' : Array Slot, ls'.size = loc.length → lv_wf ls' → W p l e R s m args below meth c H1 locs1 (h.1 - h0.1 + (h1.1 - h.1)) (h.2.1 - h0.2.1 + (h1.2.1 - h.2.1)) (vx_MQ below (m_Qc G o h') (m_Xc G o h') args s (h'.1 - h0.1) (h'.2.1 - h0.2.1) (g_A G)) (F0 m p9 ls' []) := by
                intro ls' q1 q2
                have := IH E k (hp + 1) (loc.map fun _ => none) [] h1 h0 o h' hr hk p e R s m args below meth c ctx p9 ls' H1 locs1 t9 i9 f9 n1 (m_LV_none _ _ q1 q2) (by rw [List.length_map]; exact hlen) (fun v hv => by
                  obtain ⟨z, -, hz⟩ := List.mem_map.mp hv
                  cases hz) (fun v hv => by cases hv) a3 (Nat.le_trans hb1 a1) (Nat.le_trans hb2 a2) hR1 hR2 hHP1 hS1
                rw [m_nat_a hb1 a1, m_nat_a hb2 a2]
                exact this
              have n2 : p9 = e9.2.1 + m_len e9.2.2.1 := n2
              rw [← b7]
              rcases b10 with ⟨i, hi1, hi2⟩ | ⟨i, hi1, hi2⟩
              · rw [hi1] at b9 n2
                refine lv_astore hx hb b9 (m_LV_has hLV) (by rw [hlen]; exact hi2) rfl (fun ls' h9 => ?_)
                have := fin ls' h9.1 h9.2.1
                rw [n2] at this
                exact this
              · rw [hi1] at b9 n2
                refine lv_astore_n hx hb b9 rfl (m_LV_has hLV) (by rw [hlen]; exact hi2) rfl (fun ls' h9 => ?_)
                have := fin ls' h9.1 h9.2.1
                rw [n2] at this
                exact this
    · -- 5: throws
      split at hr
      · rename_i x inf0
        split at hr
        · rename_i hc
          cases hr
          obtain ⟨hc1, hc2, hc3⟩ := hc
          simp only at hw
          unfold wf_thr at hw
          split at hw
          · rename_i ik x9 w is ic sk inf2 hinf
            cases hinf
            simp only [Bool.and_eq_true, decide_eq_true_eq] at hw
            obtain ⟨⟨⟨⟨⟨⟨⟨⟨⟨⟨⟨⟨⟨⟨g1, g2⟩, g3⟩, g4⟩, g5⟩, g6⟩, g7⟩, g8⟩, g9⟩, g10⟩, g11⟩, g12⟩, g13⟩, g14⟩, g15⟩ := hw
            have ht := htab g13
            rw [g11] at ht
            have hstr := hE.2.2.2.1.1 sk g10
            rw [← g8, ← g9, g15] at hstr
            rw [g15] at g7 hown
            have hfr9 : 6 ≤ R.frames := by omega
            have hlo9 : 384 ≤ R.locals := by omega
            have hsum := m_st_wds hf hc3
            have hcl1 : h.1 - h0.1 + 1 ≤ h.1 + 1 - h0.1 := by omega
            have hcl2 : h.2.1 - h0.2.1 + 6 ≤ h.2.1 + 6 - h0.2.1 := by omega
            have hrc1 : h.1 + 1 - h0.1 ≤ R.cells := hR1
            have hrc2 : h.2.1 + 6 - h0.2.1 ≤ R.slots := hR2
            have hXC : ∀ t : State, s.vm.Alike t.vm → t.heap.size = H.size + 1 → (∀ q : Nat, q < H.size → t.heap[q]? = H[q]?) → m_Xc G (.inr x) (h.1 + 1, h.2.1 + 6, h.2.2) (m_exn x) s t := fun t _ hz hq => ⟨x, rfl, g1, rfl, m_HP_exn hHP hc1 hc2 hz hq, by rw [hz]; exact Nat.le_succ_of_le hS.1, fun q q1 q2 => by rw [hq q (Nat.lt_of_lt_of_le q1 hS.1)]; exact hS.2.1 q q1 q2⟩
            have hq : x = 0 ∨ x = 1 := by omega
            rcases hq with rfl | rfl
            · subst g14
              exact n_throwSW (names := m_names) (cls := m_exn 0) hx hb htr m_atd0.1 m_atd0.2.1 m_atd0.2.2.1 m_atd0.2.2.2 hown m_atf0 m_atn (m_tbw hts g7 rfl) (m_tbw hts m_ati0 rfl) hstr (by rw [m_at0]; exact m_at_all hE hts m_atg0) (List.all_eq_true.mp (m_ato0 ik)) hE.2.2.2.2.1.1 hE.2.2.2.2.1.2 hS (hls.trans hml.symm) g2 g3 g4 g5 g6 (by rw [ht]; intro z hz; cases hz) (by show 2 + 3 < R.frames; omega) (by show _ + (13 * (2 + 1) + 43) ≤ R.locals; omega) (Nat.le_trans hcl1 hrc1) (Nat.le_trans hcl2 hrc2) hlk hXC hS.2.2 hcl1 hcl2
            · subst g14
              exact n_throwSW (names := m_names) (cls := m_exn 1) hx hb htr m_atd1.1 m_atd1.2.1 m_atd1.2.2.1 m_atd1.2.2.2 hown m_atf1 m_atn (m_tbw hts g7 rfl) (m_tbw hts m_ati1 rfl) hstr (by rw [m_at1]; exact m_at_all hE hts m_atg1) (List.all_eq_true.mp (m_ato1 ik)) hE.2.2.2.2.1.1 hE.2.2.2.2.1.2 hS (hls.trans hml.symm) g2 g3 g4 g5 g6 (by rw [ht]; intro z hz; cases hz) (by show 2 + 3 < R.frames; omega) (by show _ + (13 * (2 + 1) + 43) ≤ R.locals; omega) (Nat.le_trans hcl1 hrc1) (Nat.le_trans hcl2 hrc2) hlk hXC hS.2.2 hcl1 hcl2
          · cases hw
        · cases hr
      · cases hr
    · -- 6: arraycopy
      simp only [Bool.and_eq_true, decide_eq_true_eq] at hw
      obtain ⟨⟨⟨hd, hnx⟩, hwp⟩, hrk⟩ := hw
      split at hr
      · cases hr
      · rename_i q hq
        obtain ⟨s', h1⟩ := q
        split at hr
        · rename_i h40
          obtain ⟨a1, a2, a3, a4⟩ := m_copy_ok hq hoks hHR
          obtain ⟨e9, n1, n2⟩ := m_nxt_spec hnx
          obtain ⟨t9, p9, i9, f9⟩ := e9
          split at hwp
          · have hsum : ((s'.map (m_cv (g_ad G) (g_fv G))).map fun v => v.category).sum ≤ 40 := m_st_wds hf h40
            refine m_sim_copy hx hb hown hts hE hHP hS (hml.trans hls.symm) hwp hq hoks hd (by omega) (by have := m_arw; omega) (fun H' locs' hHP' hS' => ?_)
            have := IH E k (ip + 1) loc s' h1 h0 o h' hr hk p e R s m args below meth c ctx p9 ls H' locs' t9 i9 f9 n1 hLV hlen (m_okl_mono (Nat.le_of_eq a1) hokl) a3 a4 (Nat.le_trans hb1 (Nat.le_of_eq a1)) (Nat.le_trans hb2 (Nat.le_of_eq a2)) hR1 hR2 hHP' hS'
            rw [show p9 = pc + 3 from n2, ← a1, ← a2] at this
            exact this
          · cases hwp
        · cases hr
    · -- 7: Object.<init>
      simp only [Bool.and_eq_true, decide_eq_true_eq] at hw
      obtain ⟨⟨⟨hd, hnx⟩, hrk⟩, hwp⟩ := hw
      split at hr
      · rename_i x9 r
        split at hr
        · rename_i h40
          obtain ⟨e9, n1, n2⟩ := m_nxt_spec hnx
          obtain ⟨t9, p9, i9, f9⟩ := e9
          split at hwp
          · have hwp := of_decide_eq_true hwp
            have hsum := m_st_wds hf h40
            refine W.objInit hx hb hown (m_tbw hts hwp rfl) (m_tbw hts m_owi.1 rfl) (m_tbw hts m_owi.2 rfl) rfl (hls.trans hml.symm) rfl hd (by omega) (by show 2 * 0 + _ + 12 ≤ _; omega) ?_
            have := IH E k (ip + 1) loc r h h0 o h' hr hk p e R s m args below meth c ctx p9 ls H locs t9 i9 f9 n1 hLV hlen hokl (m_oks_tl hoks) hHR hb1 hb2 hR1 hR2 hHP hS
            rw [show p9 = pc + 3 from n2] at this
            exact this
          · cases hwp
        · cases hr
      · cases hr
    · -- 8: Math
      simp only [Bool.and_eq_true, decide_eq_true_eq] at hw
      obtain ⟨⟨⟨hd, hnx⟩, hrk⟩, hwp⟩ := hw
      split at hr
      · cases hr
      · rename_i st' hq
        split at hr
        · rename_i h40
          obtain ⟨e9, n1, n2⟩ := m_nxt_spec hnx
          obtain ⟨t9, p9, i9, f9⟩ := e9
          have hc9 : h.1 - h0.1 ≤ R.cells := by omega
          have hs9 : h.2.1 - h0.2.1 ≤ R.slots := by omega
          have hfr9 : 1 ≤ R.frames := by omega
          have hlo9 : 128 ≤ R.locals := by omega
          have next := IH E k (ip + 1) loc st' h h0 o h' hr hk p e R s m args below meth c ctx p9 ls H locs t9 i9 f9 n1 hLV hlen hokl (m_math_ok hq hoks) hHR hb1 hb2 hR1 hR2 hHP hS
          rw [show p9 = pc + 3 from n2] at next
          split at hwp
          · rename_i idx a w inf2
            have hwp := of_decide_eq_true hwp
            unfold m_math at hq
            split at hq
            · rename_i inf3 y3 x3 r heq
              cases heq
              cases hq
              have hsum := m_st_wds hf (n := 40) (st := r) (by have : 1 + m_wds r ≤ 40 := h40; omega)
              exact va_mmin hx hb (hml.trans hls.symm) hown (m_tbw hts hwp rfl) (m_tbw hts m_mw_min.1 rfl) (m_tbw hts m_mwi rfl) (m_tbw hts m_mw_min.2 rfl) hfr9 (by omega) hc9 hs9 hd next
            · rename_i inf3 y3 x3 r heq
              cases heq
              cases hq
              have hsum := m_st_wds hf (n := 40) (st := r) (by have : 1 + m_wds r ≤ 40 := h40; omega)
              exact va_mmax hx hb (hml.trans hls.symm) hown (m_tbw hts hwp rfl) (m_tbw hts m_mw_max.1 rfl) (m_tbw hts m_mwi rfl) (m_tbw hts m_mw_max.2 rfl) hfr9 (by omega) hc9 hs9 hd next
            · rename_i inf3 x3 r heq
              cases heq
              cases hq
              have hsum := m_st_wds hf (n := 40) (st := r) (by have : 1 + m_wds r ≤ 40 := h40; omega)
              exact va_mabs hx hb (hml.trans hls.symm) hown (m_tbw hts hwp rfl) (m_tbw hts m_mw_abs.1 rfl) (m_tbw hts m_mwi rfl) (m_tbw hts m_mw_abs.2 rfl) hfr9 (by omega) hc9 hs9 hd next
            · cases hq
          · cases hwp
        · cases hr
    · cases hr
end MSB

