theorem sub6 {L : Nat} (h : 6 ≤ L) : nI L - 6 = nI (L - 6) := by
  have e : nI L = nI (L - 6) + 6 := by rw [show (6 : Int32) = nI 6 from rfl, nI_add, show L - 6 + 6 = L by omega]
  rw [e, Int32.add_sub_cancel]
theorem gt6 {L j : Nat} (hL : L ≤ 3072) (hj : 6 * j ≤ L) : (nI L - 6 < nI (6 * j)) ↔ L < 6 * j + 6 := by
  by_cases h : 6 ≤ L
  · rw [sub6 h, nI_ltI (by omega) (by omega)]; omega
  · have hj0 : j = 0 := by omega
    subst hj0
    have hc : L = 0 ∨ L = 1 ∨ L = 2 ∨ L = 3 ∨ L = 4 ∨ L = 5 := by omega
    rcases hc with rfl | rfl | rfl | rfl | rfl | rfl <;> exact ⟨fun _ => by omega, fun _ => by decide⟩
set_option maxRecDepth 20000 in
set_option maxHeartbeats 4000000 in
theorem law_loop {p : Program} {l : Launch} {e : Env} {s : State} {m : MethodId} {below : List Frame} {meth : Method} {c : Code} {G Gm : GG} {cJ : ClassId} {o b L : Nat} {xs : Nat → Int32} (hC : LEv G Gm cJ o l p s m meth c b L xs) (hL : L ≤ 3072) :
    ∀ (n j : Nat) (σ τ : S9) (f : Nat → Int64) (H : Heap) (locs : List Loc) (cells slots : Nat) (ls : Array Slot), L < 6 * (j + n) + 6 → 6 * j ≤ L → RR σ τ (1000 * j) → LH G Gm cJ o σ τ f s H locs → cells ≤ 68 + j → slots ≤ 48933 + 6 * j → lv_has ls 7 [(0, .ref b), (1, .ref (gAd G 0)), (2, .ref (gAd Gm 0)), (3, .ref o), (4, .int (nI (6 * j)))] → W p l e room_1 s m #[Value.ref b] below meth c H locs cells slots (lw_Z below #[Value.ref b] s) (F0 m 23 ls []) := by
  have hC0 := hC.1.1
  obtain ⟨hx, hb, hr, hml, hown, hts, hX, hbl, hlk, hgv⟩ := hC0
  have hbA : ¬ LR s b := Nat.not_le.mpr hbl
  intro n
  induction n with
  | zero =>
    intro j σ τ f H locs cells slots ls h1 h2 hR hw hc hs hl
    refine lv_iload hC.2.1.1 hC.2.1.2.1 dL_law_23 (lv_at hl 4 rfl) ?_
    refine lv_aload_n hC.2.1.1 hC.2.1.2.1 dL_law_25 rfl (lv_at hl 0 rfl) ?_
    refine va_slen hC.2.1.1 hC.2.1.2.1 hX hbl hbA hw.2.2.2 dL_law_26 ?_
    refine lv_bipush (v := 6) hC.2.1.1 hC.2.1.2.1 dL_law_27 (by decide) ?_
    refine lv_isub hC.2.1.1 hC.2.1.2.1 dL_law_29 ?_
    refine lv_icmp_gt (tgt := 712) hC.2.1.1 hC.2.1.2.1 dL_law_30 (by decide) (fun _ => ?_) (fun z => absurd ((gt6 hL h2).mpr (by omega)) z)
    refine lv_iconst (v := 1) hC.2.1.1 hC.2.1.2.1 dL_law_712 (by decide) ?_
    exact va_forget hw.2.2.2.2.2 (W.widen (k := 1104) (n := 57197) (by omega) (by omega) (lw_ret hx hb hr hlk dL_law_713))
  | succ n ih =>
    intro j σ τ f H locs cells slots ls h1 h2 hR hw hc hs hl
    refine lv_iload hC.2.1.1 hC.2.1.2.1 dL_law_23 (lv_at hl 4 rfl) ?_
    refine lv_aload_n hC.2.1.1 hC.2.1.2.1 dL_law_25 rfl (lv_at hl 0 rfl) ?_
    refine va_slen hC.2.1.1 hC.2.1.2.1 hX hbl hbA hw.2.2.2 dL_law_26 ?_
    refine lv_bipush (v := 6) hC.2.1.1 hC.2.1.2.1 dL_law_27 (by decide) ?_
    refine lv_isub hC.2.1.1 hC.2.1.2.1 dL_law_29 ?_
    refine lv_icmp_gt (tgt := 712) hC.2.1.1 hC.2.1.2.1 dL_law_30 (by decide) (fun _ => ?_) (fun z => ?_)
    · refine lv_iconst (v := 1) hC.2.1.1 hC.2.1.2.1 dL_law_712 (by decide) ?_
      exact va_forget hw.2.2.2.2.2 (W.widen (k := 1104) (n := 57197) (by omega) (by omega) (lw_ret hx hb hr hlk dL_law_713))
    have hi : 6 * j + 6 ≤ L := Nat.not_lt.mp fun q => z ((gt6 hL h2).mpr q)
    have hcs : cells + 1 ≤ 1104 ∧ slots + 6 ≤ 57197 := ⟨by omega, by omega⟩
    have hlim : 1000 * j + 1000 < 1000000 := by omega
    have hK : ∀ (σ τ : S9) (f : Nat → Int64) (H : Heap) (locs : List Loc) (ls : Array Slot), RR σ τ (1000 * j + 1000) → LH G Gm cJ o σ τ f s H locs → lv_has ls 7 [(0, .ref b), (1, .ref (gAd G 0)), (2, .ref (gAd Gm 0)), (3, .ref o), (4, .int (nI (6 * j)))] → W p l e room_1 s m #[Value.ref b] below meth c H locs (cells + 1) (slots + 6) (lw_Z below #[Value.ref b] s) (F0 m 706 ls []) := by
      intro σ τ f H locs ls hR hw hl
      refine lv_iinc (v := nI (6 * (j + 1))) (lv' := [(4, .int (nI (6 * (j + 1)))), (0, .ref b), (1, .ref (gAd G 0)), (2, .ref (gAd Gm 0)), (3, .ref o)]) hC.2.1.1 hC.2.1.2.1 dL_law_706 hl (k := 4) rfl (by rw [show 6 * (j + 1) = 6 * j + 6 by omega, ← nI_add]; rfl) (by decide) rfl (fun ls hl => ?_)
      refine lv_goto (tgt := 23) hC.2.1.1 hC.2.1.2.1 dL_law_709 (by decide) ?_
      exact ih (j + 1) σ τ f H locs (cells + 1) (slots + 6) ls (by omega) (by omega) hR hw (by omega) (by omega) (lv_sub hl [1, 2, 3, 4, 0] rfl)
    refine lv_aload_n hC.2.1.1 hC.2.1.2.1 dL_law_33 rfl (lv_at hl 0 rfl) ?_
    refine lv_iload hC.2.1.1 hC.2.1.2.1 dL_law_34 (lv_at hl 4 rfl) ?_
    refine va_sld hC.2.1.1 hC.2.1.2.1 hX hbl hbA hw.2.2.2 (pk_in (6 * j) L (by omega)) dL_law_36 ?_
    refine lv_bipush (v := 15) hC.2.1.1 hC.2.1.2.1 dL_law_37 (by decide) ?_
    refine lv_iand hC.2.1.1 hC.2.1.2.1 dL_law_39 ?_
    refine lv_topi (fun x _ => ?_)
    by_cases c0 : x = (0 : Int32)
    · refine lv_tableH (off := 64) (tgt := 104) hC.2.1.1 hC.2.1.2.1 dL_law_40 c0 (by decide) (by decide) (by decide) (by decide) ?_
      exact law_feed hC hi hL hlim hR hw hcs hl hK
    by_cases c1 : x = (1 : Int32)
    · refine lv_tableH (off := 168) (tgt := 208) hC.2.1.1 hC.2.1.2.1 dL_law_40 c1 (by decide) (by decide) (by decide) (by decide) ?_
      exact law_clear hC hi hL hlim hR hw hcs hl hK
    by_cases c2 : x = (2 : Int32)
    · refine lv_tableH (off := 181) (tgt := 221) hC.2.1.1 hC.2.1.2.1 dL_law_40 c2 (by decide) (by decide) (by decide) (by decide) ?_
      exact law_compile hC hi hL hlim hR hw hcs hl hK
    by_cases c3 : x = (3 : Int32)
    · refine lv_tableH (off := 194) (tgt := 234) hC.2.1.1 hC.2.1.2.1 dL_law_40 c3 (by decide) (by decide) (by decide) (by decide) ?_
      exact law_give hC hi hL hlim hR hw hcs hl hK
    by_cases c4 : x = (4 : Int32)
    · refine lv_tableH (off := 250) (tgt := 290) hC.2.1.1 hC.2.1.2.1 dL_law_40 c4 (by decide) (by decide) (by decide) (by decide) ?_
      exact law_start hC hi hL hlim hR hw hcs hl hK
    by_cases c5 : x = (5 : Int32)
    · refine lv_tableH (off := 274) (tgt := 314) hC.2.1.1 hC.2.1.2.1 dL_law_40 c5 (by decide) (by decide) (by decide) (by decide) ?_
      exact law_run hC hi hL hlim hR hw hcs hl hK
    by_cases c6 : x = (6 : Int32)
    · refine lv_tableH (off := 330) (tgt := 370) hC.2.1.1 hC.2.1.2.1 dL_law_40 c6 (by decide) (by decide) (by decide) (by decide) ?_
      exact law_state hC hi hL hlim hR hw hcs hl hK
    by_cases c7 : x = (7 : Int32)
    · refine lv_tableH (off := 386) (tgt := 426) hC.2.1.1 hC.2.1.2.1 dL_law_40 c7 (by decide) (by decide) (by decide) (by decide) ?_
      exact law_output hC hi hL hlim hR hw hcs hl hK
    by_cases c8 : x = (8 : Int32)
    · refine lv_tableH (off := 442) (tgt := 482) hC.2.1.1 hC.2.1.2.1 dL_law_40 c8 (by decide) (by decide) (by decide) (by decide) ?_
      exact law_name hC hi hL hlim hR hw hcs hl hK
    by_cases c9 : x = (9 : Int32)
    · refine lv_tableH (off := 498) (tgt := 538) hC.2.1.1 hC.2.1.2.1 dL_law_40 c9 (by decide) (by decide) (by decide) (by decide) ?_
      exact law_cell hC hi hL hlim hR hw hcs hl hK
    by_cases c10 : x = (10 : Int32)
    · refine lv_tableH (off := 554) (tgt := 594) hC.2.1.1 hC.2.1.2.1 dL_law_40 c10 (by decide) (by decide) (by decide) (by decide) ?_
      exact law_terms hC hi hL hlim hR hw hcs hl hK
    by_cases c11 : x = (11 : Int32)
    · refine lv_tableH (off := 610) (tgt := 650) hC.2.1.1 hC.2.1.2.1 dL_law_40 c11 (by decide) (by decide) (by decide) (by decide) ?_
      exact law_count hC hi hL hlim hR hw hcs hl hK
    refine lv_tableD (ks := [0, 1, 2, 3, 4, 5, 6, 7, 8, 9, 10, 11]) (tgt := 706) hC.2.1.1 hC.2.1.2.1 dL_law_40 (by simp only [List.forall_mem_cons, List.not_mem_nil, false_implies, implies_true, and_true]; exact ⟨c0, c1, c2, c3, c4, c5, c6, c7, c8, c9, c10, c11⟩) (by decide) (by decide) (by decide) ?_
    refine W.widen (k := cells + 1) (n := slots + 6) (Nat.le_add_right _ _) (Nat.le_add_right _ _) ?_
    exact hK σ τ f H locs ls (RR_lim hR (Nat.le_add_right _ _)) hw hl
