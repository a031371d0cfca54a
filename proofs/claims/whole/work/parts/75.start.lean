set_option maxRecDepth 100000 in
set_option maxHeartbeats 8000000 in
theorem whole_start {p : Program} {e : Env} {s : State} {m : MethodId} {below : List Frame} {meth : Method} {c : Code} (l : Launch) (hst : l.stackTraces = false) {b L : Nat} {xs : Nat → Int32} (hL : L ≤ 3072) (C0 : lw_At p s m meth c b L xs) : W p l e room_1 s m #[Value.ref b] below meth c s.heap [] 0 0 (lw_Z below #[Value.ref b] s) (entryFrame m ([Value.ref b] : List Value).toArray 7) := by
  obtain ⟨hx, hb, hr, hml, hown0, hts, hX, hbl, hlocks, hgv⟩ := id C0
  have hown : s.vm.findClass RL = some m.cls := hown0
  have hU : ∀ w ∈ UW, w.before #[Value.ref b] s = true := fun w hw => hts w (List.mem_filter.mp hw).1
  obtain ⟨D, cI, cC, cZ, hKa⟩ := st_K hts
  have hK0 := hKa (fun _ => 0)
  obtain ⟨G0, hG0⟩ : ∃ G0 : GG, G0 = (D, cI, cC, cZ, fun _ => 0) := ⟨_, rfl⟩
  rw [← hG0] at hK0
  have hA : ∀ q : Nat, s.heap.size ≤ q → LR s q := fun _ h => h
  have hP : va_P G0.1 vwCl [] s.heap := fun k q h => by simp at h
  have hD : va_D (LR s) [] := ⟨fun i j p q h => by simp at h, fun k q h => by simp at h⟩
  have hS : va_S (LR s) s.heap s.heap [] := va_S.rf
  have hl := lv_entry ([.ref b]) (n := 7) (Nat.le_of_ble_eq_true rfl)
  rw [lg_entry_eq]
  generalize (lg_sl ([.ref b]) ++ List.replicate (7 - (lg_sl ([.ref b])).length) Slot.unset).toArray = ls at hl ⊢
  have hl : lv_has ls 7 [(0, .ref b)] := hl
  refine va_new (ci := 10) (fs := [.null, .null, .null, .null, .null, .null, .null, .int 0, .int 0]) (C := RX10) (T := TX10) (N := 9) hx hb hU iuX10 tyX10 tyX10_ok hown (hU _ su19) (hU _ su10) (hU _ su20) hK0.1 hP hD hS hA rfl (by decide) (Nat.le_of_ble_eq_true rfl) (Nat.le_of_ble_eq_true rfl) dL_law_0 (fun q1 H hP hD hS => ?_)
  refine lv_dup hx hb dL_law_3 rfl ?_
  refine nAfter (ws := []) (va_runI (nL := 7) (As := []) (rest := [.ref q1]) ⟨hx, hb, hml, hown, hU⟩ (c_X10_init l G0 q1 H.size) (cwI 0 hU (goodUW su15) rfl rfl rfl (hU _ su20) (hU _ su21) (hU _ su16) rfl (by decide +kernel) ⟨Nat.le_of_ble_eq_true rfl, Nat.le_of_ble_eq_true rfl⟩) (sPre (wr := []) hK0 hP) rfl rfl hl.1 rfl (lv_room (Nat.le_of_ble_eq_true rfl)) dL_law_4 ⟨Nat.le_of_ble_eq_true rfl, Nat.le_of_ble_eq_true rfl⟩) hP hD hS hA (fun u1 H locs hP hD hS => ?_)
  refine lv_astore_n (lv' := [(1, .ref q1), (0, .ref b)]) hx hb dL_law_7 rfl hl (by decide) rfl (fun ls hl => ?_)
  have hP : va_P G0.1 vwCl (nw_X10_init G0 q1 u1) H := hP
  have hD : va_D (LR s) (nw_X10_init G0 q1 u1) := hD
  refine va_new (ci := 11) (fs := [.int 0, .int 0, .null, .int 0, .null, .null, .null, .int 0, .int 0, .int 0, .null, .null, .int 0, .int 0, .int 0, .int 0, .int 0, .int 0, .null, .null, .null, .null, .null, .null, .int 0, .null, .null, .int 0, .null, .null, .int 0, .null, .null, .null, .int 0, .null, .int 0, .int 0, .int 0, .int 0, .int 0, .null, .null, .null, .int 0, .null, .int 0, .null, .int 0, .int 0, .int 0, .null]) (C := RX11) (T := TX11) (N := 52) hx hb hU iuX11 tyX11 tyX11_ok hown (hU _ su22) (hU _ su11) (hU _ su23) hK0.1 hP hD hS hA rfl (by decide) (Nat.le_of_ble_eq_true rfl) (Nat.le_of_ble_eq_true rfl) dL_law_8 (fun q2 H hP hD hS => ?_)
  refine lv_dup hx hb dL_law_11 rfl ?_
  refine nAfter (ws := nw_X10_init G0 q1 u1) (va_runI (nL := 7) (As := []) (rest := [.ref q2]) ⟨hx, hb, hml, hown, hU⟩ (c_X11_init l G0 q2 H.size) (cwI 0 hU (goodUW su17) rfl rfl rfl (hU _ su23) (hU _ su24) (hU _ su18) rfl (by decide +kernel) ⟨Nat.le_of_ble_eq_true rfl, Nat.le_of_ble_eq_true rfl⟩) (sPre (wr := nw_X10_init G0 q1 u1) hK0 hP) rfl rfl hl.1 rfl (lv_room (Nat.le_of_ble_eq_true rfl)) dL_law_12 ⟨Nat.le_of_ble_eq_true rfl, Nat.le_of_ble_eq_true rfl⟩) hP hD hS hA (fun u2 H locs hP hD hS => ?_)
  refine lv_astore_n (lv' := [(2, .ref q2), (1, .ref q1), (0, .ref b)]) hx hb dL_law_15 rfl hl (by decide) rfl (fun ls hl => ?_)
  refine lv_iconst (v := 1) hx hb dL_law_16 (by decide) ?_
  refine va_newa (atype := .long) (ty := .long) (a0 := (1, .inr (.inl (fun _ => 0)))) hx hb (hU _ su25) rfl hK0.1 hP hD hS hA (fun _ => rfl) (by decide) (by decide) (by decide) (Nat.le_of_ble_eq_true rfl) (Nat.le_of_ble_eq_true rfl) dL_law_17 (fun q3 cJ H hKJ hP hD hS => ?_)
  refine lv_astore_n (lv' := [(3, .ref q3), (2, .ref q2), (1, .ref q1), (0, .ref b)]) hx hb dL_law_19 rfl hl (by decide) rfl (fun ls hl => ?_)
  refine lv_iconst (v := 0) hx hb dL_law_20 (by decide) ?_
  refine lv_istore (lv' := [(4, .int 0), (3, .ref q3), (2, .ref q2), (1, .ref q1), (0, .ref b)]) hx hb dL_law_21 hl (by decide) rfl (fun ls hl => ?_)
  have hKJ := hKJ.sub (tys' := [(cJ, .long)]) [3] rfl
  subst hG0
  obtain ⟨G, hG⟩ : ∃ G : GG, G = (D, cI, cC, cZ, fun i => ([q1, u1 0, u1 2, u1 4, u1 16, u1 21, u1 22, u1 25, u1 27, u1 31, u1 33, u1 37, u1 1, u1 3, u1 5, u1 6, u1 7, u1 8, u1 9, u1 10, u1 11, u1 12, u1 13, u1 14, u1 15, u1 17, u1 18, u1 19, u1 20, u1 23, u1 24, u1 26, u1 28, u1 29, u1 30, u1 32, u1 34, u1 35, u1 36, u1 38] : List Nat).getD i 0) := ⟨_, rfl⟩
  obtain ⟨Gm, hGm⟩ : ∃ Gm : GG, Gm = (D, cI, cC, cZ, fun i => ([q2, u2 0, u2 1, u2 2, u2 3, u2 4, u2 5, u2 6, u2 7, u2 8, u2 9, u2 10, u2 11, u2 12, u2 13, u2 14, u2 15, u2 16, u2 17, u2 18, u2 19, u2 20, u2 21, u2 22, u2 23, u2 24, u2 25] : List Nat).getD i 0) := ⟨_, rfl⟩
  have hPa : va_P D vwCl (cwl G z9 ++ (mwl Gm z9 ++ oW cJ q3 (fun _ => 0))) H := hP.sub [0, 1, 3, 5, 17, 22, 23, 26, 28, 32, 34, 38, 2, 4, 6, 7, 8, 9, 10, 11, 12, 13, 14, 15, 16, 18, 19, 20, 21, 24, 25, 27, 29, 30, 31, 33, 35, 36, 37, 39, 40, 41, 42, 43, 44, 45, 46, 47, 48, 49, 50, 51, 52, 53, 54, 55, 56, 57, 58, 59, 60, 61, 62, 63, 64, 65, 66, 67] (by rw [hG, hGm]; rfl)
  have hDa : va_D (LR s) (cwl G z9 ++ (mwl Gm z9 ++ oW cJ q3 (fun _ => 0))) := hD.sub [0, 1, 3, 5, 17, 22, 23, 26, 28, 32, 34, 38, 2, 4, 6, 7, 8, 9, 10, 11, 12, 13, 14, 15, 16, 18, 19, 20, 21, 24, 25, 27, 29, 30, 31, 33, 35, 36, 37, 39, 40, 41, 42, 43, 44, 45, 46, 47, 48, 49, 50, 51, 52, 53, 54, 55, 56, 57, 58, 59, 60, 61, 62, 63, 64, 65, 66, 67] (by decide) (by rw [hG, hGm]; rfl)
  have hAP := AP_of hDa
  have hKG : gK G s := by rw [hG]; exact hKa _
  have hKM : gK Gm s := by rw [hGm]; exact hKa _
  have hG1 : G.1 = D := by rw [hG]
  have hM1 : Gm.1 = D := by rw [hGm]
  have hLH : LH G Gm cJ q3 z9 z9 (fun _ => 0) s H locs := by
    refine ⟨?_, ?_, ?_, hS⟩
    · rw [hG1]; exact fun k q hk => hPa k q (by rw [List.getElem?_append_left (List.getElem?_eq_some_iff.mp hk).1]; exact hk)
    · rw [hM1]
      intro k q hk
      refine hPa (40 + k) q ?_
      rw [List.getElem?_append_right (show (cwl G z9).length ≤ 40 + k from Nat.le_add_right 40 k), show 40 + k - (cwl G z9).length = k from Nat.add_sub_cancel_left 40 k, List.getElem?_append_left (List.getElem?_eq_some_iff.mp hk).1]; exact hk
    · rw [hG1]
      intro k q hk
      refine hPa (67 + k) q ?_
      rw [List.getElem?_append_right (show (cwl G z9).length ≤ 67 + k from Nat.le_trans (show 40 ≤ 67 by omega) (Nat.le_add_right 67 k)), show 67 + k - (cwl G z9).length = 27 + k from by show 67 + k - 40 = 27 + k; omega, List.getElem?_append_right (show (mwl Gm z9).length ≤ 27 + k from Nat.le_add_right 27 k), show 27 + k - (mwl Gm z9).length = k from Nat.add_sub_cancel_left 27 k]; exact hk
  have hEv : LEv G Gm cJ q3 l p s m meth c b L xs := ⟨⟨C0, hst⟩, ⟨hx, hb, hown, hU, hKG, hAP.1.1⟩, ⟨hx, hb, hown, hU, hKM, hAP.1.2⟩, st_T9 C0, by rw [hG1]; exact hKJ, hAP⟩
  have e1 : gAd G 0 = q1 := by rw [hG]; rfl
  have e2 : gAd Gm 0 = q2 := by rw [hGm]; rfl
  rw [← e1, ← e2] at hl
  exact law_loop hEv hL 512 0 z9 z9 (fun _ => 0) H locs _ _ ls (by omega) (by omega) RR_0 hLH (Nat.le_of_ble_eq_true rfl) (Nat.le_of_ble_eq_true rfl) (lv_sub hl [4, 3, 2, 1, 0] rfl)
