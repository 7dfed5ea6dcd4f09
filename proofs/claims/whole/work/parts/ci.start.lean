/-! the law from its entry to its end -/
theorem clamp_n (w : Int32) : ∃ n, 2 ≤ n ∧ n ≤ 6 ∧ (if nI 2 < (if w < nI 6 then w else nI 6) then (if w < nI 6 then w else nI 6) else nI 2) = nI n ∧ (if nI 2 ≤ w then (if w ≤ nI 6 then w else nI 6) else nI 2) = nI n := by
  have e2 : (nI 2).toInt = 2 := by decide
  have e6 : (nI 6).toInt = 6 := by decide
  by_cases a : w.toInt < 2
  · have h1 : w < nI 6 := Int32.lt_iff_toInt_lt.mpr (by rw [e6]; omega)
    have h2 : ¬ nI 2 < w := fun q => by
      have := Int32.lt_iff_toInt_lt.mp q
      rw [e2] at this
      omega
    have h3 : ¬ nI 2 ≤ w := fun q => by
      have := Int32.le_iff_toInt_le.mp q
      rw [e2] at this
      omega
    exact ⟨2, by decide, by decide, by rw [if_pos h1, if_neg h2], by rw [if_neg h3]⟩
  · by_cases b : 6 < w.toInt
    · have h1 : ¬ w < nI 6 := fun q => by
        have := Int32.lt_iff_toInt_lt.mp q
        rw [e6] at this
        omega
      have h2 : nI 2 ≤ w := Int32.le_iff_toInt_le.mpr (by rw [e2]; omega)
      have h3 : ¬ w ≤ nI 6 := fun q => by
        have := Int32.le_iff_toInt_le.mp q
        rw [e6] at this
        omega
      exact ⟨6, by decide, by decide, by rw [if_neg h1, if_pos (by decide)], by rw [if_pos h2, if_neg h3]⟩
    · have e : w = nI w.toInt.toNat := Int32.toInt_inj.mp (by rw [nI_toInt (by omega)]; omega)
      have hn : w.toInt.toNat = 2 ∨ w.toInt.toNat = 3 ∨ w.toInt.toNat = 4 ∨ w.toInt.toNat = 5 ∨ w.toInt.toNat = 6 := by omega
      generalize w.toInt.toNat = n at e hn
      subst e
      refine ⟨n, by omega, by omega, ?_⟩
      rcases hn with rfl | rfl | rfl | rfl | rfl <;> exact ⟨by decide, by decide⟩
set_option maxRecDepth 20000 in
theorem whole_start {p : Program} {e : Env} {s : State} {m : MethodId} {below : List Frame} {meth : Method} {c : Code} (l : Launch) {b L : Nat} {xs : Nat → Int32} (hL : L ≤ 3073) (C0 : lw_At p s m meth c b L xs) : W p l e room_1 s m #[Value.ref b] below meth c s.heap [] 0 0 (lw_Z below #[Value.ref b] s) (entryFrame m ([Value.ref b] : List Value).toArray 4) := by
  obtain ⟨sa, sv, dC, dI, cs, hE⟩ := qn_entry hL C0
  obtain ⟨hx, hb, hr, hml, hown, hts, hX, hbl, hlocks, hgv⟩ := C0
  have X : qn_X p s m #[Value.ref b] c 241 s.heap.size b sa sv L xs dC dI cs := ⟨hx, hb, hml, hown, fun w hw => hts w (List.mem_filter.mp hw).1, hE⟩
  have hw : qn_W s s.heap.size dC dI cs 0 (hp0 L xs) s.heap [] := ⟨fun k q h => (by cases h), ⟨fun i j x y h => (by cases h), fun k q h => (by cases h)⟩, va_S.rf, hp0_Z L xs⟩
  obtain ⟨n, n2, n6, nC, nM⟩ := clamp_n (qn_c0 L xs)
  have hcn : s.heap.size + 0 = s.heap.size + 0 := rfl
  have hl := lv_entry ([.ref b]) (n := 4) (Nat.le_of_ble_eq_true rfl)
  rw [lg_entry_eq]
  generalize (lg_sl ([.ref b]) ++ List.replicate (4 - (lg_sl ([.ref b])).length) Slot.unset).toArray = als at hl ⊢
  have hl : lv_has als 4 [(0, .ref b)] := hl
  refine n_new2 (k := 1) (i := 0) (nf := 15) X hw (by omega) rfl (by decide) rfl (by decide) cl_241_7 in_1 ini_1 ⟨by show _ ≤ 600000; omega, by show _ ≤ 7302250; omega⟩ dec_241_0 fun H1 hw => ?_
  refine lv_dup X.1 X.2.1 dec_241_3 rfl ?_
  refine lv_aload_n X.1 X.2.1 dec_241_4 rfl (lv_at hl 0 rfl) ?_
  refine lv_iconst (v := nI 0) X.1 X.2.1 dec_241_5 (by decide) ?_
  refine n_cell X hw (by omega) (by decide) ⟨by show 5 ≤ 2048; decide, by show 300 ≤ 84000; decide⟩ hl.1 (Nat.le_of_ble_eq_true rfl) ⟨by show _ ≤ 600000; omega, by show _ ≤ 7302250; omega⟩ dec_241_6 fun H1 locs1 hw => ?_
  refine n_call (N' := 138) (h' := hC (hp0 L xs) (nI n)) X hw (by omega) (met_C l 3 (by decide) (qn_c0 L xs) (nI n) nC (hp0 L xs)) (by decide) cw_0 rfl rfl mn_0 mi_0 lk_241_15 ⟨by show 8 ≤ 2048; decide, by show 8 + (4 + 11) + (64 * 3 + 256) ≤ 84000; decide⟩ rfl hl.1 rfl (Nat.le_of_ble_eq_true rfl) ⟨by show _ ≤ 600000; omega, by show _ ≤ 7302250; omega⟩ dec_241_9 fun H1 locs1 hw => ?_
  refine lv_astore_n X.1 X.2.1 dec_241_12 rfl hl (by decide) rfl fun als hl => ?_
  refine n_new2 (k := 9) (i := 0) (nf := 37) X hw (by omega) rfl (by decide) rfl (by decide) cl_241_18 in_9 ini_9 ⟨by show _ ≤ 600000; omega, by show _ ≤ 7302250; omega⟩ dec_241_13 fun H1 hw => ?_
  refine lv_dup X.1 X.2.1 dec_241_16 rfl ?_
  refine lv_aload_n X.1 X.2.1 dec_241_17 rfl (lv_at hl 1 rfl) ?_
  refine lv_iconst (v := nI 0) X.1 X.2.1 dec_241_18 (by decide) ?_
  refine n_cell X hw (by omega) (by decide) ⟨by show 5 ≤ 2048; decide, by show 300 ≤ 84000; decide⟩ hl.1 (Nat.le_of_ble_eq_true rfl) ⟨by show _ ≤ 600000; omega, by show _ ≤ 7302250; omega⟩ dec_241_19 fun H1 locs1 hw => ?_
  refine n_call (N' := 155) (h' := hpF L xs (nI n)) X hw (by omega) (met_M l 3 (by decide) (qn_c0 L xs) (nI n) nM (hC (hp0 L xs) (nI n)) (bt_in L xs (nI n))) (by decide) cw_55 rfl rfl mn_55 mi_55 lk_241_20 ⟨by show 8 ≤ 2048; decide, by show 8 + (3 + 11) + (64 * 3 + 256) ≤ 84000; decide⟩ rfl hl.1 rfl (Nat.le_of_ble_eq_true rfl) ⟨by show _ ≤ 600000; omega, by show _ ≤ 7302250; omega⟩ dec_241_22 fun H1 locs1 hw => ?_
  refine lv_astore_n X.1 X.2.1 dec_241_25 rfl hl (by decide) rfl fun als hl => ?_
  refine lv_iconst (v := nI 1) X.1 X.2.1 dec_241_26 (by decide) ?_
  refine lv_istore_n X.1 X.2.1 dec_241_27 rfl hl (by decide) rfl fun als hl => ?_
  obtain ⟨s', hrun⟩ := lw_all 0 hL (bt_GG L xs n2 n6) (bt_inF L xs (nI n)).2.2
  obtain ⟨k, hk⟩ := qm_ev_iff.mp hrun
  have hlo : qm_Lo 241 s.heap.size b sa als [qP 80 0, qP 1 0, qP 9 0, qI (nI 1)] := ⟨lv_sub hl [3, 2, 1, 0] rfl, rfl, fun v hv => by
    rcases List.mem_cons.mp hv with rfl | hv
    · exact Or.inr (Or.inr (by decide))
    rcases List.mem_cons.mp hv with rfl | hv
    · exact Or.inr (Or.inr (by decide))
    rcases List.mem_cons.mp hv with rfl | hv
    · exact Or.inr (Or.inr (by decide))
    rcases List.mem_cons.mp hv with rfl | hv
    · exact Or.inr trivial
    cases hv⟩
  have hblk : qk_blk 241 28 (qm_blk 241 0) = true := (qk_ok 241 0).resolve_left (fun q => by cases q)
  refine qm_sound qk_ok hb0 qk_maxL k 201 241 (qm_blk 241 0) _ [] _ _ _ hk p l e room_1 s m _ below meth c _ _ _ _ _ s.heap.size b sa sv L xs dC dI cs 28 als ⟨X.1, X.2.1, X.2.2.1, X.2.2.2.1, X.2.2.2.2.1, hE.1, by show _ ≤ 600000; omega, by show _ ≤ 7302250; omega, by show 205 ≤ 2048; decide, by show 64 * 201 + 256 ≤ 84000; decide⟩ hblk (hw.all (bt_inF L xs (nI n))) hlo (fun v hv => by cases hv) ?_
  intro H2 locs2 als2 pc2 hw2 hret
  have hret : decode code pc2 = .ok (.ireturn, 1) := hret.1
  refine va_forget (fun q hq => hw2.2.2.1.2.2 q hq) ?_
  refine W.widen (k := 600000) (n := 7302250) (by omega) (by omega) ?_
  exact lw_ret hx hb hr hlocks hret
