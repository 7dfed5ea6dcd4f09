/-! the law's entry: what the start says -/
theorem qn_nrT {args : Array Value} {s : State} (hs : ∀ c ∈ flatC (Jvm.Cond.and given_1 narrow_1), c.before args s = true) (j : Nat) (hj : j < 149) : (Cond.eq (.elem (.field qn_tm "java/lang/String" "value" "[B") (.int (Int32.ofNat j))) (.int ((qm_str.map Int32.ofNat).getD j 0))).before args s = true := by
  have := qn_nr5 hs (Int32.ofNat j, (qm_str.map Int32.ofNat).getD j 0) (qn_tabE j hj)
  dsimp only at this
  exact this
theorem qn_nr1 {args : Array Value} {s : State} (hs : ∀ c ∈ flatC (Jvm.Cond.and given_1 narrow_1), c.before args s = true) : (Cond.exactly qn_tm "java/lang/String").before args s = true := hs _ (by decide +kernel)
theorem qn_nr2 {args : Array Value} {s : State} (hs : ∀ c ∈ flatC (Jvm.Cond.and given_1 narrow_1), c.before args s = true) : (Cond.eq (.field qn_tm "java/lang/String" "coder" "B") (.int 0)).before args s = true := hs _ (by decide +kernel)
theorem qn_nr3 {args : Array Value} {s : State} (hs : ∀ c ∈ flatC (Jvm.Cond.and given_1 narrow_1), c.before args s = true) : (Cond.arrayOf (.field qn_tm "java/lang/String" "value" "[B") .byte).before args s = true := hs _ (by decide +kernel)
theorem qn_nr4 {args : Array Value} {s : State} (hs : ∀ c ∈ flatC (Jvm.Cond.and given_1 narrow_1), c.before args s = true) : (Cond.eq (.length (.field qn_tm "java/lang/String" "value" "[B")) (.int (Int32.ofNat 149))).before args s = true := hs _ (by decide +kernel)
theorem qn_nr6 {args : Array Value} {s : State} (hs : ∀ c ∈ flatC (Jvm.Cond.and given_1 narrow_1), c.before args s = true) : (Cond.eq (.static "java/lang/String" "COMPACT_STRINGS" "Z") (.int 1)).before args s = true := hs _ (by decide +kernel)
theorem qn_nr7 {args : Array Value} {s : State} (hs : ∀ c ∈ flatC (Jvm.Cond.and given_1 narrow_1), c.before args s = true) : (Cond.isRef (.static "jdk/internal/util/Preconditions" "SIOOBE_FORMATTER" "Ljava/util/function/BiFunction;")).before args s = true := hs _ (by decide +kernel)
theorem qn_entry {p : Program} {s : State} {m : MethodId} {meth : Method} {c : Code} {b L : Nat} {xs : Nat → Int32} (hL : L ≤ 3073) (C0 : lw_At p s m meth c b L xs) : ∃ sa sv dC dI cs, qn_E s.heap.size b sa sv L xs dC dI cs s := by
  obtain ⟨hx, hb, hr, hml, hown, hts, hX, hbl, hlocks, hgv⟩ := C0
  have htb : ∀ w ∈ qm_tb, w.before #[Value.ref b] s = true := fun w hw => hts w (List.mem_filter.mp hw).1
  obtain ⟨dC, dI, hK⟩ := qn_cls htb
  have hA : ∀ a : Nat, a < s.heap.size → ¬ (fun q => s.heap.size ≤ q) a := fun a h1 h2 => absurd h1 (Nat.not_lt.mpr h2)
  have hs := flat_of_before _ hgv
  have n1 := qn_nr1 hs
  have n2 := qn_nr2 hs
  have n3 := qn_nr3 hs
  have n4 := qn_nr4 hs
  have n5 := qn_nrT hs
  have n6 := qn_nr6 hs
  have n7 := qn_nr7 hs
  obtain ⟨adK, adV, hS, hT⟩ := vk_Sof (args := #[Value.ref b]) (s := s) (N := 1) (tm := fun _ => qn_tm) (len := [149]) (byt := [qm_str.map Int32.ofNat]) (A := fun q => s.heap.size ≤ q) (fun i hi => by rw [show i = 0 by omega]; decide) (fun i hi => n1) (fun i hi => n2) (fun i hi => n3) (fun i hi => by rw [show i = 0 by omega]; exact n4) (fun i hi j hj => by
    have e0 : i = 0 := by omega
    subst e0
    simp only [List.getD_cons_zero] at hj ⊢
    exact n5 j hj) (fun i j hi hj hn => absurd (show i = j by omega) hn) hA
  obtain ⟨c1, a1, r1⟩ := qn_arrC (htb _ qn_ai.tb) (fun C h => by cases h) (fun n c z k comp h2 h3 => ⟨(fun k h => by cases h), k, h2, comp, h3⟩)
  obtain ⟨c2, a2, r2⟩ := qn_arrC (htb _ qn_al.tb) (fun C h => by cases h) (fun n c z k comp h2 h3 => ⟨(fun k h => by cases h), k, h2, comp, h3⟩)
  obtain ⟨c3, a3, r3⟩ := qn_arrC (htb _ qn_az.tb) (fun C h => by cases h) (fun n c z k comp h2 h3 => ⟨(fun k h => by cases h), k, h2, comp, h3⟩)
  obtain ⟨c4, a4, r4⟩ := qn_arrO (hts _ wo_t)
  obtain ⟨c5, a5, r5⟩ := qn_arrO (hts _ wo_p)
  refine ⟨adK 0, adV 0, dC, dI, (c1, c2, c3, c4, c5), ⟨⟨hK, ?_⟩, fun w hw => va_tabs (by obtain ⟨x1, x2, x3, x4, rfl⟩ := qm_nest_form w hw; rfl) rfl (hts w (qm_nest_in w hw)), hX, hbl, by omega, Nat.le_refl _, ?_⟩, fun w hw => va_tabs (by obtain ⟨x1, x2, x3, x4, rfl⟩ := qn_nest_form w hw; rfl) rfl (hts w (qn_nest_in w hw)), hts _ wo_t, hts _ wo_p⟩
  · intro k q hk
    match k, hk with
    | 0, hk => cases hk; exact ⟨a1, r1⟩
    | 1, hk => cases hk; exact ⟨a2, r2⟩
    | 2, hk => cases hk; exact ⟨a3, r3⟩
    | 3, hk => cases hk; exact ⟨a4, r4⟩
    | 4, hk => cases hk; exact ⟨a5, r5⟩
    | k + 5, hk => simp [qm_tys] at hk
  · refine ⟨vk_R.of (hts _ ws_t) (hT 0 (by decide)), ⟨fun i hi => ?_, fun i j hi hj _ => by omega⟩, va_Zof (hts _ wl_1) (hts _ wi_1) (va_eqi n6) hA, ?_⟩
    · have e0 : i = 0 := by omega
      subst e0
      rw [qm_strL]
      exact hS.1 0 (by decide)
    · obtain ⟨v, hv, hr⟩ := Cond.isRef_spec n7
      refine ⟨v, ?_, va_Zof (hts _ wl_2) (hts _ wi_2) hv hA⟩
      cases v with
      | null => exact Or.inl rfl
      | ref a => exact Or.inr ⟨a, rfl⟩
      | _ => simp [Value.isRef] at hr
