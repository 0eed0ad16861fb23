/-! THE START: what the Statement gives is what the small machine stands on -/
section WST
variable {s : State} {args : Array Value}
theorem ws_inst : ∀ ci, ci < 12 → Cond.instantiable (mm_Rn ci) (mm_N ci) ∈ lw_tbl := by decide +kernel
theorem ws_T1 (L : Nat) (xs : Nat → Int32) {A : Nat → Prop} (h : (Jvm.Cond.and given_1 narrow_1).before args s = true) (hA : ∀ a : Nat, a < s.heap.size → ¬ A a) : ∃ t : Nat, (Term.static "BuriedGoods$Land" "LETTER" "[I").eval args s none [] s = some (.ref t) ∧ va_T .int t 10 (fun j => .int ((mm_xf L xs 1).2 j)) A s s.heap := by
  have hs := flat_of_before _ h
  refine va_Tof (by decide) (hs (.arrayOf (.static "BuriedGoods$Land" "LETTER" "[I") .int) (by decide +kernel)) (va_eqt (hs (.eq (.length (.static "BuriedGoods$Land" "LETTER" "[I")) (.int 10)) (by decide +kernel))) (fun j hj => ?_) hA
  match j, hj with
  | 0, _ => exact va_eqt (hs (.eq (.elem (.static "BuriedGoods$Land" "LETTER" "[I") (.int 0)) (.int 119)) (by decide +kernel))
  | 1, _ => exact va_eqt (hs (.eq (.elem (.static "BuriedGoods$Land" "LETTER" "[I") (.int 1)) (.int 104)) (by decide +kernel))
  | 2, _ => exact va_eqt (hs (.eq (.elem (.static "BuriedGoods$Land" "LETTER" "[I") (.int 2)) (.int 121)) (by decide +kernel))
  | 3, _ => exact va_eqt (hs (.eq (.elem (.static "BuriedGoods$Land" "LETTER" "[I") (.int 3)) (.int 102)) (by decide +kernel))
  | 4, _ => exact va_eqt (hs (.eq (.elem (.static "BuriedGoods$Land" "LETTER" "[I") (.int 4)) (.int 107)) (by decide +kernel))
  | 5, _ => exact va_eqt (hs (.eq (.elem (.static "BuriedGoods$Land" "LETTER" "[I") (.int 5)) (.int 100)) (by decide +kernel))
  | 6, _ => exact va_eqt (hs (.eq (.elem (.static "BuriedGoods$Land" "LETTER" "[I") (.int 6)) (.int 118)) (by decide +kernel))
  | 7, _ => exact va_eqt (hs (.eq (.elem (.static "BuriedGoods$Land" "LETTER" "[I") (.int 7)) (.int 115)) (by decide +kernel))
  | 8, _ => exact va_eqt (hs (.eq (.elem (.static "BuriedGoods$Land" "LETTER" "[I") (.int 8)) (.int 112)) (by decide +kernel))
  | 9, _ => exact va_eqt (hs (.eq (.elem (.static "BuriedGoods$Land" "LETTER" "[I") (.int 9)) (.int 109)) (by decide +kernel))
  | j + 10, hj => exact absurd hj (by omega)
theorem ws_T2 (L : Nat) (xs : Nat → Int32) {A : Nat → Prop} (h : (Jvm.Cond.and given_1 narrow_1).before args s = true) (hA : ∀ a : Nat, a < s.heap.size → ¬ A a) : ∃ t : Nat, (Term.static "BuriedGoods$Land" "CLAUSE" "[I").eval args s none [] s = some (.ref t) ∧ va_T .int t 10 (fun j => .int ((mm_xf L xs 2).2 j)) A s s.heap := by
  have hs := flat_of_before _ h
  refine va_Tof (by decide) (hs (.arrayOf (.static "BuriedGoods$Land" "CLAUSE" "[I") .int) (by decide +kernel)) (va_eqt (hs (.eq (.length (.static "BuriedGoods$Land" "CLAUSE" "[I")) (.int 10)) (by decide +kernel))) (fun j hj => ?_) hA
  match j, hj with
  | 0, _ => exact va_eqt (hs (.eq (.elem (.static "BuriedGoods$Land" "CLAUSE" "[I") (.int 0)) (.int 115)) (by decide +kernel))
  | 1, _ => exact va_eqt (hs (.eq (.elem (.static "BuriedGoods$Land" "CLAUSE" "[I") (.int 1)) (.int 115)) (by decide +kernel))
  | 2, _ => exact va_eqt (hs (.eq (.elem (.static "BuriedGoods$Land" "CLAUSE" "[I") (.int 2)) (.int 115)) (by decide +kernel))
  | 3, _ => exact va_eqt (hs (.eq (.elem (.static "BuriedGoods$Land" "CLAUSE" "[I") (.int 3)) (.int 115)) (by decide +kernel))
  | 4, _ => exact va_eqt (hs (.eq (.elem (.static "BuriedGoods$Land" "CLAUSE" "[I") (.int 4)) (.int 115)) (by decide +kernel))
  | 5, _ => exact va_eqt (hs (.eq (.elem (.static "BuriedGoods$Land" "CLAUSE" "[I") (.int 5)) (.int 114)) (by decide +kernel))
  | 6, _ => exact va_eqt (hs (.eq (.elem (.static "BuriedGoods$Land" "CLAUSE" "[I") (.int 6)) (.int 116)) (by decide +kernel))
  | 7, _ => exact va_eqt (hs (.eq (.elem (.static "BuriedGoods$Land" "CLAUSE" "[I") (.int 7)) (.int 116)) (by decide +kernel))
  | 8, _ => exact va_eqt (hs (.eq (.elem (.static "BuriedGoods$Land" "CLAUSE" "[I") (.int 8)) (.int 116)) (by decide +kernel))
  | 9, _ => exact va_eqt (hs (.eq (.elem (.static "BuriedGoods$Land" "CLAUSE" "[I") (.int 9)) (.int 116)) (by decide +kernel))
  | j + 10, hj => exact absurd hj (by omega)
theorem ws_T3 (L : Nat) (xs : Nat → Int32) {A : Nat → Prop} (h : (Jvm.Cond.and given_1 narrow_1).before args s = true) (hA : ∀ a : Nat, a < s.heap.size → ¬ A a) : ∃ t : Nat, (Term.static "BuriedGoods$Land" "LEAST" "[I").eval args s none [] s = some (.ref t) ∧ va_T .int t 10 (fun j => .int ((mm_xf L xs 3).2 j)) A s s.heap := by
  have hs := flat_of_before _ h
  refine va_Tof (by decide) (hs (.arrayOf (.static "BuriedGoods$Land" "LEAST" "[I") .int) (by decide +kernel)) (va_eqt (hs (.eq (.length (.static "BuriedGoods$Land" "LEAST" "[I")) (.int 10)) (by decide +kernel))) (fun j hj => ?_) hA
  match j, hj with
  | 0, _ => exact va_eqt (hs (.eq (.elem (.static "BuriedGoods$Land" "LEAST" "[I") (.int 0)) (.int 1)) (by decide +kernel))
  | 1, _ => exact va_eqt (hs (.eq (.elem (.static "BuriedGoods$Land" "LEAST" "[I") (.int 1)) (.int 1)) (by decide +kernel))
  | 2, _ => exact va_eqt (hs (.eq (.elem (.static "BuriedGoods$Land" "LEAST" "[I") (.int 2)) (.int 1)) (by decide +kernel))
  | 3, _ => exact va_eqt (hs (.eq (.elem (.static "BuriedGoods$Land" "LEAST" "[I") (.int 3)) (.int 0)) (by decide +kernel))
  | 4, _ => exact va_eqt (hs (.eq (.elem (.static "BuriedGoods$Land" "LEAST" "[I") (.int 4)) (.int 0)) (by decide +kernel))
  | 5, _ => exact va_eqt (hs (.eq (.elem (.static "BuriedGoods$Land" "LEAST" "[I") (.int 5)) (.int 0)) (by decide +kernel))
  | 6, _ => exact va_eqt (hs (.eq (.elem (.static "BuriedGoods$Land" "LEAST" "[I") (.int 6)) (.int 1)) (by decide +kernel))
  | 7, _ => exact va_eqt (hs (.eq (.elem (.static "BuriedGoods$Land" "LEAST" "[I") (.int 7)) (.int 0)) (by decide +kernel))
  | 8, _ => exact va_eqt (hs (.eq (.elem (.static "BuriedGoods$Land" "LEAST" "[I") (.int 8)) (.int 0)) (by decide +kernel))
  | 9, _ => exact va_eqt (hs (.eq (.elem (.static "BuriedGoods$Land" "LEAST" "[I") (.int 9)) (.int 0)) (by decide +kernel))
  | j + 10, hj => exact absurd hj (by omega)
theorem ws_T4 (L : Nat) (xs : Nat → Int32) {A : Nat → Prop} (h : (Jvm.Cond.and given_1 narrow_1).before args s = true) (hA : ∀ a : Nat, a < s.heap.size → ¬ A a) : ∃ t : Nat, (Term.static "BuriedGoods$Land" "MOST" "[I").eval args s none [] s = some (.ref t) ∧ va_T .int t 10 (fun j => .int ((mm_xf L xs 4).2 j)) A s s.heap := by
  have hs := flat_of_before _ h
  refine va_Tof (by decide) (hs (.arrayOf (.static "BuriedGoods$Land" "MOST" "[I") .int) (by decide +kernel)) (va_eqt (hs (.eq (.length (.static "BuriedGoods$Land" "MOST" "[I")) (.int 10)) (by decide +kernel))) (fun j hj => ?_) hA
  match j, hj with
  | 0, _ => exact va_eqt (hs (.eq (.elem (.static "BuriedGoods$Land" "MOST" "[I") (.int 0)) (.int 6)) (by decide +kernel))
  | 1, _ => exact va_eqt (hs (.eq (.elem (.static "BuriedGoods$Land" "MOST" "[I") (.int 1)) (.int 4)) (by decide +kernel))
  | 2, _ => exact va_eqt (hs (.eq (.elem (.static "BuriedGoods$Land" "MOST" "[I") (.int 2)) (.int 24)) (by decide +kernel))
  | 3, _ => exact va_eqt (hs (.eq (.elem (.static "BuriedGoods$Land" "MOST" "[I") (.int 3)) (.int 9)) (by decide +kernel))
  | 4, _ => exact va_eqt (hs (.eq (.elem (.static "BuriedGoods$Land" "MOST" "[I") (.int 4)) (.int 99)) (by decide +kernel))
  | 5, _ => exact va_eqt (hs (.eq (.elem (.static "BuriedGoods$Land" "MOST" "[I") (.int 5)) (.int 9)) (by decide +kernel))
  | 6, _ => exact va_eqt (hs (.eq (.elem (.static "BuriedGoods$Land" "MOST" "[I") (.int 6)) (.int 99)) (by decide +kernel))
  | 7, _ => exact va_eqt (hs (.eq (.elem (.static "BuriedGoods$Land" "MOST" "[I") (.int 7)) (.int 5)) (by decide +kernel))
  | 8, _ => exact va_eqt (hs (.eq (.elem (.static "BuriedGoods$Land" "MOST" "[I") (.int 8)) (.int 23)) (by decide +kernel))
  | 9, _ => exact va_eqt (hs (.eq (.elem (.static "BuriedGoods$Land" "MOST" "[I") (.int 9)) (.int 99)) (by decide +kernel))
  | j + 10, hj => exact absurd hj (by omega)
theorem ws_Z {n : String} {t : Nat} {A : Nat → Prop} (hl : Cond.laysStatic "BuriedGoods$Land" n "[I" ∈ lw_tbl) (hts : ∀ w ∈ lw_tbl, w.before args s = true) (hv : (Term.static "BuriedGoods$Land" n "[I").eval args s none [] s = some (.ref t)) (hA : ∀ a : Nat, a < s.heap.size → ¬ A a) : va_Z "BuriedGoods$Land" n "[I" (.ref t) A s s.heap := va_Zref (hts _ hl) (hts (.initialized "BuriedGoods$Land") (by decide +kernel)) hv hA
theorem ws_D (hts : ∀ w ∈ lw_tbl, w.before args s = true) : ∃ D : va_G, ∀ (k : Nat) (q : vw_C), vwCl[k]? = some q → u_Kn s q.1 q.2.1 q.2.2 (D.1 k) (D.2 k) := by
  have h0 : ∀ ci, ci < 12 → ∃ q : ClassId × (Nat → Nat), u_Kn s (mm_Rn ci) (mm_T ci) (mm_N ci) q.1 q.2 := fun ci hc => by
    obtain ⟨cC, iS, h⟩ := u_known hts (fun w hw => ((sd_cls ci hc).2.1 w hw).1) (hts _ (ws_inst ci hc))
    exact ⟨(cC, iS), h⟩
  have h1 : ∀ ci : Nat, ∃ q : ClassId × (Nat → Nat), ci < 12 → u_Kn s (mm_Rn ci) (mm_T ci) (mm_N ci) q.1 q.2 := fun ci => by
    by_cases hc : ci < 12
    · obtain ⟨q, hq⟩ := h0 ci hc
      exact ⟨q, fun _ => hq⟩
    · obtain ⟨q, -⟩ := h0 0 (by decide)
      exact ⟨q, fun z => absurd z hc⟩
  refine ⟨(fun ci => (Classical.choose (h1 ci)).1, fun ci => (Classical.choose (h1 ci)).2), fun k q hq => ?_⟩
  have hk : k < 12 := (List.getElem?_eq_some_iff.mp hq).1
  have e := Option.some.inj (hq.symm.trans (sd_cls k hk).1)
  subst e
  exact Classical.choose_spec (h1 k) hk
theorem ws_A {ty : FieldType} (h : (Cond.arrayClass ty).before args s = true) : ∃ cA : ClassId, ArrOfT s cA ty ∧ s.vm.findClass ("[" ++ ty.toString) = some cA := by
  obtain ⟨cA, kA, comp, h1, h2, h3⟩ := Cond.arrayClass_spec h
  exact ⟨cA, fun n z => ⟨fun k h => (by cases h), kA, h2, comp, h3⟩, h1⟩
theorem ws_O {C : String} (h : (Cond.arrayOver (.object C)).before args s = true) : ∃ cA : ClassId, ArrOfT s cA (.object C) ∧ va_RA s cA (.object C) := by
  obtain ⟨comp, cA, kA, h1, -, h2, h3, h4⟩ := Cond.arrayOver_spec h
  exact ⟨cA, fun n z => ⟨fun k h => (by cases h), kA, h2, comp, h3⟩, kA, comp, h2, h3, h1, h4⟩
theorem ws_K (hts : ∀ w ∈ lw_tbl, w.before args s = true) : ∃ (D : va_G) (tI tJ tZ : ClassId) (tO : Nat → ClassId), sd_Sk D tI tJ tZ tO s := by
  obtain ⟨D, hD⟩ := ws_D hts
  have w1 : (Cond.arrayOver (.object "BuriedGoods$Thing")).before args s = true := hts _ (by decide +kernel)
  have w2 : (Cond.arrayOver (.object "BuriedGoods$Stand")).before args s = true := hts _ (by decide +kernel)
  have w3 : (Cond.arrayOver (.object "BuriedGoods$Law")).before args s = true := hts _ (by decide +kernel)
  obtain ⟨tI, i1, i2⟩ := ws_A (hts (.arrayClass .int) (by decide +kernel))
  obtain ⟨tJ, j1, j2⟩ := ws_A (hts (.arrayClass .long) (by decide +kernel))
  obtain ⟨tZ, z1, z2⟩ := ws_A (hts (.arrayClass .boolean) (by decide +kernel))
  obtain ⟨o9, t1, t2⟩ := ws_O w1
  obtain ⟨o7, s1, s2⟩ := ws_O w2
  obtain ⟨o2, l1, l2⟩ := ws_O w3
  refine ⟨D, tI, tJ, tZ, fun k => bif Nat.beq k 9 then o9 else bif Nat.beq k 7 then o7 else o2, ⟨hD, fun k q hq => ?_⟩, fun w hw => va_Nw.of (th_ot (List.mem_filter.mp hw).2) (hts w (List.mem_filter.mp hw).1), va_AO.of w1, va_AO.of w2, va_AO.of w3⟩
  match k, hq with
  | 0, hq => cases hq; exact ⟨i1, i2⟩
  | 1, hq => cases hq; exact ⟨j1, j2⟩
  | 2, hq => cases hq; exact ⟨z1, z2⟩
  | 3, hq => cases hq; exact ⟨t1, t2⟩
  | 4, hq => cases hq; exact ⟨s1, s2⟩
  | 5, hq => cases hq; exact ⟨l1, l2⟩
  | k + 6, hq => cases hq
theorem ws_X {b L : Nat} {xs : Nat → Int32} (hts : ∀ w ∈ lw_tbl, w.before args s = true) (hX : va_X b L xs s s.heap) (hbl : b < s.heap.size) (h : (Jvm.Cond.and given_1 narrow_1).before args s = true) : ∃ xa : Nat → Nat, xa 0 = b ∧ sd_X L xs s.heap.size xa s s.heap := by
  have hA : ∀ a : Nat, a < s.heap.size → ¬ sd_A s.heap.size a := fun a ha z => Nat.lt_irrefl _ (Nat.lt_of_lt_of_le ha z)
  have hs := flat_of_before _ h
  obtain ⟨t1, v1, h1⟩ := ws_T1 (A := sd_A s.heap.size) L xs h hA
  obtain ⟨t2, v2, h2⟩ := ws_T2 (A := sd_A s.heap.size) L xs h hA
  obtain ⟨t3, v3, h3⟩ := ws_T3 (A := sd_A s.heap.size) L xs h hA
  obtain ⟨t4, v4, h4⟩ := ws_T4 (A := sd_A s.heap.size) L xs h hA
  obtain ⟨scr, x1, x2, x3, x4, x5⟩ := hX
  have h0 : va_T .int b L (fun j => .int (xs j)) (sd_A s.heap.size) s s.heap := ⟨scr, x1, x2, x3, Nat.le_of_eq x4.symm, by rw [x4], x5, hA b hbl⟩
  have ini : (Cond.initialized Bundle.tN).before args s = true := hts _ (by decide +kernel)
  refine ⟨fun e => bif Nat.beq e 0 then b else bif Nat.beq e 1 then t1 else bif Nat.beq e 2 then t2 else bif Nat.beq e 3 then t3 else t4, rfl, fun e => ?_, fun e he1 he2 => ?_, vx_Zqof (hts _ (by decide +kernel)) ini (hs _ (by decide +kernel)) hA, vx_Zqof (hts _ (by decide +kernel)) ini (hs _ (by decide +kernel)) hA⟩
  · match e with
    | 0 => exact h0
    | 1 => exact h1
    | 2 => exact h2
    | 3 => exact h3
    | e + 4 => exact h4
  · match e, he1, he2 with
    | 1, _, _ => exact ws_Z (by decide +kernel) hts v1 hA
    | 2, _, _ => exact ws_Z (by decide +kernel) hts v2 hA
    | 3, _, _ => exact ws_Z (by decide +kernel) hts v3 hA
    | 4, _, _ => exact ws_Z (by decide +kernel) hts v4 hA
    | e + 5, _, h => exact absurd h (by omega)
end WST
