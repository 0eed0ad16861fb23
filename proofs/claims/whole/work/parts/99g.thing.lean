/-! THE LAW'S LOOP: the thing's case, and the loop -/
section THG
variable {XL : Nat} {xs : Nat → Int32} {m : mm_MM} {x : Int32}
theorem ev_th {d y pc pc' k : Nat} {M M1 : mm_M} {lv lv' : mm_L} {st rest la : List Value} {r q : mm_R} (hs : ∀ n, mm_run XL xs (n + k) (d + 1) y M pc lv st = (mm_th (fun M as => mm_run XL xs n 1 69 M 0 (lv_args 0 as) []) M1 la).bind fun r => mm_run XL xs n (d + 1) y r.2 pc' lv' (r.1.toList ++ rest)) (hth : ∃ K, ∀ n, K ≤ n → mm_th (fun M as => mm_run XL xs n 1 69 M 0 (lv_args 0 as) []) M1 la = some r) (hn : Ev XL xs (d + 1) y r.2 pc' lv' (r.1.toList ++ rest) q) : Ev XL xs (d + 1) y M pc lv st q := by
  obtain ⟨K1, h1⟩ := hth
  obtain ⟨K2, h2⟩ := hn
  refine ⟨K1 + K2 + k, fun n h => ?_⟩
  obtain ⟨j, rfl⟩ : ∃ j, n = j + k := ⟨n - k, by omega⟩
  rw [hs, h1 j (by omega), Option.bind_some]
  exact h2 j (by omega)
def thV (m : mm_MM) (t : Nat) (y : Int32) : Int32 := if y = 0 then m.1 t 1 else if y = 1 then m.1 t 2 else if y = 2 then m.1 t 3 else if y = 3 then m.1 t 4 else if m.1 t 3 = -1 then 0 else if m.1 t 5 = 0 then 0 else 1
/-- the class's thing, its exception caught -/
theorem th_c (m : mm_MM) (a b : Int32) (d c w : Nat) : ∃ K, ∀ n, K ≤ n → mm_th (fun M as => mm_run XL xs n 1 69 M 0 (lv_args 0 as) []) (ev_M m c w) [.ref 0, .int a, .int b, .ref 639] = some (if tx (thc m 34) a 5 = 1 then (if b < 0 ∨ 4 < b then (some (.int 1), ev_M m (c + 1) (w + 6)) else (some (.int 0), ev_M (wL m 639 0 (thV m (34 + a.toNatClampNeg) b).toInt64) c w)) else (some (.int 1), ev_M m (c + 1) (w + 6))) := by
  obtain ⟨K, hK⟩ := ok_fX7_find (XL := XL) (xs := xs) (d := 0) (c := c) (w := w) (t0 := 29) (rfl : mm_kd 29 = (7, 8)) (c_find m a)
  refine ⟨K, fun n hn => ?_⟩
  have e : mm_th (fun M as => mm_run XL xs n 1 69 M 0 (lv_args 0 as) []) (ev_M m c w) [.ref 0, .int a, .int b, .ref 639] = (mm_run XL xs n (0 + 1) 69 (ev_M m c w) 0 (lv_args 0 [.ref 29, .int a]) []).bind fun r => match r.1 with
        | some .null => some (some (.int 1), (r.2.1, r.2.2.1, r.2.2.2.1, r.2.2.2.2.1, r.2.2.2.2.2.1 + 1, r.2.2.2.2.2.2 + 6))
        | some (.ref t) => bif Nat.beq (mm_kd t).1 9 && Nat.blt t r.2.2.2.2.1 && Nat.blt 639 r.2.2.2.2.1 then (if b < 0 ∨ 4 < b then some (some (.int 1), (r.2.1, r.2.2.1, r.2.2.2.1, r.2.2.2.2.1, r.2.2.2.2.2.1 + 1, r.2.2.2.2.2.2 + 6))
            else some (some (.int 0), mm_pl r.2 639 0 (if b = 0 then r.2.1 t 1 else if b = 1 then r.2.1 t 2 else if b = 2 then r.2.1 t 3 else if b = 3 then r.2.1 t 4 else if r.2.1 t 3 = -1 then 0 else if r.2.1 t 5 = 0 then 0 else 1).toInt64)) else none
        | _ => none := rfl
  rw [e, hK n hn, Option.bind_some]
  by_cases h5 : tx (thc m 34) a 5 = 1
  · obtain ⟨h0, ex, hT5, htx⟩ := tx_b h5
    have hb8 := (thc_5 hT5).1
    have hkd : mm_kd (34 + a.toNatClampNeg) = (9, 6) := kd_p hb8
    rw [if_pos h5, if_pos h5]
    show (bif Nat.beq (mm_kd (34 + a.toNatClampNeg)).1 9 && Nat.blt (34 + a.toNatClampNeg) 640 && Nat.blt 639 640 then _ else _) = _
    have e3 : (Nat.beq (mm_kd (34 + a.toNatClampNeg)).1 9 && Nat.blt (34 + a.toNatClampNeg) 640 && Nat.blt 639 640) = true := by
      rw [hkd, Bool.and_eq_true, Bool.and_eq_true, Nat.blt_eq]
      exact ⟨⟨rfl, by omega⟩, rfl⟩
    rw [e3]
    show (if b < 0 ∨ 4 < b then _ else _) = _
    by_cases hb : b < 0 ∨ 4 < b
    · rw [if_pos hb, if_pos hb]; rfl
    · rw [if_neg hb, if_neg hb]; rfl
  · rw [if_neg h5, if_neg h5]
    rfl
set_option maxRecDepth 20000 in
theorem th_flow {m1 m2 : mm_MM} {t r : Int32} (h1 : ¬ (x + 1 < 0 ∨ XL ≤ (x + 1).toNatClampNeg)) (h2 : ¬ (x + 2 < 0 ∨ XL ≤ (x + 2).toNatClampNeg)) (e2 : fX11_thing m1 (xs (x + 1).toNatClampNeg) (xs (x + 2).toNatClampNeg) = some (r, m2)) (hf : m2.1 606 0 = t) (hv : t = 0 → m2.2 639 0 = r.toInt64) (d c w : Nat) (q : mm_R) (hq : Ev XL xs (d + 101) 311 (ev_M m2 c w) 1595 [(4, .int x), (3, .ref 639), (2, .ref 606), (1, .ref 0), (0, .ref 1000000)] [] q) : Ev XL xs (d + 101) 311 (ev_M m1 c w) 431 [(4, .int x), (3, .ref 639), (2, .ref 606), (1, .ref 0), (0, .ref 1000000)] [.int t] q := by
  refine ev_s 1 (M' := ev_M m1 c w) (pc' := 433) (lv' := [(5, .int t), (4, .int x), (3, .ref 639), (2, .ref 606), (1, .ref 0), (0, .ref 1000000)]) (st' := []) (fun n => rfl) ?_
  refine ev_c 12 (y' := 242) (M1 := ev_M m1 c w) (la := lv_args 0 [.ref 606, .int (xs (x + 1).toNatClampNeg), .int (xs (x + 2).toNatClampNeg)]) (rest := []) (pc' := 449) (lv' := [(5, .int t), (4, .int x), (3, .ref 639), (2, .ref 606), (1, .ref 0), (0, .ref 1000000)]) (fun n => (show mm_run XL xs (n + 12) (d + 101) 311 (ev_M m1 c w) 433 [(5, .int t), (4, .int x), (3, .ref 639), (2, .ref 606), (1, .ref 0), (0, .ref 1000000)] [] = if x + 1 < 0 ∨ XL ≤ (x + 1).toNatClampNeg then none else if x + 2 < 0 ∨ XL ≤ (x + 2).toNatClampNeg then none else (mm_run XL xs n (d + 100) 242 (ev_M m1 c w) 0 (lv_args 0 [.ref 606, .int (xs (x + 1).toNatClampNeg), .int (xs (x + 2).toNatClampNeg)]) []).bind fun r => mm_run XL xs n (d + 101) 311 r.2 449 [(5, .int t), (4, .int x), (3, .ref 639), (2, .ref 606), (1, .ref 0), (0, .ref 1000000)] (r.1.toList ++ []) from rfl).trans (by rw [if_neg h1, if_neg h2])) (ok_fX11_thing e2) ?_
  show Ev XL xs _ 311 (ev_M m2 c w) 449 [(5, .int t), (4, .int x), (3, .ref 639), (2, .ref 606), (1, .ref 0), (0, .ref 1000000)] [.int r] q
  refine ev_s 1 (M' := ev_M m2 c w) (pc' := 451) (lv' := [(6, .int r), (5, .int t), (4, .int x), (3, .ref 639), (2, .ref 606), (1, .ref 0), (0, .ref 1000000)]) (st' := []) (fun n => rfl) ?_
  have et : fX11_thrown m2 = some (t, m2) := by unfold fX11_thrown; rw [hf]
  refine ev_c 2 (y' := 181) (M1 := ev_M m2 c w) (la := lv_args 0 [.ref 606]) (rest := []) (pc' := 455) (lv' := [(6, .int r), (5, .int t), (4, .int x), (3, .ref 639), (2, .ref 606), (1, .ref 0), (0, .ref 1000000)]) (fun n => rfl) (ok_fX11_thrown (d := d + 100) et) ?_
  show Ev XL xs _ 311 (ev_M m2 c w) 455 [(6, .int r), (5, .int t), (4, .int x), (3, .ref 639), (2, .ref 606), (1, .ref 0), (0, .ref 1000000)] [.int t] q
  have fin : Ev XL xs (d + 101) 311 (ev_M m2 c w) 479 [(6, .int r), (5, .int t), (4, .int x), (3, .ref 639), (2, .ref 606), (1, .ref 0), (0, .ref 1000000)] [] q := by
    refine ev_s 1 (M' := ev_M m2 c w) (pc' := 1595) (lv' := [(6, .int r), (5, .int t), (4, .int x), (3, .ref 639), (2, .ref 606), (1, .ref 0), (0, .ref 1000000)]) (st' := []) (fun n => rfl) ?_
    refine ev_sub ⟨rfl, fun i v hl => ?_⟩ hq
    by_cases c6 : i = 6
    · subst c6; cases hl
    · by_cases c5 : i = 5
      · subst c5; cases hl
      · show (bif Nat.beq 6 i then some _ else bif Nat.beq 5 i then some _ else mm_lg _ i) = _
        have b6 : Nat.beq 6 i = false := by
          cases hb : Nat.beq 6 i with
          | false => rfl
          | true => exact absurd (Nat.eq_of_beq_eq_true hb).symm c6
        have b5 : Nat.beq 5 i = false := by
          cases hb : Nat.beq 5 i with
          | false => rfl
          | true => exact absurd (Nat.eq_of_beq_eq_true hb).symm c5
        rw [b6, b5]
        exact hl
  refine ev_s 2 (M' := ev_M m2 c w) (pc' := 462) (lv' := [(6, .int r), (5, .int t), (4, .int x), (3, .ref 639), (2, .ref 606), (1, .ref 0), (0, .ref 1000000)]) (st' := []) (fun n => (show mm_run XL xs (n + 2) (d + 101) 311 (ev_M m2 c w) 455 [(6, .int r), (5, .int t), (4, .int x), (3, .ref 639), (2, .ref 606), (1, .ref 0), (0, .ref 1000000)] [.int t] = if t = t then mm_run XL xs n (d + 101) 311 (ev_M m2 c w) 462 [(6, .int r), (5, .int t), (4, .int x), (3, .ref 639), (2, .ref 606), (1, .ref 0), (0, .ref 1000000)] [] else mm_run XL xs n (d + 101) 311 (ev_M m2 c w) 460 [(6, .int r), (5, .int t), (4, .int x), (3, .ref 639), (2, .ref 606), (1, .ref 0), (0, .ref 1000000)] [] from rfl).trans (if_pos rfl)) ?_
  have e462 : ∀ n, mm_run XL xs (n + 2) (d + 101) 311 (ev_M m2 c w) 462 [(6, .int r), (5, .int t), (4, .int x), (3, .ref 639), (2, .ref 606), (1, .ref 0), (0, .ref 1000000)] [] = if t = 0 then mm_run XL xs n (d + 101) 311 (ev_M m2 c w) 467 [(6, .int r), (5, .int t), (4, .int x), (3, .ref 639), (2, .ref 606), (1, .ref 0), (0, .ref 1000000)] [] else mm_run XL xs n (d + 101) 311 (ev_M m2 c w) 479 [(6, .int r), (5, .int t), (4, .int x), (3, .ref 639), (2, .ref 606), (1, .ref 0), (0, .ref 1000000)] [] := fun n => rfl
  by_cases t0 : t = 0
  · refine ev_s 2 (fun n => (e462 n).trans (if_pos t0)) ?_
    have hc : lg_cmp (m2.2 639 0) r.toInt64 = 0 := (lc_eq _ _).mpr (hv t0)
    refine ev_s 7 (M' := ev_M m2 c w) (pc' := 479) (lv' := [(6, .int r), (5, .int t), (4, .int x), (3, .ref 639), (2, .ref 606), (1, .ref 0), (0, .ref 1000000)]) (st' := []) (fun n => (show mm_run XL xs (n + 7) (d + 101) 311 (ev_M m2 c w) 467 [(6, .int r), (5, .int t), (4, .int x), (3, .ref 639), (2, .ref 606), (1, .ref 0), (0, .ref 1000000)] [] = if lg_cmp (m2.2 639 0) r.toInt64 = 0 then mm_run XL xs n (d + 101) 311 (ev_M m2 c w) 479 [(6, .int r), (5, .int t), (4, .int x), (3, .ref 639), (2, .ref 606), (1, .ref 0), (0, .ref 1000000)] [] else mm_run XL xs n (d + 101) 311 (ev_M m2 c w) 477 [(6, .int r), (5, .int t), (4, .int x), (3, .ref 639), (2, .ref 606), (1, .ref 0), (0, .ref 1000000)] [] from rfl).trans (if_pos hc)) fin
  · exact ev_s 2 (fun n => (e462 n).trans (if_neg t0)) fin
theorem Inv_l {m : mm_MM} {l : Nat → Nat → Int64} (h : Inv m) : Inv (m.1, l) := by
  obtain ⟨W, H, P, ls, h⟩ := h
  exact ⟨W, H, P, ls, InvA_2 (m := (m.1, l)) (l := m.2) h⟩
set_option maxRecDepth 20000 in
theorem lc_6 (hi : Inv m) (h1 : ¬ (x + 1 < 0 ∨ XL ≤ (x + 1).toNatClampNeg)) (h2 : ¬ (x + 2 < 0 ∨ XL ≤ (x + 2).toNatClampNeg)) : ∃ m' dc dw, Inv m' ∧ dw ≤ 6 * dc ∧ dc ≤ 1 ∧ ∀ (d c w : Nat) (q : mm_R), Ev XL xs (d + 101) 311 (ev_M m' (c + dc) (w + dw)) 1595 [(4, .int x), (3, .ref 639), (2, .ref 606), (1, .ref 0), (0, .ref 1000000)] [] q → Ev XL xs (d + 101) 311 (ev_M m c w) 414 [(4, .int x), (3, .ref 639), (2, .ref 606), (1, .ref 0), (0, .ref 1000000)] [] q := by
  generalize ha : xs (x + 1).toNatClampNeg = a
  generalize hb : xs (x + 2).toNatClampNeg = b
  have st : ∀ (d c w : Nat) n, mm_run XL xs (n + 13) (d + 101) 311 (ev_M m c w) 414 [(4, .int x), (3, .ref 639), (2, .ref 606), (1, .ref 0), (0, .ref 1000000)] [] = (mm_th (fun M as => mm_run XL xs n 1 69 M 0 (lv_args 0 as) []) (ev_M m c w) [.ref 0, .int a, .int b, .ref 639]).bind fun r => mm_run XL xs n (d + 101) 311 r.2 431 [(4, .int x), (3, .ref 639), (2, .ref 606), (1, .ref 0), (0, .ref 1000000)] (r.1.toList ++ []) := fun d c w n => (show mm_run XL xs (n + 13) (d + 101) 311 (ev_M m c w) 414 [(4, .int x), (3, .ref 639), (2, .ref 606), (1, .ref 0), (0, .ref 1000000)] [] = if x + 1 < 0 ∨ XL ≤ (x + 1).toNatClampNeg then none else if x + 2 < 0 ∨ XL ≤ (x + 2).toNatClampNeg then none else (mm_th (fun M as => mm_run XL xs n 1 69 M 0 (lv_args 0 as) []) (ev_M m c w) [.ref 0, .int (xs (x + 1).toNatClampNeg), .int (xs (x + 2).toNatClampNeg), .ref 639]).bind fun r => mm_run XL xs n (d + 101) 311 r.2 431 [(4, .int x), (3, .ref 639), (2, .ref 606), (1, .ref 0), (0, .ref 1000000)] (r.1.toList ++ []) from rfl).trans (by rw [if_neg h1, if_neg h2, ha, hb])
  have hT : ∀ l, thr (m.1, l) 623 0 = thc m 34 := fun l => by
    obtain ⟨W, H, P, ls, h⟩ := hi
    have e := IA_T h
    exact e
  have hQ : ∀ (l : Nat → Nat → Int64) v, Inv (wI (m.1, l) 606 0 v) := fun l v => Inv_q (fr_wI (fr_refl _ _) rfl) (Inv_l hi)
  by_cases hok : tx (thc m 34) a 5 = 1 ∧ ¬ b < 0 ∧ b ≤ 4
  · obtain ⟨h5, hb0, hb4⟩ := hok
    have hnb : ¬ (b < 0 ∨ 4 < b) := fun z => z.elim hb0 (fun z => absurd hb4 (Int32.not_le.mpr z))
    obtain ⟨-, -, hT5, htx⟩ := tx_b h5
    have hv : thV m (34 + a.toNatClampNeg) b = tx (thc m 34) a b.toNatClampNeg := by
      obtain ⟨W, H, P, ls, h⟩ := hi
      have hTB : TB W H (thc m 34) := h.2.1.2.2.2.1.1
      obtain ⟨-, -, -, -, b4, b5⟩ := hTB _ hT5
      have e : ∀ k, k < 5 → thc m 34 a.toNatClampNeg k = m.1 (34 + a.toNatClampNeg) (k + 1) := fun k hk => thc_k hT5 hk
      rw [htx]
      have eb := nn_of hb0
      have bn := (nn_lek (k := 4) hb0 (by decide)).mp hb4
      generalize b.toNatClampNeg = k at eb bn
      subst eb
      unfold thV
      obtain rfl | rfl | rfl | rfl | rfl : k = 0 ∨ k = 1 ∨ k = 2 ∨ k = 3 ∨ k = 4 := by omega
      · rw [if_pos (show Int32.ofNat 0 = 0 from rfl)]; exact (e 0 (by decide)).symm
      · rw [if_neg (show ¬ Int32.ofNat 1 = 0 by decide), if_pos (show Int32.ofNat 1 = 1 from rfl)]; exact (e 1 (by decide)).symm
      · rw [if_neg (show ¬ Int32.ofNat 2 = 0 by decide), if_neg (show ¬ Int32.ofNat 2 = 1 by decide), if_pos (show Int32.ofNat 2 = 2 from rfl)]; exact (e 2 (by decide)).symm
      · rw [if_neg (show ¬ Int32.ofNat 3 = 0 by decide), if_neg (show ¬ Int32.ofNat 3 = 1 by decide), if_neg (show ¬ Int32.ofNat 3 = 2 by decide), if_pos (show Int32.ofNat 3 = 3 from rfl)]; exact (e 3 (by decide)).symm
      · rw [if_neg (show ¬ Int32.ofNat 4 = 0 by decide), if_neg (show ¬ Int32.ofNat 4 = 1 by decide), if_neg (show ¬ Int32.ofNat 4 = 2 by decide), if_neg (show ¬ Int32.ofNat 4 = 3 by decide)]
        have e2 : thc m 34 a.toNatClampNeg 2 = m.1 (34 + a.toNatClampNeg) 3 := e 2 (by decide)
        have e4 : thc m 34 a.toNatClampNeg 4 = m.1 (34 + a.toNatClampNeg) 5 := e 4 (by decide)
        rw [← e2, ← e4]
        by_cases c2 : thc m 34 a.toNatClampNeg 2 = -1
        · rw [if_pos c2, b5 c2]
        · rw [if_neg c2]
          rcases b4 with b4 | b4
          · rw [b4]; rfl
          · rw [b4]; rfl
    have er := r_thing (wL m 639 0 (thV m (34 + a.toNatClampNeg) b).toInt64) a b
    rw [show thr (wL m 639 0 (thV m (34 + a.toNatClampNeg) b).toInt64) 623 0 = thc m 34 from hT _, if_pos ⟨h5, hb0, hb4⟩, if_pos ⟨h5, hb0, hb4⟩] at er
    refine ⟨wI (wL m 639 0 (thV m (34 + a.toNatClampNeg) b).toInt64) 606 0 0, 0, 0, hQ _ 0, by decide, by decide, fun d c w q hq => ?_⟩
    refine ev_th (st d c w) (th_c m a b d c w) ?_
    rw [if_pos h5, if_neg hnb]
    show Ev XL xs (d + 101) 311 (ev_M (wL m 639 0 (thV m (34 + a.toNatClampNeg) b).toInt64) c w) 431 _ [.int 0] q
    refine th_flow (t := 0) h1 h2 (by rw [ha, hb]; exact er) wI_eq (fun _ => ?_) d c w q hq
    show (if (639 : Nat) = 639 ∧ (0 : Nat) = 0 then (thV m (34 + a.toNatClampNeg) b).toInt64 else m.2 639 0) = _
    rw [if_pos ⟨rfl, rfl⟩, hv]
  · have er := r_thing m a b
    rw [show thr m 623 0 = thc m 34 from hT m.2, if_neg hok, if_neg hok] at er
    refine ⟨wI m 606 0 1, 1, 6, hQ m.2 1, by decide, by decide, fun d c w q hq => ?_⟩
    refine ev_th (st d c w) (th_c m a b d c w) ?_
    have e : (if tx (thc m 34) a 5 = 1 then (if b < 0 ∨ 4 < b then ((some (.int 1) : Option Value), ev_M m (c + 1) (w + 6)) else (some (.int 0), ev_M (wL m 639 0 (thV m (34 + a.toNatClampNeg) b).toInt64) c w)) else (some (.int 1), ev_M m (c + 1) (w + 6))) = (some (.int 1), ev_M m (c + 1) (w + 6)) := by
      by_cases h5 : tx (thc m 34) a 5 = 1
      · rw [if_pos h5, if_pos]
        by_cases hb0 : b < 0
        · exact Or.inl hb0
        · exact Or.inr (Int32.not_le.mp (fun z => hok ⟨h5, hb0, z⟩))
      · rw [if_neg h5]
    rw [e]
    show Ev XL xs (d + 101) 311 (ev_M m (c + 1) (w + 6)) 431 _ [.int 1] q
    exact th_flow (t := 1) h1 h2 (by rw [ha, hb]; exact er) wI_eq (fun z => absurd z (by decide)) d (c + 1) (w + 6) q hq
end THG
