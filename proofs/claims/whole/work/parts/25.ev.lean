section EV
variable {XL : Nat} {xs : Nat → Int32} {d y : Nat} {M M' M1 M2 : mm_M} {pc pc' pc1 pc2 : Nat} {lv lv' lv1 lv2 : mm_L} {st st' st1 st2 rest : List Value} {q r : mm_R} {α : Type} {A B : Option α} {q0 : α} {y' : Nat} {la : mm_L} {a : Nat} {ci i ln : Nat} {v : Int}
/-- a case of a switch -/
theorem ev_e {x : Int32} (z : Int32) (h : (if x = z then A else B) = some q0) (ha : x = z → A = some q0 → Ev XL xs d y M pc lv st q) (hb : ¬ x = z → B = some q0 → Ev XL xs d y M pc lv st q) : Ev XL xs d y M pc lv st q := by
  by_cases hc : x = z
  · rw [if_pos hc] at h; exact ha hc h
  · rw [if_neg hc] at h; exact hb hc h
theorem ev_td {a b : Nat} {dflt lo hi : Int} {offs : Array Int} {x : Int32} (he : mm_nth (mm_cd y) pc = some (some (.tableswitch dflt lo hi offs, ln, a, b, v))) (hx : x.toInt < lo ∨ hi < x.toInt) (hp : mm_tg pc dflt = pc') (h : Ev XL xs d y M' pc' lv' st' q) (hM : M' = M ∧ lv' = lv ∧ st' = st := by exact ⟨rfl, rfl, rfl⟩) : Ev XL xs d y M pc lv (.int x :: st) q := by
  obtain ⟨rfl, rfl, rfl⟩ := hM
  refine ev_1 he (fun k0 cal => ?_) h
  unfold mm_ex
  dsimp only
  rw [if_pos hx, hp]
theorem ev_ld {a b : Nat} {dflt : Int} {ps : Array (Int × Int)} {x : Int32} (he : mm_nth (mm_cd y) pc = some (some (.lookupswitch dflt ps, ln, a, b, v))) (hx : Op.lookupswitch.offset ps.toList dflt x.toInt = dflt) (hp : mm_tg pc dflt = pc') (h : Ev XL xs d y M' pc' lv' st' q) (hM : M' = M ∧ lv' = lv ∧ st' = st := by exact ⟨rfl, rfl, rfl⟩) : Ev XL xs d y M pc lv (.int x :: st) q := by
  obtain ⟨rfl, rfl, rfl⟩ := hM
  refine ev_1 he (fun k0 cal => ?_) h
  unfold mm_ex
  dsimp only
  rw [hx, hp]
/-- two guards -/
theorem ev_gg (k : Nat) {c e : Prop} [Decidable c] [Decidable e] (hs : ∀ n, mm_run XL xs (n + k) d y M pc lv st = if c then none else if e then mm_run XL xs n d y M1 pc1 lv1 st1 else none) (h : (if c then none else if e then A else none) = some q0) (ha : A = some q0 → Ev XL xs d y M1 pc1 lv1 st1 q) : Ev XL xs d y M pc lv st q := by
  obtain ⟨h1, h⟩ := sd_ifn h
  obtain ⟨h2, h⟩ := sd_ift h
  exact ev_s k (fun n => by rw [hs, if_neg h1, if_pos h2]) (ha h)
end EV
theorem kd_640 {s p n : Nat} (h : mm_kd s = (p, n)) (hp : p < 99) : s < 640 := sd_k640 (by rw [h]; exact hp)
theorem tr_Sx0 {s : Nat} (h : mm_kd s = (7, 8)) : mm_tr s 0 = some (s + 1) := (tr_S1 s (kd_640 h (by decide)) (congrArg Prod.fst h)).1
theorem tr_Sx1 {s : Nat} (h : mm_kd s = (7, 8)) : mm_tr s 1 = some (s + 2) := (tr_S1 s (kd_640 h (by decide)) (congrArg Prod.fst h)).2.1
theorem tr_Sx2 {s : Nat} (h : mm_kd s = (7, 8)) : mm_tr s 2 = some (s + 3) := (tr_S1 s (kd_640 h (by decide)) (congrArg Prod.fst h)).2.2.1
theorem tr_Sx3 {s : Nat} (h : mm_kd s = (7, 8)) : mm_tr s 3 = some (s + 4) := (tr_S1 s (kd_640 h (by decide)) (congrArg Prod.fst h)).2.2.2
theorem kd_S1 {s : Nat} (h : mm_kd s = (7, 8)) : mm_kd (s + 1) = (39, 8) := (tr_S2 s (kd_640 h (by decide)) (congrArg Prod.fst h)).1
theorem kd_S2 {s : Nat} (h : mm_kd s = (7, 8)) : mm_kd (s + 2) = (20, 60) := (tr_S2 s (kd_640 h (by decide)) (congrArg Prod.fst h)).2.1
theorem kd_S3 {s : Nat} (h : mm_kd s = (7, 8)) : mm_kd (s + 3) = (20, 60) := (tr_S2 s (kd_640 h (by decide)) (congrArg Prod.fst h)).2.2.1
theorem kd_S4 {s : Nat} (h : mm_kd s = (7, 8)) : mm_kd (s + 4) = (20, 60) := (tr_S2 s (kd_640 h (by decide)) (congrArg Prod.fst h)).2.2.2
theorem tr_Se {s j : Nat} (h : mm_kd s = (7, 8)) (hj : j < 8) : mm_tr (s + 1) j = some (s + 5 + j) := (tr_S3 s (kd_640 h (by decide)) (congrArg Prod.fst h) j hj).1
theorem kd_Se {s j : Nat} (h : mm_kd s = (7, 8)) (hj : j < 8) : mm_kd (s + 5 + j) = (9, 6) := (tr_S3 s (kd_640 h (by decide)) (congrArg Prod.fst h) j hj).2
theorem tr_Lx0 {s : Nat} (h : mm_kd s = (1, 10)) : mm_tr s 0 = some (s + 1) := (tr_L s (kd_640 h (by decide)) (congrArg Prod.fst h)).1
theorem tr_Lx1 {s : Nat} (h : mm_kd s = (1, 10)) : mm_tr s 1 = some (s + 2) := (tr_L s (kd_640 h (by decide)) (congrArg Prod.fst h)).2.1
theorem kd_L1 {s : Nat} (h : mm_kd s = (1, 10)) : mm_kd (s + 1) = (20, 4) := (tr_L s (kd_640 h (by decide)) (congrArg Prod.fst h)).2.2.1
theorem kd_L2 {s : Nat} (h : mm_kd s = (1, 10)) : mm_kd (s + 2) = (39, 8) := (tr_L s (kd_640 h (by decide)) (congrArg Prod.fst h)).2.2.2.1
theorem tr_Le {s j : Nat} (h : mm_kd s = (1, 10)) (hj : j < 8) : mm_tr (s + 2) j = some (s + 3 + j) := ((tr_L s (kd_640 h (by decide)) (congrArg Prod.fst h)).2.2.2.2 j hj).1
theorem kd_Le {s j : Nat} (h : mm_kd s = (1, 10)) (hj : j < 8) : mm_kd (s + 3 + j) = (9, 6) := ((tr_L s (kd_640 h (by decide)) (congrArg Prod.fst h)).2.2.2.2 j hj).2
theorem tr_Wx0 {s : Nat} (h : mm_kd s = (2, 4)) : mm_tr s 0 = some (s + 1) := (tr_W s (kd_640 h (by decide)) (congrArg Prod.fst h)).1
theorem tr_Wx1 {s : Nat} (h : mm_kd s = (2, 4)) : mm_tr s 1 = some (s + 2) := (tr_W s (kd_640 h (by decide)) (congrArg Prod.fst h)).2.1
theorem kd_W1 {s : Nat} (h : mm_kd s = (2, 4)) : mm_kd (s + 1) = (20, 240) := (tr_W s (kd_640 h (by decide)) (congrArg Prod.fst h)).2.2.1
theorem kd_W2 {s : Nat} (h : mm_kd s = (2, 4)) : mm_kd (s + 2) = (20, 64) := (tr_W s (kd_640 h (by decide)) (congrArg Prod.fst h)).2.2.2
