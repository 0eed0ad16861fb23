/-! A MONTH OF THE REFERENCE -/
def HoldR (m : mm_MM) (o : Option (List Cla)) : Prop := (o = none ∧ m.1 606 29 = -1) ∨ ∃ h cs, o = some cs ∧ h < 4 ∧ m.1 606 29 = Int32.ofNat h ∧ LawR m h cs ∧ ∀ c ∈ cs, wfC c
theorem rowsR_fr {m m' : mm_MM} {n : Nat} (h8 : ∀ k, m'.1 608 k = m.1 608 k) (h9 : ∀ k, m'.1 609 k = m.1 609 k) (h12 : ∀ k, m'.1 612 k = m.1 612 k) (h13 : ∀ k, m'.1 613 k = m.1 613 k) (h14 : ∀ k, m'.1 614 k = m.1 614 k) : ∀ (cs : List Cla) (j p : Nat), rowsR m n j p cs → rowsR m' n j p cs
  | [], _, _, _ => True.intro
  | c :: cs, j, p, h => by
    obtain ⟨a1, a2, a3, a4, a5, a6⟩ := h
    exact ⟨(h12 _).trans a1, (h13 _).trans a2, (h14 _).trans a3, fun j t hj => ⟨(h8 _).trans (a4 j t hj).1, (h9 _).trans (a4 j t hj).2⟩, fun j t hj => ⟨(h8 _).trans (a5 j t hj).1, (h9 _).trans (a5 j t hj).2⟩, rowsR_fr h8 h9 h12 h13 h14 cs _ _ a6⟩
theorem LawR_fr {m m' : mm_MM} {n : Nat} {cs : List Cla} (h : ∀ a, a = 608 ∨ a = 609 ∨ a = 611 ∨ a = 612 ∨ a = 613 ∨ a = 614 → ∀ k, m'.1 a k = m.1 a k) (hl : LawR m n cs) : LawR m' n cs := ⟨(h 611 (by simp) n).trans hl.1, hl.2.1, hl.2.2.1, rowsR_fr (h 608 (by simp)) (h 609 (by simp)) (h 612 (by simp)) (h 613 (by simp)) (h 614 (by simp)) cs 0 0 hl.2.2.2⟩
theorem HoldR_fr {W : Nat → Nat → Bool} {m m' : mm_MM} {o : Option (List Cla)} (h0 : W 606 29 = false) (hW : ∀ a k, a = 608 ∨ a = 609 ∨ a = 611 ∨ a = 612 ∨ a = 613 ∨ a = 614 → W a k = false) (hf : fr W m m') (h : HoldR m o) : HoldR m' o := by
  rcases h with ⟨rfl, h1⟩ | ⟨h, cs, rfl, hh, h1, hl, hw⟩
  · exact Or.inl ⟨rfl, (hf.1 _ _ h0).trans h1⟩
  · exact Or.inr ⟨h, cs, rfl, hh, (hf.1 _ _ h0).trans h1, LawR_fr (fun a ha k => hf.1 a k (hW a k ha)) hl, hw⟩
def WGR : Nat → Nat → Bool := fun a _ => a == 615 || a == 616
theorem WGR_R : ∀ a k, WGR a k = false → WR a k = false := by intro a k; simp [WGR, WR]
theorem r_letters {v s d mo n t : Int32} {m : mm_MM} : ∀ k, k ≤ 5 → (wI (wI (wI (wI (wI (wI m 615 0 v) 615 1 s) 615 2 d) 615 3 mo) 615 4 n) 615 5 (rem t 12)).1 615 k = lt6 v s d mo n t k := by
  intro k hk
  obtain rfl | rfl | rfl | rfl | rfl | rfl : k = 0 ∨ k = 1 ∨ k = 2 ∨ k = 3 ∨ k = 4 ∨ k = 5 := by omega
  all_goals simp [wI_1, lt6]
theorem exT_congr {L L' : Nat → Int32} (h : ∀ k, k ≤ 5 → L k = L' k) {t : Tok} {s s' : List Bool} {st : List Int32} (hs : okS s st) (ht : tyT t s = some s') : exT L t st = exT L' t st := by
  rcases tyT_inv hs ht with ⟨v, rfl, hv, hl', rfl⟩ | ⟨v, rfl, hv, hl', rfl⟩ | ⟨v, a, r, q, rfl, rfl, rfl, rfl, ha, hr⟩ | ⟨c, v, a, b, r, q, rfl, h1, h2, rfl, rfl, rfl, hb, ha, hr⟩ | ⟨c, v, a, b, r, q, rfl, h1, h2, rfl, rfl, rfl, hb, ha, hr⟩ | ⟨c, v, a, b, r, q, rfl, h1, h2, rfl, rfl, rfl, hb, ha, hr⟩
  · rfl
  · show L v :: st = L' v :: st
    rw [h v hv]
  · rfl
  · obtain rfl | rfl | rfl | rfl : c = 2 ∨ c = 3 ∨ c = 4 ∨ c = 5 := by omega
    all_goals rfl
  · obtain rfl | rfl | rfl : c = 6 ∨ c = 7 ∨ c = 8 := by omega
    all_goals rfl
  · obtain rfl | rfl : c = 10 ∨ c = 11 := by omega
    all_goals rfl
theorem exTs_congr {L L' : Nat → Int32} (h : ∀ k, k ≤ 5 → L k = L' k) (hL : ∀ k, k ≤ 5 → okV false (L k)) : ∀ {ts : List Tok} {s s' : List Bool} {st : List Int32}, okS s st → tyTs ts s = some s' → exTs L ts st = exTs L' ts st
  | [], _, _, _, _, _ => rfl
  | t :: ts, s, s', st, hs, ht => by
    obtain ⟨s1, h1, h2⟩ := Option.bind_eq_some_iff.mp ht
    show exTs L ts (exT L t st) = exTs L' ts (exT L' t st)
    rw [← exT_congr h hs h1]
    exact exTs_congr h hL (ts := ts) (okS_exT hL hs h1) h2
theorem evC_congr {L L' : Nat → Int32} (h : ∀ k, k ≤ 5 → L k = L' k) (hL : ∀ k, k ≤ 5 → okV false (L k)) : ∀ {cs : List Cla}, (∀ c ∈ cs, wfC c) → evC L cs = evC L' cs
  | [], _ => rfl
  | c :: cs, hw => by
    have hc := hw c List.mem_cons_self
    have e2 := exTs_congr h hL (ts := c.2) (s := []) (st := []) True.intro hc.2
    have e3 := evC_congr h hL (cs := cs) (fun c hc => hw c (List.mem_cons_of_mem _ hc))
    unfold evC
    rw [e2, e3]
    by_cases h0 : c.1 = []
    · rw [if_pos (Or.inl h0), if_pos (Or.inl h0)]
    · rw [exTs_congr h hL (ts := c.1) (s := []) (st := []) True.intro (hc.1.resolve_left h0)]
theorem r_growthBy (m : mm_MM) {o : Option (List Cla)} (ho : HoldR m o) (hy : ¬ m.1 620 2 ≤ 0) (hw : ¬ m.1 620 0 = 0) {b : Nat} (hb : b < 8) (hT : thr m 623 0 b 5 = 1) {t : Nat} (ht : t < 2 ^ 31) (h49 : m.1 623 49 = Int32.ofNat t) {d n : Int32} (hn : besN (m.1 620 0) (thr m 623 0) (thr m 623 0 b 2) 8 0 0 = n) (hq : bdQ (thr m 623 0 b 0, thr m 623 0 b 3, t)) (hs : bdS (thr m 623 0 b 1) d n) : ∃ m', fX11_growthBy m (Int32.ofNat b) d = some (gn o (m.1 620 2) (thr m 623 0 b 0) (thr m 623 0 b 1) d (thr m 623 0 b 3) n (Int32.ofNat t), m') ∧ fr WGR m m' := by
  have h0 : ¬ m.1 620 2 = 0 := fun z => hy (by rw [z]; decide)
  have e0 := thr_k0 hT (show 0 < 6 by decide)
  have e1 := thr_k0 hT (show 1 < 6 by decide)
  have e3 := thr_k0 hT (show 3 < 6 by decide)
  have hrip := r_isRipe_n m hb
  simp only [hT, true_and] at hrip
  -- behind the first three reads
  suffices H : ∀ s0 : Int32, (o = none → s0 = gnB none (m.1 620 2) (thr m 623 0 b 0) (thr m 623 0 b 1) d (thr m 623 0 b 3) n (Int32.ofNat t)) → ∃ m', fX11_growthBy_c42 m (Int32.ofNat b) d (m.1 623 (6 * b + 3)) s0 = some (gn o (m.1 620 2) (thr m 623 0 b 0) (thr m 623 0 b 1) d (thr m 623 0 b 3) n (Int32.ofNat t), m') ∧ fr WGR m m' by
    unfold fX11_growthBy
    simp only [r_of3 m hb, Option.bind_some, hrip, r_of1 m hb, if_neg h0]
    by_cases a1 : thr m 623 0 b 3 < m.1 620 2
    · rw [if_neg (show ¬ ¬ thr m 623 0 b 3 < m.1 620 2 from fun z => z a1), if_pos rfl]
      by_cases a2 : d ≤ m.1 623 (6 * b + 1)
      · rw [if_pos a2]
        exact H 1 (fun _ => by unfold gnB; rw [if_pos a1, e1, if_pos a2])
      · rw [if_neg a2]
        exact H 2 (fun _ => by unfold gnB; rw [if_pos a1, e1, if_neg a2])
    · rw [if_pos a1, if_neg (by decide)]
      exact H _ (fun _ => by unfold gnB; rw [if_neg a1, e3])
  intro s0 hs0
  rcases ho with ⟨rfl, h1⟩ | ⟨h, cs, rfl, hh, h1, hl, hwf⟩
  · refine ⟨m, ?_, fr_refl _ _⟩
    unfold fX11_growthBy_c42 fX11_growthBy_c127
    rw [if_pos h1, hs0 rfl]
    simp [j_min, j_max, gn]
  · have n1 : ¬ m.1 606 29 = -1 := fun z => by rw [h1] at z; exact absurd (z ▸ nn_n0 (n := h) (by omega)) (by decide)
    unfold fX11_growthBy_c42 fX11_growthBy_c127
    rw [if_neg n1, r_of0 m hb]
    simp only [Option.bind_some]
    rw [r_of1 _ hb]
    simp only [Option.bind_some]
    have hne : ∀ (j : Nat) (v : Int32) (m : mm_MM), thr (wI m 615 j v) 623 0 = thr m 623 0 := fun _ _ _ => rfl
    have hbes : ∀ m' : mm_MM, (∀ k, m'.1 623 k = m.1 623 k) → (∀ k, m'.1 620 k = m.1 620 k) → fX11_besideOf m' (Int32.ofNat b) = some (n, m') := fun m' z1 z2 => by
      have zt : thr m' 623 0 = thr m 623 0 := by
        funext b k; unfold thr; rw [z1, z1]
      rw [r_besideOf m' hb (by rw [z2]; exact hw) (by rw [zt]; exact hT), zt, z2, hn]
    rw [hbes _ (fun k => by simp [wI_1]) (fun k => by simp [wI_1])]
    simp only [Option.bind_some]
    have hrem : ∀ x : Int32, x - x / 12 * 12 = rem x 12 := fun _ => rfl
    have n623 : ∀ (j : Nat) (v : Int32) (m : mm_MM) (k : Nat), (wI m 615 j v).1 623 k = m.1 623 k := fun j v m k => wI_ne (by decide)
    have n606 : ∀ (j : Nat) (v : Int32) (m : mm_MM) (k : Nat), (wI m 615 j v).1 606 k = m.1 606 k := fun j v m k => wI_ne (by decide)
    simp only [n623, n606, hrem, h49, h1, ← e0, ← e1, ← e3]
    have hlt := lt6_ok hq hs ht
    have hlet := fun k hk => r_letters (v := thr m 623 0 b 0) (s := thr m 623 0 b 1) (d := d) (mo := thr m 623 0 b 3) (n := n) (t := Int32.ofNat t) (m := m) k hk
    have hfr : fr WGR m (wI (wI (wI (wI (wI (wI m 615 0 (thr m 623 0 b 0)) 615 1 (thr m 623 0 b 1)) 615 2 d) 615 3 (thr m 623 0 b 3)) 615 4 n) 615 5 (rem (Int32.ofNat t) 12)) := fr_wI (fr_wI (fr_wI (fr_wI (fr_wI (fr_wI (fr_refl _ _) rfl) rfl) rfl) rfl) rfl) rfl
    obtain ⟨m', e, g⟩ := r_worthOf (n := h) (by omega) (cs := cs) (LawR_fr (fun a ha k => hfr.1 a k (by rcases ha with rfl | rfl | rfl | rfl | rfl | rfl <;> rfl)) hl) hwf (fun k hk => by rw [hlet k hk]; exact hlt k hk)
    refine ⟨m', ?_, fr_trans hfr (fr_mono WGR_R g)⟩
    rw [e, evC_congr hlet (fun k hk => by rw [hlet k hk]; exact hlt k hk) hwf]
    simp [j_min, j_max, gn, gnB]
