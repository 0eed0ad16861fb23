/-! A FIELD READ, both sides step by step -/
section FLD
variable {B : Nat → Int32} {n : Nat}
def allB (f : Nat → Bool) : Nat → Nat → Bool
  | 0, _ => true
  | k + 1, i => f i && allB f k (i + 1)
theorem allB_iff (f : Nat → Bool) : ∀ k i, allB f k i = true ↔ ∀ j, i ≤ j → j < i + k → f j = true
  | 0, i => ⟨fun _ j h1 h2 => by omega, fun _ => rfl⟩
  | k + 1, i => by
    rw [allB, Bool.and_eq_true, allB_iff f k (i + 1)]
    refine ⟨fun z j h1 h2 => ?_, fun z => ⟨z i (by omega) (by omega), fun j h1 h2 => z j (by omega) (by omega)⟩⟩
    by_cases e : j = i
    · subst e; exact z.1
    · exact z.2 j (by omega) (by omega)
def plI (R : mm_MM) (i : Nat) : Int32 := R.1 619 (4 * i + 2)
def okB (R : mm_MM) (i : Nat) : Bool := decide (plI R i = -1) || (decide (plI R i < R.1 617 0 * R.1 617 1) && allB (fun o => decide (¬ plI R i = plI R o)) i 0)
def b2i (b : Bool) : Int32 := if b = true then 1 else 0
def whB (R : mm_MM) (nt : Nat) : Bool := decide (R.1 606 20 ≤ R.1 617 1) && allB (okB R) nt 0
theorem hasB_bit24 : ∀ j, j < 24 → ∀ i, i < 24 → hasB ((1 : Int32) <<< (Int32.ofNat j &&& 31)) i = decide (i = j) := by decide +kernel
theorem c_whole_l {M R : mm_MM} {ru : Int32} {nr nt : Nat} (hS : FS M R ru nr nt nr nt) : ∀ (k i g : Nat) (x1 : Int32), i + k = nt → k < g → (∀ q, q < 24 → (hasB x1 q = true ↔ ∃ o, o < i ∧ plI R o = Int32.ofNat q)) → fX1_isWhole_c4 g M 3 x1 (Int32.ofNat i) = some (b2i (decide (R.1 606 20 ≤ R.1 617 1) && allB (okB R) k i), M) := by
  obtain ⟨-, h2, ⟨h3, h4, h5⟩, -, ⟨h7, h8, h9⟩, h10, -⟩ := hS
  have e3 : M.1 3 3 = R.1 617 0 := (h2 0 (by decide)).1
  have e4 : M.1 3 4 = R.1 617 1 := (h2 1 (by decide)).1
  intro k
  induction k with
  | zero =>
    intro i g x1 hi hg hx
    obtain ⟨g, rfl⟩ : ∃ q, g = q + 1 := ⟨g - 1, by omega⟩
    rw [fX1_isWhole_c4, allB, Bool.and_true]
    dsimp only
    rw [h7, if_neg (by rw [nn_lt (by omega) (by omega)]; omega), h3, e4, h4]
    unfold fX1_isWhole_c86 b2i
    by_cases c : Int32.ofNat nr ≤ R.1 617 1
    · rw [if_pos c, decide_eq_true c]; rfl
    · rw [if_neg c, decide_eq_false c]; rfl
  | succ k ih =>
    intro i g x1 hi hg hx
    obtain ⟨g, rfl⟩ : ∃ q, g = q + 1 := ⟨g - 1, by omega⟩
    have hkd : mm_kd (6 + i) = (9, 6) := kd_d (by omega)
    obtain ⟨t0, t1, -, -, t4, -, -⟩ := h10 i (by omega)
    have ep : M.1 (6 + i) 3 = plI R i := t1 2 (by decide)
    rw [fX1_isWhole_c4, allB]
    dsimp only
    rw [h7, if_pos (by rw [nn_lt (by omega) (by omega)]; omega), thAt M (by omega)]
    simp only [Option.bind_some, if_pos hkd, ep, fX1_isWhole_c64, nn_s, fX1_plots, e3, e4, fX1_isWhole_c53]
    by_cases c1 : plI R i = -1
    · rw [if_pos c1]
      have hok : okB R i = true := by unfold okB; rw [decide_eq_true c1]; rfl
      rw [hok, Bool.true_and]
      refine ih (i + 1) g x1 (by omega) (by omega) (fun q hq => (hx q hq).trans ⟨fun ⟨o, h1, h2⟩ => ⟨o, by omega, h2⟩, fun ⟨o, h1, h2⟩ => ?_⟩)
      by_cases e : o = i
      · subst e; rw [c1] at h2; exact absurd h2.symm (ofN_ne (by omega))
      · exact ⟨o, by omega, h2⟩
    · obtain ⟨Q, hQ, eQ⟩ := t4.resolve_left c1
      have eQ : plI R i = Int32.ofNat Q := eQ
      rw [if_neg c1]
      by_cases c2 : plI R i < R.1 617 0 * R.1 617 1
      · rw [if_pos c2]
        have hb : ((x1 >>> (plI R i &&& 31)) &&& 1 = 1) ↔ hasB x1 Q = true := by rw [eQ]; unfold hasB; rw [decide_eq_true_iff]
        by_cases c3 : hasB x1 Q = true
        · rw [if_pos (hb.mpr c3)]
          have hno : okB R i = false := by
            unfold okB
            rw [decide_eq_false c1, Bool.false_or]
            cases ha : allB (fun o => decide (¬ plI R i = plI R o)) i 0 with
            | false => rw [Bool.and_false]
            | true =>
              obtain ⟨o, ho, eo⟩ := (hx Q hQ).mp c3
              have := (allB_iff _ _ _).mp ha o (by omega) (by omega)
              exact absurd (eQ.trans eo.symm) (of_decide_eq_true this)
          rw [hno, Bool.false_and, Bool.and_false]
          rfl
        · rw [if_neg (fun z => c3 (hb.mp z))]
          have hok : okB R i = true := by
            unfold okB
            rw [decide_eq_true c2, Bool.true_and]
            have : allB (fun o => decide (¬ plI R i = plI R o)) i 0 = true := (allB_iff _ _ _).mpr (fun o h1 h2 => decide_eq_true (fun z => c3 ((hx Q hQ).mpr ⟨o, by omega, z.symm.trans eQ⟩)))
            rw [this, Bool.or_true]
          rw [hok, Bool.true_and]
          refine ih (i + 1) g _ (by omega) (by omega) (fun q hq => ?_)
          rw [hasB_or, eQ, hasB_bit24 Q hQ q hq, Bool.or_eq_true, decide_eq_true_iff, hx q hq]
          refine ⟨fun z => z.elim (fun ⟨o, h1, h2⟩ => ⟨o, by omega, h2⟩) (fun z => ⟨i, by omega, by rw [z]; exact eQ⟩), fun ⟨o, h1, h2⟩ => ?_⟩
          by_cases e : o = i
          · subst e; rw [eQ] at h2; exact Or.inr (nn_inj (by omega) (by omega) h2).symm
          · exact Or.inl ⟨o, by omega, h2⟩
      · rw [if_neg c2]
        have hno : okB R i = false := by
          unfold okB
          rw [decide_eq_false c1, decide_eq_false c2]; rfl
        rw [hno, Bool.false_and, Bool.and_false]
        rfl
theorem c_whole {M R : mm_MM} {ru : Int32} {nr nt : Nat} (hS : FS M R ru nr nt nr nt) : fX1_isWhole M 3 = some (b2i (whB R nt), M) := c_whole_l hS nt 0 fu 0 (by omega) (by have := hS.2.2.2.2.1.2.2; unfold fu; omega) (fun q hq => ⟨fun z => by
  have : hasB 0 q = false := by
    have : ∀ q, q < 24 → hasB 0 q = false := by decide +kernel
    exact this q hq
  rw [this] at z; exact absurd z Bool.false_ne_true, fun ⟨o, h, _⟩ => absurd h (Nat.not_lt_zero o)⟩)
theorem b2i_0 (b : Bool) : b2i b = 0 ↔ b = false := by cases b <;> decide
theorem r_wh1_l {R : mm_MM} {kr : mm_MM → Int32 → Int32 → Option (Int32 × mm_MM)} {b : Nat} {pl : Int32} (hb : b < 8) : ∀ (k o g : Nat) (u : Bool), o + k = b → k < g → fX11_isWhole_c70 kr g R (b2i u) (Int32.ofNat b) pl (Int32.ofNat o) = kr R (b2i (u && allB (fun o => decide (pl = -1) || decide (¬ pl = plI R o)) k o)) (Int32.ofNat (b + 1)) := by
  intro k
  induction k with
  | zero =>
    intro o g u ho hg
    obtain ⟨g, rfl⟩ : ∃ q, g = q + 1 := ⟨g - 1, by omega⟩
    rw [fX11_isWhole_c70, allB, Bool.and_true]
    dsimp only
    rw [if_neg (by rw [nn_lt (by omega) (by omega)]; omega), nn_s]
  | succ k ih =>
    intro o g u ho hg
    obtain ⟨g, rfl⟩ : ∃ q, g = q + 1 := ⟨g - 1, by omega⟩
    have i0 := ih (o + 1) g false (by omega) (by omega)
    have i1 := ih (o + 1) g true (by omega) (by omega)
    have ei : 4 * Int32.ofNat o + 2 = Int32.ofNat (4 * o + 2) := by rw [Int32.ofNat_add, Int32.ofNat_mul]; rfl
    rw [fX11_isWhole_c70, allB]
    dsimp only
    rw [if_pos (by rw [nn_lt (by omega) (by omega)]; omega)]
    simp only [fX11_isWhole_c104, fX11_isWhole_c100, fX11_isWhole_c105, nn_s]
    cases u with
    | false =>
      rw [if_pos (show b2i false = 0 from rfl), Bool.false_and]
      rw [Bool.false_and] at i0
      exact i0
    | true =>
      rw [if_neg (show ¬ b2i true = 0 by decide), Bool.true_and]
      rw [Bool.true_and] at i1
      rw [Bool.false_and] at i0
      by_cases c1 : pl = -1
      · rw [if_pos c1, decide_eq_true c1, Bool.true_or, Bool.true_and]
        rw [decide_eq_true c1] at i1
        exact i1
      · rw [if_neg c1, ei, nn_go (by omega) (by omega), nn_tn (by omega)]
        by_cases c2 : pl = R.1 619 (4 * o + 2)
        · rw [if_pos c2, decide_eq_false c1, decide_eq_false (show ¬ ¬ pl = plI R o from fun z => z c2), Bool.false_or, Bool.false_and]
          exact i0
        · rw [if_neg c2, decide_eq_false c1, decide_eq_true (show ¬ pl = plI R o from c2), Bool.false_or, Bool.true_and]
          rw [decide_eq_false c1] at i1
          exact i1
theorem r_wh2_l {R : mm_MM} {nt : Nat} (h8 : R.1 606 21 = Int32.ofNat nt) (hnt : nt ≤ 8) (hP : (-1 : Int32) < R.1 617 0 * R.1 617 1) : ∀ (k b g : Nat) (u : Bool), b + k = nt → k < g → fX11_isWhole_c21 g R (b2i u) (Int32.ofNat b) = some (b2i (u && allB (okB R) k b), R) := by
  intro k
  induction k with
  | zero =>
    intro b g u hb hg
    obtain ⟨g, rfl⟩ : ∃ q, g = q + 1 := ⟨g - 1, by omega⟩
    rw [fX11_isWhole_c21, allB, Bool.and_true]
    dsimp only
    rw [h8, if_neg (by rw [nn_lt (by omega) (by omega)]; omega)]
    cases u
    · exact if_pos (Or.inl rfl)
    · exact if_pos (Or.inr rfl)
  | succ k ih =>
    intro b g u hb hg
    obtain ⟨g, rfl⟩ : ∃ q, g = q + 1 := ⟨g - 1, by omega⟩
    have ei : 4 * Int32.ofNat b + 2 = Int32.ofNat (4 * b + 2) := by rw [Int32.ofNat_add, Int32.ofNat_mul]; rfl
    have key : ∀ u', fX11_isWhole_c66 (fX11_isWhole_c21 g) R (Int32.ofNat b) (plI R b) (b2i u') = some (b2i ((u' && allB (fun o => decide (plI R b = -1) || decide (¬ plI R b = plI R o)) b 0) && allB (okB R) k (b + 1)), R) := fun u' => by
      unfold fX11_isWhole_c66
      exact (r_wh1_l (kr := fX11_isWhole_c21 g) (b := b) (pl := plI R b) (by omega) b 0 fu u' (by omega) (by unfold fu; omega)).trans (ih (b + 1) g _ (by omega) (by omega))
    have eok : okB R b = (decide (plI R b < R.1 617 0 * R.1 617 1) && allB (fun o => decide (plI R b = -1) || decide (¬ plI R b = plI R o)) b 0) := by
      unfold okB
      by_cases c : plI R b = -1
      · rw [decide_eq_true c, Bool.true_or, c, decide_eq_true hP, Bool.true_and]
        exact ((allB_iff _ _ _).mpr (fun j _ _ => by simp)).symm
      · rw [decide_eq_false c, Bool.false_or]
        simp only [Bool.false_or]
    rw [fX11_isWhole_c21, allB, eok]
    dsimp only
    rw [h8, if_pos (by rw [nn_lt (by omega) (by omega)]; omega), ei, nn_go (by omega) (by omega), nn_tn (by omega)]
    show (if b2i u = 0 then fX11_isWhole_c65 (fX11_isWhole_c21 g) R (Int32.ofNat b) (plI R b) else if plI R b < R.1 617 0 * R.1 617 1 then fX11_isWhole_c66 (fX11_isWhole_c21 g) R (Int32.ofNat b) (plI R b) 1 else fX11_isWhole_c65 (fX11_isWhole_c21 g) R (Int32.ofNat b) (plI R b)) = _
    have k0 := key false
    have k1 := key true
    rw [Bool.false_and, Bool.false_and] at k0
    rw [Bool.true_and] at k1
    cases u with
    | false =>
      rw [if_pos (show b2i false = 0 from rfl), Bool.false_and]
      exact k0
    | true =>
      rw [if_neg (show ¬ b2i true = 0 by decide), Bool.true_and]
      by_cases c : plI R b < R.1 617 0 * R.1 617 1
      · rw [if_pos c, decide_eq_true c, Bool.true_and]; exact k1
      · rw [if_neg c, decide_eq_false c, Bool.false_and, Bool.false_and]; exact k0
theorem FS_P {M R : mm_MM} {ru : Int32} {cr ct rr rt : Nat} (hS : FS M R ru cr ct rr rt) : ∃ W H : Nat, okL W H ∧ R.1 617 0 = Int32.ofNat W ∧ R.1 617 1 = Int32.ofNat H := by
  obtain ⟨-, W, w1, w2, w3⟩ := hS.2.1 0 (by decide)
  obtain ⟨-, H, h1, h2, h3⟩ := hS.2.1 1 (by decide)
  exact ⟨W, H, ⟨w1, w2, h1, h2⟩, w3, h3⟩
theorem r_whole {M R : mm_MM} {ru : Int32} {nr nt : Nat} (hS : FS M R ru nr nt nr nt) : fX11_isWhole R = some (b2i (whB R nt), R) := by
  obtain ⟨W, H, hL, w, h⟩ := FS_P hS
  have hP : (-1 : Int32) < R.1 617 0 * R.1 617 1 := by
    have hb : W * H ≤ 6 * 4 := Nat.mul_le_mul hL.2.1 hL.2.2.2
    have := nn_n0 (n := W * H) (by omega)
    rw [w, h, ← Int32.ofNat_mul]; grind
  have := fun u => r_wh2_l hS.2.2.2.2.1.2.1 hS.2.2.2.2.1.2.2 hP nt 0 fu u (by omega) (by have := hS.2.2.2.2.1.2.2; unfold fu; omega)
  unfold fX11_isWhole fX11_isWhole_c18 whB
  by_cases c : R.1 606 20 ≤ R.1 617 1
  · rw [if_pos c, decide_eq_true c]; exact this true
  · rw [if_neg c, decide_eq_false c]; exact this false
/-! the reference's ends of a clause -/
theorem r231_err {R : mm_MM} {g e : Nat} (he : e ≤ 240) (h : R.1 606 4 = Int32.ofNat e) (x1 : Int32) : ∃ R', fX11_readField_c231 (fX11_readField_c69 (g + 1)) R x1 = some (Int32.ofNat e, R') ∧ rfr R R' := by
  refine ⟨wI R 606 3 (R.1 606 3 + 0), ?_, rfr_w (rfr_refl R) (by omega)⟩
  have h' : (wI R 606 3 (R.1 606 3 + 0)).1 606 4 = Int32.ofNat e := (wI_nk (by decide)).trans h
  unfold fX11_readField_c231 fX11_readField_c252 fX11_readField_c253 fX11_readField_c268
  rw [h, if_neg (ofN_ne (by omega)), if_pos rfl, fX11_readField_c69]
  dsimp only
  rw [if_pos rfl]
  unfold fX11_readField_c275 fX11_readField_c302
  rw [h', if_neg (ofN_ne (by omega))]
theorem add0 (x : Int32) : x + 0 = x := Int32.add_zero x
theorem r231_look {R : mm_MM} {g q : Nat} (t : tpeR R B n) (hn : n ≤ 240) (e3 : R.1 606 3 = Int32.ofNat q) (hq : q ≤ n) (e4 : R.1 606 4 = -1) (hs : sk B n q = q) (x1 : Int32) : fX11_readField_c231 (fX11_readField_c69 (g + 1)) R x1 = if sg B n q = 59 then fX11_readField_c69 (g + 1) (hR R (q + 1)) x1 1 else fX11_readField_c275 R := by
  have hl : fX11_look R = some (sg B n q, R) := by
    have := rLk t hn e3 (by omega)
    rw [hs, show hR R q = R from wI_self e3] at this
    exact this
  unfold fX11_readField_c231 fX11_readField_c252 fX11_readField_c253 fX11_readField_c268
  rw [e4, if_pos rfl, hl]
  simp only [Option.bind_some]
  by_cases c : sg B n q = 59
  · rw [if_pos c, if_pos c, if_neg (by decide), e3, nn_s]; rfl
  · rw [if_neg c, if_neg c]
    simp only [if_true]
    rw [add0, wI_self rfl, fX11_readField_c69]
    exact if_pos rfl
theorem r275 {R : mm_MM} {q : Nat} (t : tpeR R B n) (hn : n ≤ 240) (e3 : R.1 606 3 = Int32.ofNat q) (hq : q ≤ n) (e4 : R.1 606 4 = -1) (hs : sk B n q = q) : fX11_readField_c275 R = if sg B n q = -1 then (fX11_isWhole R).bind (fun r4 => if r4.1 = 0 then fX11_readField_c298 r4.2 else fX11_readField_c302 r4.2) else some (Int32.ofNat q, wI R 606 4 (Int32.ofNat q)) := by
  have hl : fX11_look R = some (sg B n q, R) := by
    have := rLk t hn e3 (by omega)
    rw [hs, show hR R q = R from wI_self e3] at this
    exact this
  unfold fX11_readField_c275
  rw [e4, if_pos rfl, hl]
  simp only [Option.bind_some]
  by_cases c : sg B n q = -1
  · rw [if_pos c, if_pos c]
  · rw [if_neg c, if_neg c]
    unfold fX11_readField_c298 fX11_readField_c302
    rw [rBad e3 e4]
    simp only [Option.bind_some]
    rw [wI_eq]
end FLD
