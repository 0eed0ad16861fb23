/-! A FIELD READ, clause by clause on both sides -/
section FSM
variable {B : Nat → Int32} {n : Nat}
def usI (cl k : Nat) : Int32 := if cl = 115 then usS k else if cl = 114 then 3 else if k = 0 then 10 else if k = 2 then -1 else 0
theorem r_usual (m : mm_MM) {cl k : Nat} (h : isCl cl) (hk : k < mnO cl) : fX11_usual m (Int32.ofNat cl) (Int32.ofNat k) = some (usI cl k, m) := by
  rcases h with rfl | rfl | rfl
  · have hk : k < 5 := hk
    obtain rfl | rfl | rfl | rfl | rfl : k = 0 ∨ k = 1 ∨ k = 2 ∨ k = 3 ∨ k = 4 := by omega
    all_goals rfl
  · have hk : k < 1 := hk
    obtain rfl : k = 0 := by omega
    rfl
  · have hk : k < 4 := hk
    obtain rfl | rfl | rfl | rfl : k = 0 ∨ k = 1 ∨ k = 2 ∨ k = 3 := by omega
    all_goals rfl
theorem mnO_5 (cl : Nat) : mnO cl ≤ 5 := by
  unfold mnO
  split
  · omega
  · split <;> omega
theorem r_defs_l {cl off : Nat} (hcl : isCl cl) (hoff : off + mnO cl ≤ (mm_kd (t2O cl)).2) (h100 : off < 100) : ∀ (k i g : Nat) (R : mm_MM), i + k = mnO cl → k < g → (∀ j, j < i → R.1 (t2O cl) (off + j) = usI cl j) → ∃ R', fX11_items_c3 g R (Int32.ofNat cl) (t2O cl) (Int32.ofNat off) (Int32.ofNat (mnO cl)) (Int32.ofNat i) = ((fX11_look R').bind fun r3 => (fX11_itemOf r3.2 (Int32.ofNat cl) r3.1).bind fun r4 => fX11_items_c41 fu r4.2 (Int32.ofNat cl) (t2O cl) (Int32.ofNat off) 0 r4.1) ∧ (∀ j, j < mnO cl → R'.1 (t2O cl) (off + j) = usI cl j) ∧ (∀ a j, ¬ (a = t2O cl ∧ off ≤ j ∧ j < off + mnO cl) → R'.1 a j = R.1 a j) ∧ R'.2 = R.2 := by
  have h5 := mnO_5 cl
  intro k
  induction k with
  | zero =>
    intro i g R hi hg h
    obtain ⟨g, rfl⟩ : ∃ q, g = q + 1 := ⟨g - 1, by omega⟩
    refine ⟨R, ?_, fun j hj => h j (by omega), fun _ _ _ => rfl, rfl⟩
    rw [fX11_items_c3]
    exact if_neg (fun z => by have := (nn_lt (by omega) (by omega)).mp z; omega)
  | succ k ih =>
    intro i g R hi hg h
    obtain ⟨g, rfl⟩ : ∃ q, g = q + 1 := ⟨g - 1, by omega⟩
    obtain ⟨R', e, f1, f2, f3⟩ := ih (i + 1) g (wI R (t2O cl) (off + i) (usI cl i)) (by omega) (by omega) (fun j hj => by
      by_cases c : j = i
      · subst c; rw [wI_eq]
      · rw [wI_nk (by omega)]; exact h j (by omega))
    refine ⟨R', ?_, f1, fun a j z => (f2 a j z).trans (by rw [wI_1, if_neg (fun w => z ⟨w.1, by omega, by omega⟩)]), f3⟩
    rw [fX11_items_c3]
    dsimp only
    rw [if_pos ((nn_lt (by omega) (by omega)).mpr (by omega)), r_usual R hcl (by omega)]
    simp only [Option.bind_some]
    rw [← Int32.ofNat_add, nn_go (by omega) (by omega), nn_tn (by omega), nn_s]
    exact e
/-- a clause, from behind its first letter to what its end is -/
theorem clause_sim {ru : Int32} {cl cr ct rr rt : Nat} (hin : inC cl cr ct rr rt) (hru : cl = 115 → ¬ ru = 0) (hn : n ≤ 240) {p : Nat} {M R : mm_MM} (hp : p ≤ n) (tC : tpeC M B n) (tR : tpeR R B n) (eM : M.1 1 2 = Int32.ofNat p) (eR : R.1 606 3 = Int32.ofNat p) (e4 : R.1 606 4 = -1) (hS : ∀ R', (∀ j, j < mnO cl → R'.1 (t2O cl) (ofO cl rr rt + j) = usI cl j) → (∀ a j, ¬ (a = t2O cl ∧ ofO cl rr rt ≤ j ∧ j < ofO cl rr rt + mnO cl) → R'.1 a j = R.1 a j) → FS M R' ru cr ct rr rt) (hroom : ofO cl rr rt + mnO cl ≤ (mm_kd (t2O cl)).2) (h100 : ofO cl rr rt < 100) :
    ∃ M' R', cfr M M' ∧ rfr R R' ∧
    ((∃ e, e ≤ n ∧ fX1_readItems M 3 (Int32.ofNat cl) = some (Int32.ofNat e, M') ∧ fX11_items R (Int32.ofNat cl) (t2O cl) (Int32.ofNat (ofO cl rr rt)) (Int32.ofNat (mnO cl)) = some R' ∧ R'.1 606 4 = Int32.ofNat e) ∨
     (∃ q v, p ≤ q ∧ q ≤ n ∧ sk B n q = q ∧ fX1_readItems M 3 (Int32.ofNat cl) = some (v, M') ∧ fX11_items R (Int32.ofNat cl) (t2O cl) (Int32.ofNat (ofO cl rr rt)) (Int32.ofNat (mnO cl)) = some R' ∧ R'.1 606 4 = -1 ∧ R'.1 606 3 = Int32.ofNat q ∧ M'.1 1 2 = Int32.ofNat q ∧ ((v = -1 ∧ (sg B n q = -1 ∨ sg B n q = 59) ∧ FS M' R' ru cr ct rr rt) ∨ (v = Int32.ofNat q ∧ ¬ sg B n q = -1 ∧ ¬ sg B n q = 59)))) := by
  have hcl := inC_c hin
  have tin : 617 ≤ t2O cl ∧ t2O cl ≤ 619 := by rcases hcl with rfl | rfl | rfl <;> decide
  obtain ⟨R1, e1, f1, f2, f3⟩ := r_defs_l (off := ofO cl rr rt) hcl hroom h100 (mnO cl) 0 fu R (by omega) (by have := mnO_5 cl; unfold fu; omega) (fun j hj => by omega)
  have fR1 : rfr R R1 := ⟨fun a k z => f2 a k (by omega), f3⟩
  have tR1 := tpeR_f fR1 tR
  have eR1 : R1.1 606 3 = Int32.ofNat p := (f2 606 3 (by omega)).trans eR
  have e41 : R1.1 606 4 = -1 := (f2 606 4 (by omega)).trans e4
  have hsn := sk_n (B := B) hp
  have hS1 := hS R1 f1 f2
  obtain ⟨M', R', g1, g2, g3⟩ := items_sim (B := B) (n := n) hin hru hn (n - p + 1) p fu fu M (hR R1 (sk B n p)) 0 0 (fun _ => false) (by omega) hp (by unfold fu; omega) (by unfold fu; omega) tC (tpeR_h tR1) eM (hR_h _ _) ((hR_n (by omega)).trans e41) (FS_f (fun _ _ _ _ => rfl) (fun a j g => hR_n (by omega)) hS1) (fun k hk => by
    have hz : ∀ q, q < 10 → hasB 0 q = false := by decide +kernel
    obtain ⟨b1, b2⟩ := cl_b hcl hk
    exact ⟨hz _ b1, hz _ (by omega)⟩)
  have ec : fX1_readItems M 3 (Int32.ofNat cl) = fX1_readItems_c5 fu M 3 (Int32.ofNat cl) 0 (Int32.ofNat (c5 (fun _ => false))) := rfl
  have er : fX11_items R (Int32.ofNat cl) (t2O cl) (Int32.ofNat (ofO cl rr rt)) (Int32.ofNat (mnO cl)) = fX11_items_c41 fu (hR R1 (sk B n p)) (Int32.ofNat cl) (t2O cl) (Int32.ofNat (ofO cl rr rt)) 0 (oI (kOf cl (sg B n (sk B n p)))) := by
    refine Eq.trans (show fX11_items R _ _ _ _ = _ from e1) ?_
    exact bs (rLk tR1 hn eR1 (by omega)) (bs (r_itemOf _ hcl _) rfl)
  rw [ec, er]
  exact ⟨M', R', g1, rfr_trans (rfr_h fR1) g2, g3⟩
theorem FS_cnt {M R M' R' : mm_MM} {ru ru' : Int32} {cr ct rr rt cr' ct' rr' rt' : Nat} (hc : ∀ a k, 3 ≤ a → a ≤ 13 → ¬ (a = 3 ∧ (k = 2 ∨ k = 8 ∨ k = 9)) → M'.1 a k = M.1 a k) (hr : ∀ a k, 617 ≤ a ∧ a ≤ 619 → R'.1 a k = R.1 a k) (h2 : M'.1 3 2 = ru') (h2' : ru' = 0 → ru = 0) (h8 : M'.1 3 8 = Int32.ofNat cr') (h9 : M'.1 3 9 = Int32.ofNat ct') (h20 : R'.1 606 20 = Int32.ofNat rr') (h21 : R'.1 606 21 = Int32.ofNat rt') (hcr : cr' ≤ 4) (hct : ct' = ct) (hcr2 : cr ≤ cr') (h : FS M R ru cr ct rr rt) : FS M' R' ru' cr' ct' rr' rt' := by
  subst hct
  obtain ⟨⟨g1, g1'⟩, g2, ⟨g3, g4, g5⟩, g6, ⟨g7, g8, g9⟩, g10, g11⟩ := h
  refine ⟨⟨h2, fun z k hk => (hr _ _ (by omega)).trans (g1' (h2' z) k hk)⟩, fun k hk => ?_, ⟨h8, h20, hcr⟩, fun r hrr => ?_, ⟨h9, h21, g9⟩, fun i hi => ?_, fun i h1 h2 => ?_⟩
  · rw [hc _ _ (by omega) (by omega) (by omega), hr 617 k (by omega)]; exact g2 k hk
  · obtain ⟨a1, a2, a3⟩ := g6 r hrr
    rw [hc _ _ (by omega) (by omega) (by omega), hr 618 r (by omega)]
    exact ⟨a1, a2, fun z => a3 (by omega)⟩
  · have hr9 : ∀ k, R'.1 619 k = R.1 619 k := fun k => hr 619 k (by omega)
    have hc9 : ∀ k, M'.1 (6 + i) k = M.1 (6 + i) k := fun k => hc (6 + i) k (by omega) (by omega) (by omega)
    have := g10 i hi
    unfold thS at this ⊢
    simp only [hc9, hr9]
    exact this
  · have hc9 : ∀ k, M'.1 (6 + i) k = M.1 (6 + i) k := fun k => hc (6 + i) k (by omega) (by omega) (by omega)
    unfold clS
    simp only [hc9]
    exact g11 i h1 h2
/-- what holds of a field that was read -/
def fldOK (M R : mm_MM) : Prop := ∃ ru nr nt, (ru = 0 ∨ ru = 1) ∧ FS M R ru nr nt nr nt ∧ whB R nt = true
theorem field_sim (hn : n ≤ 240) (hB : ∀ i, i < n → ¬ B i = -1) : ∀ (N p i gC gR : Nat) (M R : mm_MM) (ru : Int32) (nr nt : Nat), n - p < N → p ≤ n → 2 * i ≤ p → N < gC → N < gR → tpeC M B n → tpeR R B n → M.1 1 2 = Int32.ofNat p → R.1 606 3 = Int32.ofNat p → R.1 606 4 = -1 → (ru = 0 ∨ ru = 1) → FS M R ru nr nt nr nt →
    ∃ v M' R', fX1_read_c10 gC M 3 (Int32.ofNat i) = some (v, M') ∧ fX11_readField_c69 gR R ru 1 = some (v, R') ∧ cfr M M' ∧ rfr R R' ∧ (v = -1 → fldOK M' R') := by
  intro N
  induction N with
  | zero => intro p i gC gR M R ru nr nt h; omega
  | succ N ih =>
    intro p i gC gR M R ru nr nt hN hp hi hgC hgR tC tR eM eR e4 hru hS
    obtain ⟨gC, rfl⟩ : ∃ q, gC = q + 1 := ⟨gC - 1, by omega⟩
    obtain ⟨gR, rfl⟩ : ∃ q, gR = q + 1 := ⟨gR - 1, by omega⟩
    obtain ⟨gR', rfl⟩ : ∃ q, gR = q + 1 := ⟨gR - 1, by omega⟩
    have hs1 := sk_n (B := B) hp
    have hle := sk_le B n p
    have hss := sk_sk (B := B) (n := n) p
    have es := cSg tC hn eM (by omega)
    have el := rLk tR hn eR (by omega)
    generalize hp1 : sk B n p = p1 at hs1 hle hss es el
    generalize hsg : sg B n p1 = s at es el
    have h240 : Int32.ofNat i < 240 := (nn_lt (k := 240) (by omega) (by decide)).mpr (by omega)
    have cM1 : cfr M (hC M p1) := cfr_h (cfr_refl M)
    have rR1 : rfr R (hR R p1) := rfr_h (rfr_refl R)
    have hS1 : FS (hC M p1) (hR R p1) ru nr nt nr nt := FS_f (fun a k h1 h2 => hC_n (by omega)) (fun a k h => hR_n (by omega)) hS
    have e41 : (hR R p1).1 606 4 = -1 := (hR_n (by omega)).trans e4
    obtain ⟨⟨q2, q2'⟩, -, ⟨q8, q20, q4⟩, -, ⟨q9, q21, q9'⟩, -, qcl⟩ := id hS1
    -- wrong at p1
    have bad : fX1_opens (hC M p1) 3 s = some (0, hC M p1) → (∀ kr, fX11_readField_c122 kr (hR R p1) ru s = fX11_readField_c227 kr (hR R p1) ru) → ¬ (s = 115 ∧ ru = 0) → ∃ v M' R', fX1_read_c10 (gC + 1) M 3 (Int32.ofNat i) = some (v, M') ∧ fX11_readField_c69 (gR' + 1 + 1) R ru 1 = some (v, R') ∧ cfr M M' ∧ rfr R R' ∧ (v = -1 → fldOK M' R') := fun h1 h2 h3 => by
      obtain ⟨R', er, fr'⟩ := r231_err (g := gR') (R := wI (hR R p1) 606 4 (Int32.ofNat p1)) (e := p1) (by omega) wI_eq ru
      refine ⟨Int32.ofNat p1, hC M p1, R', ?_, ?_, cM1, rfr_trans (rfr_w rR1 (by omega)) fr', fun z => absurd z (ofN_ne (by omega))⟩
      · rw [fX1_read_c10]
        dsimp only
        rw [if_pos h240, es]
        simp only [Option.bind_some, h1, if_true]
        unfold fX8_head
        rw [hC_h]; rfl
      · rw [fX11_readField_c69]
        dsimp only
        rw [if_neg (by decide), if_pos e4, el]
        simp only [Option.bind_some]
        have e227 : fX11_readField_c227 (fX11_readField_c69 (gR' + 1)) (hR R p1) ru = some (Int32.ofNat p1, R') := by
          unfold fX11_readField_c227
          rw [rBad (hR_h R p1) e41]
          exact er
        by_cases c1 : s = 115
        · rw [if_pos c1, if_neg (fun z => h3 ⟨c1, z⟩), h2]; exact e227
        · rw [if_neg c1, h2]; exact e227
    -- a clause
    have good : ∀ (cl cr ct : Nat) (ru' : Int32) (Mo : mm_MM) (inc : mm_MM → mm_MM), s = Int32.ofNat cl → inC cl cr ct nr nt → (cl = 115 → ¬ ru' = 0) → (ru' = 0 ∨ ru' = 1) → fX1_opens (hC M p1) 3 s = some (1, Mo) → cfr M Mo → Mo.1 1 2 = Int32.ofNat p1 → (∀ R', (∀ j, j < mnO cl → R'.1 (t2O cl) (ofO cl nr nt + j) = usI cl j) → (∀ a j, ¬ (a = t2O cl ∧ ofO cl nr nt ≤ j ∧ j < ofO cl nr nt + mnO cl) → R'.1 a j = (hR R (p1 + 1)).1 a j) → FS Mo R' ru' cr ct nr nt) → ofO cl nr nt + mnO cl ≤ (mm_kd (t2O cl)).2 → ofO cl nr nt < 100 → (∀ X, rfr R X → rfr R (inc X) ∧ (inc X).1 606 3 = X.1 606 3 ∧ (inc X).1 606 4 = X.1 606 4 ∧ ∀ Y, FS Y X ru' cr ct nr nt → FS Y (inc X) ru' cr ct cr ct) → (∀ kr : mm_MM → Int32 → Int32 → Option (Int32 × mm_MM), (if s = 115 then (if ru = 0 then (fX11_items (wI (hR R p1) 606 3 ((hR R p1).1 606 3 + 1)) s 617 0 5).bind fun r6 => fX11_readField_c231 kr r6 1 else fX11_readField_c122 kr (hR R p1) ru s) else fX11_readField_c122 kr (hR R p1) ru s) = (fX11_items (hR R (p1 + 1)) (Int32.ofNat cl) (t2O cl) (Int32.ofNat (ofO cl nr nt)) (Int32.ofNat (mnO cl))).bind fun r => fX11_readField_c231 kr (inc r) ru') → p1 < n → ∃ v M' R', fX1_read_c10 (gC + 1) M 3 (Int32.ofNat i) = some (v, M') ∧ fX11_readField_c69 (gR' + 1 + 1) R ru 1 = some (v, R') ∧ cfr M M' ∧ rfr R R' ∧ (v = -1 → fldOK M' R') := by
      intro cl cr ct ru' Mo inc hs hin hru1 hru2 hop cMo eMo hSo hroom h100 hinc href hlt
      have cMo1 : cfr M (hC Mo (p1 + 1)) := cfr_h cMo
      have tC1 : tpeC (hC Mo (p1 + 1)) B n := tpeC_f cMo1 tC
      have rR2 : rfr R (hR R (p1 + 1)) := rfr_h (rfr_refl R)
      have tR1 : tpeR (hR R (p1 + 1)) B n := tpeR_h tR
      obtain ⟨M2, R2, g1, g2, g3⟩ := clause_sim (B := B) (n := n) hin hru1 hn (show p1 + 1 ≤ n by omega) tC1 tR1 (hC_h _ _) (hR_h _ _) ((hR_n (by omega)).trans e4) (fun R' z1 z2 => FS_f (fun a k h1 h2 => hC_n (by omega)) (fun _ _ _ => rfl) (hSo R' z1 z2)) hroom h100
      have cM2 : cfr M M2 := cfr_trans cMo1 g1
      have rR3 : rfr R R2 := rfr_trans rR2 g2
      obtain ⟨i1, i2, i3, i4⟩ := hinc R2 rR3
      have tC2 := tpeC_f cM2 tC
      have tR2 := tpeR_f i1 tR
      have chead : ∀ (v : Int32) (res : Option (Int32 × mm_MM)), fX1_readItems (hC Mo (p1 + 1)) 3 (Int32.ofNat cl) = some (v, M2) → (if v = ((-1) : Int32) then (fX8_sign M2).bind fun r9 => (if r9.1 = ((-1) : Int32) then (fX1_isWhole r9.2 3).bind fun r11 => (if r11.1 = 0 then (fX8_size r11.2).bind fun r13 => fX1_read_c79 r13.2 r13.1 else fX1_read_c79 r11.2 ((-1) : Int32)) else (fX8_skip r9.2).bind fun r14 => fX1_read_c10 gC r14 3 (Int32.ofNat i + 1)) else some (v, M2)) = res → fX1_read_c10 (gC + 1) M 3 (Int32.ofNat i) = res := fun v res h1 h2 => by
        rw [fX1_read_c10]
        dsimp only
        rw [if_pos h240, es]
        simp only [Option.bind_some, hop, if_neg (show ¬ (1 : Int32) = 0 by decide)]
        refine bs (cSk eMo) ?_
        rw [hs]
        exact bs h1 h2
      have rhead : ∀ (res : Option (Int32 × mm_MM)), fX11_items (hR R (p1 + 1)) (Int32.ofNat cl) (t2O cl) (Int32.ofNat (ofO cl nr nt)) (Int32.ofNat (mnO cl)) = some R2 → fX11_readField_c231 (fX11_readField_c69 (gR' + 1)) (inc R2) ru' = res → fX11_readField_c69 (gR' + 1 + 1) R ru 1 = res := fun res h1 h2 => by
        rw [fX11_readField_c69]
        dsimp only
        rw [if_neg (by decide), if_pos e4, el]
        simp only [Option.bind_some]
        refine Eq.trans (href (fX11_readField_c69 (gR' + 1))) ?_
        exact bs h1 h2
      rcases g3 with ⟨e, e0, e1, e2, e3⟩ | ⟨q, v, q0, q1, qs, e1, e2, w4, w3, wC, hv⟩
      · obtain ⟨R', er, fr'⟩ := r231_err (g := gR') (R := inc R2) (e := e) (by omega) (i3.trans e3) ru'
        exact ⟨Int32.ofNat e, M2, R', chead _ _ e1 (if_neg (ofN_ne (by omega))), rhead _ e2 er, cM2, rfr_trans i1 fr', fun z => absurd z (ofN_ne (by omega))⟩
      · have L := r231_look (g := gR') tR2 hn (i2.trans w3) q1 (i3.trans w4) qs ru'
        have T := r275 tR2 hn (i2.trans w3) q1 (i3.trans w4) qs
        have esq := cSg tC2 hn wC (by omega)
        rw [qs, show hC M2 q = M2 from wI_self wC] at esq
        rcases hv with ⟨rfl, hend, hS2⟩ | ⟨rfl, n1, n59⟩
        · have hS3 := i4 M2 hS2
          by_cases c59 : sg B n q = 59
          · have n1 : ¬ sg B n q = -1 := by rw [c59]; decide
            have hql : q < n := sg_lt n1
            rw [if_pos c59] at L
            have cM3 : cfr M (hC M2 (q + 1)) := cfr_h cM2
            have rR4 : rfr R (hR (inc R2) (q + 1)) := rfr_h i1
            obtain ⟨v, M', R', a1, a2, a3, a4, a5⟩ := ih (q + 1) (i + 1) gC (gR' + 1) (hC M2 (q + 1)) (hR (inc R2) (q + 1)) ru' cr ct (by omega) (by omega) (by omega) (by omega) (by omega) (tpeC_f cM3 tC) (tpeR_f rR4 tR) (hC_h _ _) (hR_h _ _) ((hR_n (by omega)).trans (i3.trans w4)) hru2 (FS_f (fun a k h1 h2 => hC_n (by omega)) (fun a k h => hR_n (by omega)) hS3)
            refine ⟨v, M', R', chead _ _ e1 ?_, rhead _ e2 (L.trans a2), cfr_trans cM3 a3, rfr_trans rR4 a4, a5⟩
            rw [if_pos rfl]
            refine bs esq ?_
            dsimp only
            rw [if_neg n1]
            refine bs (cSk wC) ?_
            rw [nn_s]
            exact a1
          · have c1 : sg B n q = -1 := hend.resolve_right c59
            have hqn : q = n := by
              refine Decidable.byContradiction (fun z => ?_)
              have hql : q < n := by omega
              refine hB q hql ?_
              rw [← c1]; exact (if_pos hql).symm
            rw [if_neg c59, T, if_pos c1, r_whole hS3] at L
            simp only [Option.bind_some] at L
            cases hw : whB (inc R2) ct with
            | true =>
              rw [hw, if_neg (show ¬ b2i true = 0 by decide)] at L
              refine ⟨-1, M2, inc R2, chead _ _ e1 ?_, rhead _ e2 (L.trans ?_), cM2, i1, fun _ => ⟨ru', cr, ct, hru2, hS3, hw⟩⟩
              · rw [if_pos rfl]
                refine bs esq ?_
                dsimp only
                rw [if_pos c1, c_whole hS3, hw]
                rfl
              · unfold fX11_readField_c302
                rw [i3.trans w4]
            | false =>
              rw [hw, if_pos (show b2i false = 0 from rfl)] at L
              refine ⟨Int32.ofNat n, M2, wI (inc R2) 606 4 (Int32.ofNat q), chead _ _ e1 ?_, rhead _ e2 (L.trans ?_), cM2, rfr_w i1 (by omega), fun z => absurd z (ofN_ne (by omega))⟩
              · rw [if_pos rfl]
                refine bs esq ?_
                dsimp only
                rw [if_pos c1, c_whole hS3, hw]
                simp only [Option.bind_some]
                rw [if_pos (show b2i false = 0 from rfl)]
                unfold fX8_size fX1_read_c79
                rw [tC2.1]; rfl
              · unfold fX11_readField_c298 fX11_readField_c302
                rw [rBad (i2.trans w3) (i3.trans w4)]
                simp only [Option.bind_some]
                rw [wI_eq, hqn]
        · rw [if_neg n59, T, if_neg n1] at L
          exact ⟨Int32.ofNat q, M2, _, chead _ _ e1 (if_neg (ofN_ne (by omega))), rhead _ e2 L, cM2, rfr_w i1 (by omega), fun z => absurd z (ofN_ne (by omega))⟩
    have sl : ¬ s = -1 → p1 < n := fun z => sg_lt (B := B) (by rw [hsg]; exact z)
    have idc : ∀ a k, (hC M p1).1 a k = (hC M p1).1 a k := fun _ _ => rfl
    by_cases s115 : s = 115
    · by_cases r0 : ru = 0
      · refine good 115 nr nt 1 (wI (hC M p1) 3 2 1) id s115 (Or.inl ⟨rfl, rfl, rfl⟩) (fun _ => by decide) (Or.inr rfl) ?_ (cfr_w cM1 (by omega)) (by rw [wI_ne (by decide)]; exact hC_h M p1) (fun R' z1 z2 => ?_) (by show 0 + 5 ≤ 5; omega) (by show 0 < 100; decide) (fun X h => ⟨h, rfl, rfl, fun Y h => h⟩) (fun kr => ?_) (sl (by rw [s115]; decide))
        · unfold fX1_opens
          rw [if_pos s115, q2, if_pos r0]
        · refine FS_cnt (M := hC M p1) (R := hR R p1) (ru := ru) (cr := nr) (ct := nt) (rr := nr) (rt := nt) (fun a k h1 h2 h3 => ?_) (fun a k h => ?_) wI_eq (fun z => absurd z (by decide)) ((wI_nk (by decide)).trans q8) ((wI_nk (by decide)).trans q9) ?_ ?_ q4 rfl (Nat.le_refl _) hS1
          · rw [wI_1, if_neg (fun e => h3 ⟨e.1, Or.inl e.2⟩)]
          · by_cases c : a = 617 ∧ k < 5
            · obtain ⟨rfl, hk⟩ := c
              have := z1 k hk
              rw [show ofO 115 nr nt + k = k from Nat.zero_add k] at this
              rw [show R'.1 617 k = usI 115 k from this, q2' r0 k hk]; rfl
            · rw [z2 a k (by show ¬ (a = 617 ∧ 0 ≤ k ∧ k < 0 + 5); omega), hR_n (by omega), hR_n (by omega)]
          · rw [z2 606 20 (by show ¬ (606 = 617 ∧ _); omega), hR_n (by omega)]; rw [hR_n (by omega)] at q20; exact q20
          · rw [z2 606 21 (by show ¬ (606 = 617 ∧ _); omega), hR_n (by omega)]; rw [hR_n (by omega)] at q21; exact q21
        · rw [if_pos s115, if_pos r0, hR_s, s115]
          rfl
      · refine bad ?_ (fun kr => ?_) (fun z => r0 z.2)
        · unfold fX1_opens fX1_opens_c20 fX1_opens_c46 fX1_opens_c97
          rw [if_pos s115, q2, if_neg r0, if_neg (by rw [s115]; decide), if_neg (by rw [s115]; decide)]
        · unfold fX11_readField_c122 fX11_readField_c173
          rw [if_neg (by rw [s115]; decide), if_neg (by rw [s115]; decide)]
    · by_cases s114 : s = 114
      · by_cases r4 : nr < 4
        · have lt4 : (hC M p1).1 3 8 < 4 := by rw [q8]; exact (nn_lt (k := 4) (by omega) (by decide)).mpr r4
          have lt4r : (hR R p1).1 606 20 < 4 := by rw [q20]; exact (nn_lt (k := 4) (by omega) (by decide)).mpr r4
          refine good 114 (nr + 1) nt ru (wI (hC M p1) 3 8 ((hC M p1).1 3 8 + 1)) (fun X => wI X 606 20 (X.1 606 20 + 1)) s114 (Or.inr (Or.inl ⟨rfl, rfl, rfl⟩)) (fun z => absurd z (by decide)) hru ?_ (cfr_w cM1 (by omega)) (by rw [wI_ne (by decide)]; exact hC_h M p1) (fun R' z1 z2 => ?_) (by show nr + 1 ≤ 4; omega) (by show nr < 100; omega) (fun X h => ⟨rfr_w h (by omega), wI_nk (by decide), wI_nk (by decide), fun Y h => ?_⟩) (fun kr => ?_) (sl (by rw [s114]; decide))
          · unfold fX1_opens fX1_opens_c20
            rw [if_neg s115, if_pos s114, if_pos lt4]
          · refine FS_cnt (M := hC M p1) (R := hR R p1) (ru := ru) (cr := nr) (ct := nt) (rr := nr) (rt := nt) (fun a k h1 h2 h3 => ?_) (fun a k h => ?_) ((wI_nk (by decide)).trans q2) (fun z => z) (by rw [wI_eq, q8, nn_s]) ((wI_nk (by decide)).trans q9) ?_ ?_ (by omega) rfl (by omega) hS1
            · rw [wI_1, if_neg (fun e => h3 ⟨e.1, Or.inr (Or.inl e.2)⟩)]
            · by_cases c : a = 618 ∧ k = nr
              · obtain ⟨rfl, rfl⟩ := c
                have := z1 0 (by decide)
                rw [show R'.1 618 k = usI 114 0 from this]
                exact ((hS1.2.2.2.1 k r4).2.2 (Nat.le_refl _)).symm
              · rw [z2 a k (by show ¬ (a = 618 ∧ nr ≤ k ∧ k < nr + 1); omega), hR_n (by omega), hR_n (by omega)]
            · rw [z2 606 20 (by show ¬ (606 = 618 ∧ _); omega), hR_n (by omega)]; rw [hR_n (by omega)] at q20; exact q20
            · rw [z2 606 21 (by show ¬ (606 = 618 ∧ _); omega), hR_n (by omega)]; rw [hR_n (by omega)] at q21; exact q21
          · have hx := h.2.2.1
            have hy := h.2.2.2.2.1
            exact FS_cnt (fun _ _ _ _ _ => rfl) (fun a k h => wI_ne (by omega)) h.1.1 (fun z => z) hx.1 hy.1 (by rw [wI_eq, hx.2.1, nn_s]) ((wI_nk (by decide)).trans hy.2.1) hx.2.2 rfl (Nat.le_refl _) h
          · rw [if_neg s115]
            unfold fX11_readField_c122
            rw [if_pos s114, if_pos lt4r, hR_s, s114, q20]
            rfl
        · have g4 : ¬ (hC M p1).1 3 8 < 4 := by rw [q8]; exact fun z => r4 ((nn_lt (k := 4) (by omega) (by decide)).mp z)
          have g4r : ¬ (hR R p1).1 606 20 < 4 := by rw [q20]; exact fun z => r4 ((nn_lt (k := 4) (by omega) (by decide)).mp z)
          refine bad ?_ (fun kr => ?_) (fun z => s115 z.1)
          · unfold fX1_opens fX1_opens_c20 fX1_opens_c46 fX1_opens_c97
            rw [if_neg s115, if_pos s114, if_neg g4, if_neg (by rw [s114]; decide)]
          · unfold fX11_readField_c122 fX11_readField_c173
            rw [if_pos s114, if_neg g4r, if_neg (by rw [s114]; decide)]
      · by_cases s116 : s = 116
        · by_cases r8 : nt < 8
          · have lt8 : (hC M p1).1 3 9 < 8 := by rw [q9]; exact (nn_lt (k := 8) (by omega) (by decide)).mpr r8
            have lt8r : (hR R p1).1 606 21 < 8 := by rw [q21]; exact (nn_lt (k := 8) (by omega) (by decide)).mpr r8
            have hkd : mm_kd (6 + nt) = (9, 6) := kd_d r8
            have eth : fX1_thingAt (hC M p1) 3 ((hC M p1).1 3 9) = some (some (6 + nt), hC M p1) := by rw [q9]; exact thAt _ r8
            have e9 : (wI (wI (hC M p1) (6 + nt) 0 1) (6 + nt) 1 10).1 3 9 = Int32.ofNat nt := by rw [wI_ne (by omega), wI_ne (by omega), q9]
            refine good 116 nr (nt + 1) ru (wI (wI (wI (hC M p1) (6 + nt) 0 1) (6 + nt) 1 10) 3 9 (Int32.ofNat (nt + 1))) (fun X => wI X 606 21 (X.1 606 21 + 1)) s116 (Or.inr (Or.inr ⟨rfl, rfl, rfl⟩)) (fun z => absurd z (by decide)) hru ?_ (cfr_w (cfr_w (cfr_w cM1 (by omega)) (by omega)) (by omega)) (by rw [wI_ne (by decide), wI_ne (by omega), wI_ne (by omega)]; exact hC_h M p1) (fun R' z1 z2 => ?_) (by show 4 * nt + 4 ≤ 32; omega) (by show 4 * nt < 100; omega) (fun X h => ⟨rfr_w h (by omega), wI_nk (by decide), wI_nk (by decide), fun Y h => ?_⟩) (fun kr => ?_) (sl (by rw [s116]; decide))
            · unfold fX1_opens fX1_opens_c20 fX1_opens_c46 fX1_opens_c85
              rw [if_neg s115, if_neg s114, if_pos s116, if_pos lt8, eth]
              simp only [Option.bind_some, if_pos hkd]
              rw [e9, nn_s]
            · obtain ⟨-, g2, -, g6, -, g10, g11⟩ := hS1
              obtain ⟨k0, k1, k2, k3, k4, k5⟩ := g11 nt (Nat.le_refl _) r8
              have zr : ∀ a k, ¬ (a = 619 ∧ 4 * nt ≤ k ∧ k < 4 * nt + 4) → ¬ (a = 606 ∧ k = 3) → R'.1 a k = (hR R p1).1 a k := fun a k w1 w2 => by rw [z2 a k w1, hR_n w2, hR_n w2]
              have zm : ∀ a k, ¬ a = 6 + nt → ¬ (a = 3 ∧ k = 9) → (wI (wI (wI (hC M p1) (6 + nt) 0 1) (6 + nt) 1 10) 3 9 (Int32.ofNat (nt + 1))).1 a k = (hC M p1).1 a k := fun a k w1 w2 => by rw [wI_1, if_neg w2, wI_ne w1, wI_ne w1]
              have u0 : R'.1 619 (4 * nt) = 10 := z1 0 (by decide)
              have u1 : R'.1 619 (4 * nt + 1) = 0 := z1 1 (by decide)
              have u2 : R'.1 619 (4 * nt + 2) = -1 := z1 2 (by decide)
              have u3 : R'.1 619 (4 * nt + 3) = 0 := z1 3 (by decide)
              refine ⟨⟨(zm _ _ (by omega) (by omega)).trans q2, fun z k hk => (zr _ _ (by omega) (by omega)).trans (q2' z k hk)⟩, fun k hk => by rw [zm _ _ (by omega) (by omega), zr 617 k (by omega) (by omega)]; exact g2 k hk, ⟨(zm _ _ (by omega) (by omega)).trans q8, (zr _ _ (by omega) (by omega)).trans q20, q4⟩, fun r hr => by rw [zm _ _ (by omega) (by omega), zr 618 r (by omega) (by omega)]; exact g6 r hr, ⟨wI_eq, (zr _ _ (by omega) (by omega)).trans q21, by omega⟩, fun j hj => ?_, fun j h1 h2 => ?_⟩
              · by_cases c : j = nt
                · subst c
                  have cell : ∀ k, (wI (wI (wI (hC M p1) (6 + j) 0 1) (6 + j) 1 10) 3 9 (Int32.ofNat (j + 1))).1 (6 + j) k = if k = 0 then 1 else if k = 1 then 10 else (hC M p1).1 (6 + j) k := fun k => by
                    rw [wI_ne (by omega)]
                    by_cases w1 : k = 1
                    · subst w1; rw [wI_eq]; rfl
                    · rw [wI_nk w1]
                      by_cases w0 : k = 0
                      · subst w0; rw [wI_eq]; rfl
                      · rw [wI_nk w0, if_neg w0, if_neg w1]
                  unfold thS
                  rw [u0, u1, u2, u3, cell 0, cell 5]
                  refine ⟨rfl, fun k hk => ?_, by decide, by decide, Or.inl rfl, by decide, k5⟩
                  rw [cell (k + 1)]
                  obtain rfl | rfl | rfl | rfl : k = 0 ∨ k = 1 ∨ k = 2 ∨ k = 3 := by omega
                  · exact u0.symm
                  · exact k2.trans u1.symm
                  · exact k3.trans u2.symm
                  · exact k4.trans u3.symm
                · have := g10 j (by omega)
                  have rz : ∀ k, k < 4 → R'.1 619 (4 * j + k) = (hR R p1).1 619 (4 * j + k) := fun k hk => zr _ _ (by omega) (by omega)
                  have rz0 : R'.1 619 (4 * j) = (hR R p1).1 619 (4 * j) := zr _ _ (by omega) (by omega)
                  have mz : ∀ k, (wI (wI (wI (hC M p1) (6 + nt) 0 1) (6 + nt) 1 10) 3 9 (Int32.ofNat (nt + 1))).1 (6 + j) k = (hC M p1).1 (6 + j) k := fun k => zm _ _ (by omega) (by omega)
                  unfold thS at this ⊢
                  simp only [mz]
                  rw [rz0, rz 1 (by decide), rz 2 (by decide), rz 3 (by decide)]
                  exact ⟨this.1, fun k hk => by rw [rz k hk]; exact this.2.1 k hk, this.2.2⟩
              · have mz : ∀ k, (wI (wI (wI (hC M p1) (6 + nt) 0 1) (6 + nt) 1 10) 3 9 (Int32.ofNat (nt + 1))).1 (6 + j) k = (hC M p1).1 (6 + j) k := fun k => zm _ _ (by omega) (by omega)
                unfold clS
                simp only [mz]
                exact g11 j (by omega) h2
            · have hx := h.2.2.1
              have hy := h.2.2.2.2.1
              exact FS_cnt (fun _ _ _ _ _ => rfl) (fun a k h => wI_ne (by omega)) h.1.1 (fun z => z) hx.1 hy.1 ((wI_nk (by decide)).trans hx.2.1) (by rw [wI_eq, hy.2.1, nn_s]) hx.2.2 rfl (Nat.le_refl _) h
            · rw [if_neg s115]
              unfold fX11_readField_c122 fX11_readField_c173
              rw [if_neg s114, if_pos s116, if_pos lt8r, hR_s, s116, q21, show (4 : Int32) * Int32.ofNat nt = Int32.ofNat (4 * nt) from by rw [Int32.ofNat_mul]; rfl]
              rfl
          · have g8 : ¬ (hC M p1).1 3 9 < 8 := by rw [q9]; exact fun z => r8 ((nn_lt (k := 8) (by omega) (by decide)).mp z)
            have g8r : ¬ (hR R p1).1 606 21 < 8 := by rw [q21]; exact fun z => r8 ((nn_lt (k := 8) (by omega) (by decide)).mp z)
            refine bad ?_ (fun kr => ?_) (fun z => s115 z.1)
            · unfold fX1_opens fX1_opens_c20 fX1_opens_c46 fX1_opens_c97
              rw [if_neg s115, if_neg s114, if_pos s116, if_neg g8]
            · unfold fX11_readField_c122 fX11_readField_c173
              rw [if_neg s114, if_pos s116, if_neg g8r]
        · refine bad ?_ (fun kr => ?_) (fun z => s115 z.1)
          · unfold fX1_opens fX1_opens_c20 fX1_opens_c46 fX1_opens_c97
            rw [if_neg s115, if_neg s114, if_neg s116]
          · unfold fX11_readField_c122 fX11_readField_c173
            rw [if_neg s114, if_neg s116]
end FSM
