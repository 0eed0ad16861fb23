/-! A FIELD'S CLAUSES, both sides step by step -/
section CLS
variable {B : Nat → Int32} {n : Nat}
theorem kOf_no {cl : Nat} (h : isCl cl) {x : Int32} (hx : x = -1 ∨ x = 59) : kOf cl x = none := by
  rcases hx with rfl | rfl <;> rcases h with rfl | rfl | rfl <;> decide
theorem sg_lt {p : Nat} (h : ¬ sg B n p = -1) : p < n := by
  by_cases c : p < n
  · exact c
  · unfold sg at h; rw [if_neg c] at h; exact absurd rfl h
theorem items_sim {ru : Int32} {cl cr ct rr rt : Nat} (hin : inC cl cr ct rr rt) (hru : cl = 115 → ¬ ru = 0) (hn : n ≤ 240) : ∀ (N p gC gR : Nat) (M R : mm_MM) (x3 x5 : Int32) (G : Nat → Bool), n - p < N → p ≤ n → N < gC → N < gR → tpeC M B n → tpeR R B n → M.1 1 2 = Int32.ofNat p → R.1 606 3 = Int32.ofNat (sk B n p) → R.1 606 4 = -1 → FS M R ru cr ct rr rt → mkG cl x3 x5 G →
    ∃ M' R', cfr M M' ∧ rfr R R' ∧
    ((∃ e, e ≤ n ∧ fX1_readItems_c5 gC M 3 (Int32.ofNat cl) x3 (Int32.ofNat (c5 G)) = some (Int32.ofNat e, M') ∧ fX11_items_c41 gR R (Int32.ofNat cl) (t2O cl) (Int32.ofNat (ofO cl rr rt)) x5 (oI (kOf cl (sg B n (sk B n p)))) = some R' ∧ R'.1 606 4 = Int32.ofNat e) ∨
     (∃ q v, p ≤ q ∧ q ≤ n ∧ sk B n q = q ∧ fX1_readItems_c5 gC M 3 (Int32.ofNat cl) x3 (Int32.ofNat (c5 G)) = some (v, M') ∧ fX11_items_c41 gR R (Int32.ofNat cl) (t2O cl) (Int32.ofNat (ofO cl rr rt)) x5 (oI (kOf cl (sg B n (sk B n p)))) = some R' ∧ R'.1 606 4 = -1 ∧ R'.1 606 3 = Int32.ofNat q ∧ M'.1 1 2 = Int32.ofNat q ∧ ((v = -1 ∧ (sg B n q = -1 ∨ sg B n q = 59) ∧ FS M' R' ru cr ct rr rt) ∨ (v = Int32.ofNat q ∧ ¬ sg B n q = -1 ∧ ¬ sg B n q = 59)))) := by
  have hcl := inC_c hin
  intro N
  induction N with
  | zero => intro p gC gR M R x3 x5 G h; omega
  | succ N ih =>
    intro p gC gR M R x3 x5 G hN hp hgC hgR tC tR eM eR e4 hS hG
    obtain ⟨gC, rfl⟩ : ∃ q, gC = q + 1 := ⟨gC - 1, by omega⟩
    obtain ⟨gR, rfl⟩ : ∃ q, gR = q + 1 := ⟨gR - 1, by omega⟩
    have hcnt := c5_le G
    have h10 : Int32.ofNat (c5 G) ≤ 10 := (nn_le (k := 10) (by omega) (by decide)).mpr (by omega)
    have hs1 := sk_n (B := B) hp
    have hle := sk_le B n p
    have hss := sk_sk (B := B) (n := n) p
    have es := cSg tC hn eM (by omega)
    generalize hp1 : sk B n p = p1 at hs1 hle hss es eR ⊢
    generalize hsg : sg B n p1 = s at es
    have fM : cfr M (hC M p1) := cfr_h (cfr_refl M)
    have hh : (hC M p1).1 1 2 = Int32.ofNat p1 := hC_h M p1
    have rstop : kOf cl s = none → fX11_items_c41 (gR + 1) R (Int32.ofNat cl) (t2O cl) (Int32.ofNat (ofO cl rr rt)) x5 (oI (kOf cl s)) = some R := fun z => by
      rw [z, fX11_items_c41]
      dsimp only
      rw [if_pos e4, if_pos (show oI none = -1 from rfl)]
      rfl
    by_cases c1 : s = -1 ∨ s = 59
    · refine ⟨hC M p1, R, fM, rfr_refl R, Or.inr ⟨p1, -1, hle, hs1, hss, ?_, rstop (kOf_no hcl c1), e4, eR, hh, Or.inl ⟨rfl, by rw [hsg]; exact c1, FS_f (fun a k h1 h2 => hC_n (by omega)) (fun a k _ => rfl) hS⟩⟩⟩
      rw [fX1_readItems_c5]
      dsimp only
      rw [if_pos h10, es]
      simp only [Option.bind_some]
      by_cases z1 : s = -1
      · rw [if_pos z1]; rfl
      · rw [if_neg z1, if_pos (c1.resolve_left z1)]; rfl
    · have n1 : ¬ s = -1 := fun z => c1 (Or.inl z)
      have n59 : ¬ s = 59 := fun z => c1 (Or.inr z)
      have hlt : p1 < n := sg_lt (B := B) (by rw [hsg]; exact n1)
      have stop : ∀ (hbad : kOf cl s = none ∨ ∃ k, kOf cl s = some k ∧ G k = true), fX1_readItems_c5 (gC + 1) M 3 (Int32.ofNat cl) x3 (Int32.ofNat (c5 G)) = some (Int32.ofNat p1, hC M p1) ∧ fX11_items_c41 (gR + 1) R (Int32.ofNat cl) (t2O cl) (Int32.ofNat (ofO cl rr rt)) x5 (oI (kOf cl s)) = some R := fun hbad => by
        rcases hbad with z | ⟨k, z, zG⟩
        · refine ⟨?_, rstop z⟩
          rw [fX1_readItems_c5]
          dsimp only
          rw [if_pos h10, es]
          simp only [Option.bind_some, if_neg n1, if_neg n59, c_itemOf _ hcl, z]
          rw [if_pos (show oI (Option.map (fun k => bsO cl + k) none) = -1 from rfl)]
          unfold fX1_readItems_c59 fX8_head
          rw [hh]; rfl
        · have hk := kOf_lt hcl z
          obtain ⟨b1, b2⟩ := cl_b hcl hk
          obtain ⟨m1, m2⟩ := hG k hk
          rw [zG] at m1 m2
          unfold hasB at m1
          refine ⟨?_, ?_⟩
          · rw [fX1_readItems_c5]
            dsimp only
            rw [if_pos h10, es]
            simp only [Option.bind_some, if_neg n1, if_neg n59, c_itemOf _ hcl, z]
            have eo : oI (Option.map (fun k => bsO cl + k) (some k)) = Int32.ofNat (bsO cl + k) := rfl
            rw [eo, if_neg (ofN_ne (by omega)), if_pos (of_decide_eq_true m1)]
            unfold fX1_readItems_c59 fX8_head
            rw [hh]; rfl
          · rw [z, fX11_items_c41]
            dsimp only
            rw [if_pos e4, if_neg (show ¬ oI (some k) = -1 from ofN_ne (by omega))]
            refine bs (r_has R x5 k) ?_
            dsimp only
            rw [m2, if_pos rfl, if_neg (by decide)]
            rfl
      by_cases c2 : kOf cl s = none
      · obtain ⟨a1, a2⟩ := stop (Or.inl c2)
        exact ⟨hC M p1, R, fM, rfr_refl R, Or.inr ⟨p1, Int32.ofNat p1, hle, hs1, hss, a1, a2, e4, eR, hh, Or.inr ⟨rfl, by rw [hsg]; exact n1, by rw [hsg]; exact n59⟩⟩⟩
      · obtain ⟨k, hk0⟩ : ∃ k, kOf cl s = some k := Option.ne_none_iff_exists'.mp c2
        have hk := kOf_lt hcl hk0
        obtain ⟨b1, b2⟩ := cl_b hcl hk
        cases hGk : G k with
        | true =>
          obtain ⟨a1, a2⟩ := stop (Or.inr ⟨k, hk0, hGk⟩)
          exact ⟨hC M p1, R, fM, rfr_refl R, Or.inr ⟨p1, Int32.ofNat p1, hle, hs1, hss, a1, a2, e4, eR, hh, Or.inr ⟨rfl, by rw [hsg]; exact n1, by rw [hsg]; exact n59⟩⟩⟩
        | false =>
          obtain ⟨m1, m2⟩ := hG k hk
          rw [hGk] at m1 m2
          unfold hasB at m1
          -- the number
          have eskip : fX8_skip (hC M p1) = some (hC M (p1 + 1)) := c_skp M p1
          have tC1 : tpeC (hC M (p1 + 1)) B n := tpeC_h tC
          have enum := cNm tC1 hn (mx := 2) (by decide) (hC_h M (p1 + 1)) (show p1 + 1 ≤ n by omega)
          rw [hC_2, hC_2] at enum
          have hlo : loO cl k < 1000 ∧ hiO cl k < 1000 := by
            rcases hcl with rfl | rfl | rfl
            · have hk : k < 5 := hk
              obtain rfl | rfl | rfl | rfl | rfl : k = 0 ∨ k = 1 ∨ k = 2 ∨ k = 3 ∨ k = 4 := by omega
              all_goals decide
            · have hk : k < 1 := hk
              obtain rfl : k = 0 := by omega
              decide
            · have hk : k < 4 := hk
              obtain rfl | rfl | rfl | rfl : k = 0 ∨ k = 1 ∨ k = 2 ∨ k = 3 := by omega
              all_goals decide
          have tR1 : tpeR (hR R (p1 + 1)) B n := tpeR_h tR
          have rnum := r_number tR1 hn (lo := loO cl k) (hi := hiO cl k) (hR_h R (p1 + 1)) ((hR_n (by omega)).trans e4) (show p1 + 1 ≤ n by omega) hlo.1 hlo.2
          rw [hR_2, hR_2, hR_2] at rnum
          have hs2 := sk_n (B := B) (show p1 + 1 ≤ n by omega)
          have hle2 := sk_le B n (p1 + 1)
          generalize hp2 : sk B n (p1 + 1) = p2 at enum rnum hs2 hle2
          have rstep : wI R 606 3 (R.1 606 3 + 1) = hR R (p1 + 1) := by rw [eR, nn_s]; rfl
          have hix : Int32.ofNat (ofO cl rr rt) + Int32.ofNat k = Int32.ofNat (ofO cl rr rt + k) := (Int32.ofNat_add _ _).symm
          have hof : ofO cl rr rt + k < 100 ∧ (mm_kd (t2O cl)).2 > ofO cl rr rt + k := by
            have h5 := hS.2.2.1.2.2
            have h9 := hS.2.2.2.2.1.2.2
            rcases hin with ⟨rfl, rfl, rfl⟩ | ⟨rfl, rfl, rfl⟩ | ⟨rfl, rfl, rfl⟩
            · have hk : k < 5 := hk
              exact ⟨by show 0 + k < 100; omega, by show 5 > 0 + k; omega⟩
            · have hk : k < 1 := hk
              exact ⟨by show rr + k < 100; omega, by show 4 > rr + k; omega⟩
            · have hk : k < 4 := hk
              exact ⟨by show 4 * rt + k < 100; omega, by show 32 > 4 * rt + k; omega⟩
          -- both heads of the step
          have cstep : ∀ (res : Option (Int32 × mm_MM)), ((fX8_number (hC M (p1 + 1)) 2).bind fun r9 => (if r9.1 = ((-1) : Int32) then (fX8_head r9.2).bind fun r11 => some (r11.1, r11.2) else (fX10_pick_x3 r9.2 (Int32.ofNat (bsO cl + k))).bind fun r12 => (if r9.1 < r12.1 then fX1_readItems_c119 r12.2 else (fX10_pick_x4 r12.2 (Int32.ofNat (bsO cl + k))).bind fun r14 => (if r9.1 ≤ r14.1 then (fX1_tell r14.2 3 (Int32.ofNat (bsO cl + k)) r9.1).bind fun r16 => fX1_readItems_c5 gC r16 3 (Int32.ofNat cl) (x3 ||| ((1 : Int32) <<< (Int32.ofNat (bsO cl + k) &&& 31))) (Int32.ofNat (c5 G) + 1) else fX1_readItems_c119 r14.2)))) = res → fX1_readItems_c5 (gC + 1) M 3 (Int32.ofNat cl) x3 (Int32.ofNat (c5 G)) = res := fun res hres => by
            rw [fX1_readItems_c5]
            dsimp only
            rw [if_pos h10, es]
            simp only [Option.bind_some, if_neg n1, if_neg n59, c_itemOf _ hcl, hk0]
            have eo : oI (Option.map (fun k => bsO cl + k) (some k)) = Int32.ofNat (bsO cl + k) := rfl
            rw [eo, if_neg (ofN_ne (by omega)), if_neg (of_decide_eq_false m1), eskip]
            exact hres
          have rstp : ∀ (R2 : mm_MM) (v : Int32) (res : Option mm_MM), fX11_number (hR R (p1 + 1)) (Int32.ofNat (loO cl k)) (Int32.ofNat (hiO cl k)) = some (v, R2) → (if (wI R2 (t2O cl) (ofO cl rr rt + k) v).1 606 4 = ((-1) : Int32) then (fX11_look (wI R2 (t2O cl) (ofO cl rr rt + k) v)).bind fun r9 => (fX11_itemOf r9.2 (Int32.ofNat cl) r9.1).bind fun r10 => fX11_items_c41 gR r10.2 (Int32.ofNat cl) (t2O cl) (Int32.ofNat (ofO cl rr rt)) (x5 ||| ((1 : Int32) <<< (Int32.ofNat k &&& 31))) r10.1 else fX11_items_c41 gR (wI R2 (t2O cl) (ofO cl rr rt + k) v) (Int32.ofNat cl) (t2O cl) (Int32.ofNat (ofO cl rr rt)) (x5 ||| ((1 : Int32) <<< (Int32.ofNat k &&& 31))) (-1)) = res → fX11_items_c41 (gR + 1) R (Int32.ofNat cl) (t2O cl) (Int32.ofNat (ofO cl rr rt)) x5 (oI (kOf cl s)) = res := fun R2 v res h1 h2 => by
            rw [hk0, fX11_items_c41]
            dsimp only
            rw [if_pos e4, if_neg (show ¬ oI (some k) = -1 from ofN_ne (by omega))]
            refine bs (r_has R x5 k) ?_
            dsimp only
            rw [m2, if_neg Bool.false_ne_true, if_pos rfl, rstep]
            refine bs (r_lowest _ hcl hk) (bs (r_highest _ hcl hk) (bs h1 ?_))
            dsimp only
            rw [show oI (some k) = Int32.ofNat k from rfl, hix, nn_go (by omega) hof.2, nn_tn (by omega)]
            exact h2
          have tne : ∀ _j : Nat, ¬ t2O cl = 606 := fun _ => by rcases hcl with rfl | rfl | rfl <;> decide
          have tin : 617 ≤ t2O cl ∧ t2O cl ≤ 619 := by rcases hcl with rfl | rfl | rfl <;> decide
          have rerr : ∀ (R2 : mm_MM) (v : Int32) (e : Nat), e ≤ n → fX11_number (hR R (p1 + 1)) (Int32.ofNat (loO cl k)) (Int32.ofNat (hiO cl k)) = some (v, R2) → R2.1 606 4 = Int32.ofNat e → fX11_items_c41 (gR + 1) R (Int32.ofNat cl) (t2O cl) (Int32.ofNat (ofO cl rr rt)) x5 (oI (kOf cl s)) = some (wI R2 (t2O cl) (ofO cl rr rt + k) v) ∧ (wI R2 (t2O cl) (ofO cl rr rt + k) v).1 606 4 = Int32.ofNat e := fun R2 v e he h1 h2 => by
            have w4 : (wI R2 (t2O cl) (ofO cl rr rt + k) v).1 606 4 = Int32.ofNat e := (wI_ne (fun z => tne 0 z.symm)).trans h2
            refine ⟨rstp R2 v _ h1 ?_, w4⟩
            rw [w4, if_neg (ofN_ne (by omega))]
            obtain ⟨g2, rfl⟩ : ∃ q, gR = q + 1 := ⟨gR - 1, by omega⟩
            rw [fX11_items_c41]
            dsimp only
            rw [w4, if_neg (ofN_ne (by omega))]
            rfl
          have fM2 : ∀ q, cfr M (hC M q) := fun q => cfr_h (cfr_refl M)
          by_cases cd : dgB (sg B n p2) = true
          · rw [if_pos cd] at enum rnum
            have hlt2 := dg_lt cd
            obtain ⟨z, hz, ez⟩ := ndT_v (B := B) (n := n) 2 p2 0 1 (by decide)
            have hq := ndT_p (B := B) (n := n) 2 p2 0
            have hqn := ndT_n (B := B) (n := n) 2 p2 0 hs2
            have hq1 : p2 + 1 ≤ (ndT B n 2 p2 0).2 := by
              rw [ndT, if_pos cd]
              have := ndT_p (B := B) (n := n) 1 (p2 + 1) ((0 * 10 + sg B n p2) - 48)
              omega
            have ez : (ndT B n 2 p2 0).1 = Int32.ofNat z := ez
            rw [ez] at enum rnum
            generalize (ndT B n 2 p2 0).2 = q at enum rnum hq hqn hq1
            have hz100 : z < 100 := by omega
            by_cases c3 : dgB (sg B n q) = true
            · rw [if_pos c3] at enum rnum
              obtain ⟨a1, a2⟩ := rerr _ _ q hqn rnum wI_eq
              refine ⟨hC M q, _, fM2 q, ?_, Or.inl ⟨q, hqn, cstep _ (bs enum ?_), a1, a2⟩⟩
              · exact rfr_w (rfr_w (rfr_h (rfr_refl R)) (by omega)) (by omega)
              · dsimp only
                rw [if_pos rfl]
                unfold fX8_head
                rw [hC_h]; rfl
            · rw [if_neg c3] at enum rnum
              have nz : ¬ Int32.ofNat z = -1 := ofN_ne (by omega)
              obtain ⟨xl, xh⟩ := xT_b cl hcl k hk
              have hx3 : fX10_pick_x3 (hC M q) (Int32.ofNat (bsO cl + k)) = some (Int32.ofNat (loO cl k), hC M q) := by rw [x3_n _ b1, xl]
              have hx4 : fX10_pick_x4 (hC M q) (Int32.ofNat (bsO cl + k)) = some (Int32.ofNat (hiO cl k), hC M q) := by rw [x4_n _ b1, xh]
              have hm1 : Int32.ofNat q - 1 = Int32.ofNat (q - 1) := by
                obtain ⟨d, rfl⟩ : ∃ d, q = d + 1 := ⟨q - 1, by omega⟩
                rw [nn_p, Nat.add_sub_cancel]
              have c119 : fX1_readItems_c119 (hC M q) = some (Int32.ofNat (q - 1), hC M q) := by
                unfold fX1_readItems_c119 fX8_head
                rw [hC_h]
                simp only [Option.bind_some, hm1]
              by_cases c4 : Int32.ofNat z < Int32.ofNat (loO cl k) ∨ ¬ Int32.ofNat z ≤ Int32.ofNat (hiO cl k)
              · rw [if_pos c4] at rnum
                obtain ⟨a1, a2⟩ := rerr _ _ (q - 1) (by omega) rnum wI_eq
                refine ⟨hC M q, _, fM2 q, ?_, Or.inl ⟨q - 1, by omega, cstep _ (bs enum ?_), a1, a2⟩⟩
                · exact rfr_w (rfr_w (rfr_h (rfr_refl R)) (by omega)) (by omega)
                · dsimp only
                  rw [if_neg nz]
                  refine bs hx3 ?_
                  by_cases c5 : Int32.ofNat z < Int32.ofNat (loO cl k)
                  · rw [if_pos c5]; exact c119
                  · rw [if_neg c5]
                    refine bs hx4 ?_
                    rw [if_neg (c4.resolve_left c5)]; exact c119
              · rw [if_neg c4] at rnum
                have z1 : ¬ Int32.ofNat z < Int32.ofNat (loO cl k) := fun w => c4 (Or.inl w)
                have z2 : Int32.ofNat z ≤ Int32.ofNat (hiO cl k) := Classical.not_not.mp fun w => c4 (Or.inr w)
                have zlo : loO cl k ≤ z := Decidable.byContradiction (fun w => z1 ((nn_lt (by omega) (by omega)).mpr (by omega)))
                have zhi : z ≤ hiO cl k := (nn_le (by omega) (by omega)).mp z2
                have hS1 : FS (hC M q) (hR R q) ru cr ct rr rt := FS_f (fun a j g1 g2 => hC_n (by omega)) (fun a j g => hR_n (by omega)) hS
                obtain ⟨M3, et, hS3, f3, l3⟩ := tell_cl hin hk ⟨zlo, zhi⟩ hS1 hru
                have fM3 : cfr M M3 := ⟨fun a j w => (f3 a j (by omega)).trans ((fM2 q).1 a j w), l3.trans (fM2 q).2⟩
                generalize hR3 : wI (hR R q) (t2O cl) (ofO cl rr rt + k) (Int32.ofNat z) = R3 at hS3
                have fR3 : rfr R R3 := by rw [← hR3]; exact rfr_w (rfr_h (rfr_refl R)) (by omega)
                have w3 : R3.1 606 3 = Int32.ofNat q := by rw [← hR3, wI_ne (fun z => tne 0 z.symm)]; exact hR_h R q
                have w4 : R3.1 606 4 = -1 := by rw [← hR3, wI_ne (fun z => tne 0 z.symm)]; exact (hR_n (by omega)).trans e4
                have tR3 := tpeR_f fR3 tR
                have tC3 := tpeC_f fM3 tC
                have hM3 : M3.1 1 2 = Int32.ofNat q := (f3 1 2 (by omega)).trans (hC_h M q)
                have hqq := sk_n (B := B) hqn
                obtain ⟨M', R', g1, g2, g3⟩ := ih q gC gR M3 (hR R3 (sk B n q)) (x3 ||| ((1 : Int32) <<< (Int32.ofNat (bsO cl + k) &&& 31))) (x5 ||| ((1 : Int32) <<< (Int32.ofNat k &&& 31))) (upG G k) (by omega) hqn (by omega) (by omega) tC3 (tpeR_h tR3) hM3 (hR_h _ _) ((hR_n (by omega)).trans w4) (FS_f (fun _ _ _ _ => rfl) (fun a j g => hR_n (by omega)) hS3) (mkG_up hcl hG hk)
                have ecC : ∀ res, fX1_readItems_c5 gC M3 3 (Int32.ofNat cl) (x3 ||| ((1 : Int32) <<< (Int32.ofNat (bsO cl + k) &&& 31))) (Int32.ofNat (c5 (upG G k))) = res → fX1_readItems_c5 (gC + 1) M 3 (Int32.ofNat cl) x3 (Int32.ofNat (c5 G)) = res := fun res hres => by
                  refine cstep _ (bs enum ?_)
                  dsimp only
                  rw [if_neg nz]
                  refine bs hx3 ?_
                  rw [if_neg z1]
                  refine bs hx4 ?_
                  rw [if_pos z2]
                  refine bs et ?_
                  rw [nn_s, ← c5_up b2 hGk]
                  exact hres
                have ecR : ∀ res, fX11_items_c41 gR (hR R3 (sk B n q)) (Int32.ofNat cl) (t2O cl) (Int32.ofNat (ofO cl rr rt)) (x5 ||| ((1 : Int32) <<< (Int32.ofNat k &&& 31))) (oI (kOf cl (sg B n (sk B n q)))) = res → fX11_items_c41 (gR + 1) R (Int32.ofNat cl) (t2O cl) (Int32.ofNat (ofO cl rr rt)) x5 (oI (kOf cl s)) = res := fun res hres => by
                  refine rstp _ _ _ rnum ?_
                  rw [hR3, w4, if_pos rfl]
                  refine bs (rLk tR3 hn w3 (by omega)) (bs (r_itemOf _ hcl _) ?_)
                  exact hres
                refine ⟨M', R', cfr_trans fM3 g1, rfr_trans (rfr_h fR3) g2, ?_⟩
                rcases g3 with ⟨e, e0, e1, e2, e3⟩ | ⟨q', v, q0, q1, q2, e1, e2, q3, q4, q5, q6⟩
                · exact Or.inl ⟨e, e0, ecC _ e1, ecR _ e2, e3⟩
                · exact Or.inr ⟨q', v, by omega, q1, q2, ecC _ e1, ecR _ e2, q3, q4, q5, q6⟩
          · rw [if_neg cd] at enum rnum
            obtain ⟨a1, a2⟩ := rerr _ _ p2 hs2 rnum wI_eq
            refine ⟨hC M p2, _, fM2 p2, ?_, Or.inl ⟨p2, hs2, cstep _ (bs enum ?_), a1, a2⟩⟩
            · exact rfr_w (rfr_w (rfr_h (rfr_refl R)) (by omega)) (by omega)
            · dsimp only
              rw [if_pos rfl]
              unfold fX8_head
              rw [hC_h]; rfl
end CLS
