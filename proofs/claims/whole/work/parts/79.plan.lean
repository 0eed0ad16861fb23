/-! LAYING, alone: two ways through all loads come to the same -/
def plR (f : Nat → Int) (R : Nat → Nat) : Nat → Nat → Int → Int
  | 0, _, a => a
  | n + 1, r, a => plR f R n (r + 1) (if 0 < R r then max a (f r) else a)
theorem plR_0 (f : Nat → Int) (R : Nat → Nat) : ∀ n r a, a ≤ plR f R n r a
  | 0, _, a => Int.le_refl a
  | n + 1, r, a => by
    rw [plR]
    have := plR_0 f R n (r + 1) (if 0 < R r then max a (f r) else a)
    by_cases c : 0 < R r
    · rw [if_pos c] at this ⊢; omega
    · rw [if_neg c] at this ⊢; omega
theorem plR_j (f : Nat → Int) (R : Nat → Nat) : ∀ n r a j, r ≤ j → j < r + n → 0 < R j → f j ≤ plR f R n r a
  | 0, r, a, j, h1, h2, _ => by omega
  | n + 1, r, a, j, h1, h2, h3 => by
    rw [plR]
    by_cases e : j = r
    · subst e
      rw [if_pos h3]
      have := plR_0 f R n (j + 1) (max a (f j))
      omega
    · exact plR_j f R n (r + 1) _ j (by omega) (by omega) h3
theorem plR_or (f : Nat → Int) (R : Nat → Nat) : ∀ n r a, plR f R n r a = a ∨ ∃ j, r ≤ j ∧ j < r + n ∧ 0 < R j ∧ plR f R n r a = f j
  | 0, _, _ => Or.inl rfl
  | n + 1, r, a => by
    rw [plR]
    by_cases c : 0 < R r
    · rw [if_pos c]
      rcases plR_or f R n (r + 1) (max a (f r)) with h | ⟨j, h1, h2, h3, h4⟩
      · by_cases c2 : a ≤ f r
        · exact Or.inr ⟨r, by omega, by omega, c, by rw [h]; omega⟩
        · exact Or.inl (by rw [h]; omega)
      · exact Or.inr ⟨j, by omega, by omega, h3, h4⟩
    · rw [if_neg c]
      rcases plR_or f R n (r + 1) a with h | ⟨j, h1, h2, h3, h4⟩
      · exact Or.inl h
      · exact Or.inr ⟨j, by omega, by omega, h3, h4⟩
theorem plR_max (f : Nat → Int) (R : Nat → Nat) : ∀ n r a x, plR f R n r (max a x) = max (plR f R n r a) x
  | 0, _, _, _ => rfl
  | n + 1, r, a, x => by
    rw [plR, plR]
    by_cases c : 0 < R r
    · rw [if_pos c, if_pos c, show max (max a x) (f r) = max (max a (f r)) x by omega, plR_max]
    · rw [if_neg c, if_neg c, plR_max]
theorem plR_add (f : Nat → Int) (R : Nat → Nat) (z : Int) : ∀ n r a, z + plR f R n r a = plR (fun j => z + f j) R n r (z + a)
  | 0, _, _ => rfl
  | n + 1, r, a => by
    rw [plR, plR, plR_add f R z n]
    by_cases c : 0 < R r
    · rw [if_pos c, if_pos c, show z + max a (f r) = max (z + a) (z + f r) by omega]
    · rw [if_neg c, if_neg c]
theorem plR_hi {f : Nat → Int} {R : Nat → Nat} : ∀ n r a, (∀ j, r ≤ j → R j = 0) → plR f R n r a = a
  | 0, _, _, _ => rfl
  | n + 1, r, a, h => by
    rw [plR, if_neg (by rw [h r (Nat.le_refl r)]; omega)]
    exact plR_hi n (r + 1) a (fun j hj => h j (by omega))
theorem plR_app {f : Nat → Int} {R : Nat → Nat} : ∀ n k r a, plR f R (n + k) r a = plR f R k (r + n) (plR f R n r a)
  | 0, k, r, a => by rw [Nat.zero_add]; rfl
  | n + 1, k, r, a => by rw [show n + 1 + k = n + k + 1 by omega, plR, plR, plR_app n k (r + 1), show r + 1 + n = r + (n + 1) by omega]
def dcR (R : Nat → Nat) (r : Nat) : Nat → Nat := fun i => if i = r then R i - 1 else R i
section PLN
variable (fr : Nat → Bool) (cL cP : Nat → Int) (cR : Nat → Nat → Int)
def plB : Nat → (Nat → Nat) → Int
  | 0, _ => 0
  | k + 1, R => if fr (7 - k) = true then plR (fun r => cR (7 - k) r + plB k (dcR R r)) R 4 0 (cL (7 - k) + plB k R) else plB k R - cP (7 - k)
def plD (dg : Nat → Nat → Nat) (u : Nat → Nat) : Nat → Nat → Int
  | 0, l => if l = 0 then 0 else -1000000000000000
  | b + 1, l => if fr b = true then plR (fun r => cR b r + plD dg u b (l - u r)) (fun r => dg r l) 4 0 (cL b + plD dg u b l) else plD dg u b l - cP b
def cOk : Prop := ∀ b, b < 8 → (-1000000000 ≤ cL b ∧ cL b ≤ 30000000000) ∧ (0 ≤ cP b ∧ cP b ≤ 1000000000) ∧ ∀ r, r < 4 → -1000000000 ≤ cR b r ∧ cR b r ≤ 30000000000
theorem plB_b (hc : cOk cL cP cR) : ∀ (k : Nat) (R : Nat → Nat), k ≤ 8 → -1000000000 * k ≤ plB fr cL cP cR k R ∧ plB fr cL cP cR k R ≤ 30000000000 * k
  | 0, _, _ => by rw [plB]; omega
  | k + 1, R, hk => by
    obtain ⟨h1, h2, h3⟩ := hc (7 - k) (by omega)
    have i0 := plB_b hc k R (by omega)
    rw [plB]
    by_cases c : fr (7 - k) = true
    · rw [if_pos c]
      rcases plR_or (fun r => cR (7 - k) r + plB fr cL cP cR k (dcR R r)) R 4 0 (cL (7 - k) + plB fr cL cP cR k R) with e | ⟨j, j1, j2, j3, e⟩
      · rw [e]; omega
      · have ij := plB_b hc k (dcR R j) (by omega)
        have := h3 j (by omega)
        rw [e]; omega
    · rw [if_neg c]; omega
theorem plD_b (hc : cOk cL cP cR) (dg : Nat → Nat → Nat) (u : Nat → Nat) : ∀ (b l : Nat), b ≤ 8 → -1000000000000000 - 1000000000 * (b : Int) ≤ plD fr cL cP cR dg u b l ∧ plD fr cL cP cR dg u b l ≤ 30000000000 * (b : Int)
  | 0, l, _ => by
    rw [plD]
    by_cases c : l = 0
    · rw [if_pos c]; omega
    · rw [if_neg c]; omega
  | b + 1, l, hb => by
    obtain ⟨h1, h2, h3⟩ := hc b (by omega)
    have i0 := plD_b hc dg u b l (by omega)
    rw [plD]
    by_cases c : fr b = true
    · rw [if_pos c]
      rcases plR_or (fun r => cR b r + plD fr cL cP cR dg u b (l - u r)) (fun r => dg r l) 4 0 (cL b + plD fr cL cP cR dg u b l) with e | ⟨j, j1, j2, j3, e⟩
      · rw [e]; omega
      · have ij := plD_b hc dg u b (l - u j) (by omega)
        have := h3 j (by omega)
        rw [e]; omega
    · rw [if_neg c]; omega
variable {fr cL cP cR}
variable {dg : Nat → Nat → Nat} {u R : Nat → Nat} {N : Nat}
def rsR (R : Nat → Nat) (dg : Nat → Nat → Nat) (l : Nat) : Nat → Nat := fun r => if r < 4 then R r - dg r l else R r
/-- the laws of the digits -/
def dgL (dg : Nat → Nat → Nat) (u R : Nat → Nat) (N : Nat) : Prop := 0 < N ∧ (∀ r, r < 4 → dg r 0 = 0) ∧ (∀ l r, l < N → r < 4 → dg r l ≤ R r) ∧
  (∀ l r, l < N → r < 4 → 0 < dg r l → l - u r < N ∧ ∀ i, i < 4 → dg i (l - u r) = if i = r then dg i l - 1 else dg i l) ∧
  (∀ l r, l < N → r < 4 → dg r l < R r → l + u r < N ∧ ∀ i, i < 4 → dg i (l + u r) = if i = r then dg i l + 1 else dg i l)
theorem pl_up (hc : cOk cL cP cR) (hd : dgL dg u R N) : ∀ b, b ≤ 8 → ∀ l, l < N → plD fr cL cP cR dg u b l + plB fr cL cP cR (8 - b) (rsR R dg l) ≤ plB fr cL cP cR 8 R := by
  obtain ⟨d0, d1, d2, d3, d4⟩ := hd
  intro b
  induction b with
  | zero =>
    intro _ l hl
    rw [plD]
    by_cases c : l = 0
    · subst c
      have : rsR R dg 0 = R := by
        funext r; unfold rsR
        by_cases h : r < 4
        · rw [if_pos h, d1 r h]; omega
        · rw [if_neg h]
      rw [if_pos rfl, this]
      show 0 + plB fr cL cP cR 8 R ≤ _
      omega
    · have h1 := plB_b fr cL cP cR hc 8 (rsR R dg l) (by omega)
      have h2 := plB_b fr cL cP cR hc 8 R (by omega)
      rw [if_neg c]
      show -1000000000000000 + plB fr cL cP cR 8 (rsR R dg l) ≤ _
      omega
  | succ b ih =>
    intro hb l hl
    have i0 := ih (by omega) l hl
    have e8 : 8 - b = (8 - (b + 1)) + 1 := by omega
    have e7 : 7 - (8 - (b + 1)) = b := by omega
    rw [plD]
    by_cases c : fr b = true
    · rw [if_pos c]
      rcases plR_or (fun r => cR b r + plD fr cL cP cR dg u b (l - u r)) (fun r => dg r l) 4 0 (cL b + plD fr cL cP cR dg u b l) with e | ⟨j, j1, j2, j3, e⟩
      · rw [e]
        rw [e8, plB, e7, if_pos c] at i0
        have := plR_0 (fun r => cR b r + plB fr cL cP cR (8 - (b + 1)) (dcR (rsR R dg l) r)) (rsR R dg l) 4 0 (cL b + plB fr cL cP cR (8 - (b + 1)) (rsR R dg l))
        omega
      · have hj : j < 4 := by omega
        obtain ⟨q1, q2⟩ := d3 l j hl hj j3
        have i1 := ih (by omega) (l - u j) q1
        have j3 : 0 < dg j l := j3
        have hle := d2 l j hl hj
        rw [e8, plB, e7, if_pos c] at i1
        have hr : 0 < rsR R dg (l - u j) j := by
          unfold rsR
          rw [if_pos hj, q2 j hj, if_pos rfl]; omega
        have := plR_j (fun r => cR b r + plB fr cL cP cR (8 - (b + 1)) (dcR (rsR R dg (l - u j)) r)) (rsR R dg (l - u j)) 4 0 (cL b + plB fr cL cP cR (8 - (b + 1)) (rsR R dg (l - u j))) j (by omega) (by omega) hr
        have es : dcR (rsR R dg (l - u j)) j = rsR R dg l := by
          funext i
          unfold dcR rsR
          by_cases hi : i = j
          · subst hi
            rw [if_pos rfl, if_pos hj, if_pos hj, q2 i hj, if_pos rfl]; omega
          · rw [if_neg hi]
            by_cases h4 : i < 4
            · rw [if_pos h4, if_pos h4, q2 i h4, if_neg hi]
            · rw [if_neg h4, if_neg h4]
        rw [es] at this
        rw [e]
        omega
    · rw [if_neg c]
      rw [e8, plB, e7, if_neg c] at i0
      omega
theorem pl_at (hd : dgL dg u R N) : ∀ b, b ≤ 8 → ∃ l, l < N ∧ plB fr cL cP cR 8 R ≤ plD fr cL cP cR dg u b l + plB fr cL cP cR (8 - b) (rsR R dg l) := by
  obtain ⟨d0, d1, d2, d3, d4⟩ := hd
  generalize hK : plB fr cL cP cR 8 R = K0
  intro b
  induction b with
  | zero =>
    intro _
    refine ⟨0, d0, ?_⟩
    have : rsR R dg 0 = R := by
      funext r; unfold rsR
      by_cases h : r < 4
      · rw [if_pos h, d1 r h]; omega
      · rw [if_neg h]
    rw [plD, if_pos rfl, this]
    show K0 ≤ 0 + plB fr cL cP cR 8 R
    omega
  | succ b ih =>
    intro hb
    obtain ⟨l, hl, i0⟩ := ih (by omega)
    have e8 : 8 - b = (8 - (b + 1)) + 1 := by omega
    have e7 : 7 - (8 - (b + 1)) = b := by omega
    by_cases c : fr b = true
    · rw [e8, plB, e7, if_pos c] at i0
      rcases plR_or (fun r => cR b r + plB fr cL cP cR (8 - (b + 1)) (dcR (rsR R dg l) r)) (rsR R dg l) 4 0 (cL b + plB fr cL cP cR (8 - (b + 1)) (rsR R dg l)) with e | ⟨j, j1, j2, j3, e⟩
      · refine ⟨l, hl, ?_⟩
        rw [plD, if_pos c]
        have := plR_0 (fun r => cR b r + plD fr cL cP cR dg u b (l - u r)) (fun r => dg r l) 4 0 (cL b + plD fr cL cP cR dg u b l)
        rw [e] at i0
        omega
      · have hj : j < 4 := by omega
        have j3 : 0 < rsR R dg l j := j3
        have hlt : dg j l < R j := by
          unfold rsR at j3
          rw [if_pos hj] at j3
          omega
        obtain ⟨q1, q2⟩ := d4 l j hl hj hlt
        refine ⟨l + u j, q1, ?_⟩
        have hpos : 0 < dg j (l + u j) := by rw [q2 j hj, if_pos rfl]; omega
        rw [plD, if_pos c]
        have := plR_j (fun r => cR b r + plD fr cL cP cR dg u b (l + u j - u r)) (fun r => dg r (l + u j)) 4 0 (cL b + plD fr cL cP cR dg u b (l + u j)) j (by omega) (by omega) hpos
        rw [Nat.add_sub_cancel] at this
        have es : dcR (rsR R dg l) j = rsR R dg (l + u j) := by
          funext i
          unfold dcR rsR
          by_cases hi : i = j
          · subst hi
            rw [if_pos rfl, if_pos hj, if_pos hj, q2 i hj, if_pos rfl]; omega
          · rw [if_neg hi]
            by_cases h4 : i < 4
            · rw [if_pos h4, if_pos h4, q2 i h4, if_neg hi]
            · rw [if_neg h4, if_neg h4]
        rw [e] at i0
        rw [es] at i0
        omega
    · refine ⟨l, hl, ?_⟩
      rw [plD, if_neg c]
      rw [e8, plB, e7, if_neg c] at i0
      omega
/-- the greatest of the loads -/
def mxD (f : Nat → Int) : Nat → Nat → Int → Int
  | 0, _, a => a
  | n + 1, l, a => mxD f n (l + 1) (max a (f l))
theorem mxD_le {f : Nat → Int} {z : Int} : ∀ n l a, a ≤ z → (∀ j, l ≤ j → j < l + n → f j ≤ z) → mxD f n l a ≤ z
  | 0, _, _, h, _ => h
  | n + 1, l, a, h, hj => by
    rw [mxD]
    have := hj l (by omega) (by omega)
    exact mxD_le n (l + 1) _ (by omega) (fun j h1 h2 => hj j (by omega) (by omega))
theorem mxD_ge {f : Nat → Int} : ∀ n l a, a ≤ mxD f n l a ∧ ∀ j, l ≤ j → j < l + n → f j ≤ mxD f n l a
  | 0, l, a => ⟨Int.le_refl a, fun j h1 h2 => by omega⟩
  | n + 1, l, a => by
    rw [mxD]
    obtain ⟨h1, h2⟩ := mxD_ge (f := f) n (l + 1) (max a (f l))
    refine ⟨by omega, fun j j1 j2 => ?_⟩
    by_cases e : j = l
    · subst e; omega
    · exact h2 j (by omega) (by omega)
theorem pl_mx (hc : cOk cL cP cR) (hd : dgL dg u R N) : mxD (plD fr cL cP cR dg u 8) N 0 (-1000000000000000) = plB fr cL cP cR 8 R := by
  have h2 := plB_b fr cL cP cR hc 8 R (by omega)
  have up : ∀ j, j < N → plD fr cL cP cR dg u 8 j ≤ plB fr cL cP cR 8 R := fun j hj => by
    have := pl_up (fr := fr) hc hd 8 (by omega) j hj
    have this : plD fr cL cP cR dg u 8 j + 0 ≤ plB fr cL cP cR 8 R := this
    omega
  obtain ⟨l, hl, ha⟩ := pl_at (fr := fr) (cL := cL) (cP := cP) (cR := cR) hd 8 (by omega)
  have ha : plB fr cL cP cR 8 R ≤ plD fr cL cP cR dg u 8 l + 0 := ha
  have l1 := mxD_le (f := plD fr cL cP cR dg u 8) (z := plB fr cL cP cR 8 R) N 0 (-1000000000000000) (by omega) (fun j _ h => up j (by omega))
  have l2 := (mxD_ge (f := plD fr cL cP cR dg u 8) N 0 (-1000000000000000)).2 l (by omega) (by omega)
  omega
end PLN
/-! the digits of four rows -/
def unR (R : Nat → Nat) : Nat → Nat
  | 0 => 1
  | r + 1 => unR R r * (R r + 1)
def dgR (R : Nat → Nat) (r l : Nat) : Nat := l / unR R r % (R r + 1)
theorem unR_pos (R : Nat → Nat) : ∀ r, 0 < unR R r
  | 0 => Nat.one_pos
  | r + 1 => by rw [unR]; exact Nat.mul_pos (unR_pos R r) (by omega)
/-- a load by its rest and digits -/
theorem dg_split (R : Nat → Nat) (r l : Nat) : l / unR R r = dgR R r l + (R r + 1) * (l / unR R (r + 1)) := by
  unfold dgR
  rw [unR, ← Nat.div_div_eq_div_mul]
  have := Nat.div_add_mod (l / unR R r) (R r + 1)
  omega
theorem div_unit (R : Nat → Nat) {r l : Nat} (hd : 0 < l / unR R r) : (l - unR R r) / unR R r = l / unR R r - 1 := by
  have := Nat.sub_mul_div l (unR R r) 1
  rw [Nat.mul_one] at this
  exact this
theorem un_dvd (R : Nat → Nat) {i : Nat} : ∀ {r : Nat}, i ≤ r → unR R i ∣ unR R r
  | 0, h => by
    obtain rfl : i = 0 := by omega
    exact Nat.dvd_refl _
  | r + 1, h => by
    by_cases e : i = r + 1
    · subst e; exact Nat.dvd_refl _
    · exact Nat.dvd_trans (un_dvd R (r := r) (by omega)) ⟨R r + 1, rfl⟩
theorem dg_add (R : Nat → Nat) {r l : Nat} (h : dgR R r l < R r) : (∀ i, dgR R i (l + unR R r) = if i = r then dgR R i l + 1 else dgR R i l) ∧ ∀ j, r < j → (l + unR R r) / unR R j = l / unR R j := by
  have hu := unR_pos R r
  have e1 : (l + unR R r) / unR R r = l / unR R r + 1 := Nat.add_div_right l hu
  have hmod : (l / unR R r + 1) % (R r + 1) = l / unR R r % (R r + 1) + 1 ∧ (l / unR R r + 1) / (R r + 1) = l / unR R r / (R r + 1) := by
    unfold dgR at h
    have hx := Nat.div_add_mod (l / unR R r) (R r + 1)
    generalize l / unR R r = x at h hx ⊢
    have h0 : 0 < R r + 1 := by omega
    have e : x + 1 = (x % (R r + 1) + 1) + (R r + 1) * (x / (R r + 1)) := by omega
    constructor
    · rw [e, Nat.add_mul_mod_self_left, Nat.mod_eq_of_lt (by omega)]
    · conv => lhs; rw [e]
      rw [Nat.add_mul_div_left _ _ h0, Nat.div_eq_of_lt (by omega), Nat.zero_add]
  have hup : ∀ d, (l + unR R r) / unR R (r + 1 + d) = l / unR R (r + 1 + d) := by
    intro d
    induction d with
    | zero => rw [Nat.add_zero, unR, ← Nat.div_div_eq_div_mul, ← Nat.div_div_eq_div_mul, e1]; exact hmod.2
    | succ d ih => rw [show r + 1 + (d + 1) = (r + 1 + d) + 1 by omega, unR, ← Nat.div_div_eq_div_mul, ← Nat.div_div_eq_div_mul, ih]
  have hup2 : ∀ j, r < j → (l + unR R r) / unR R j = l / unR R j := fun j hj => by
    obtain ⟨d, rfl⟩ : ∃ d, j = r + 1 + d := ⟨j - (r + 1), by omega⟩
    exact hup d
  refine ⟨fun i => ?_, hup2⟩
  by_cases e : i = r
  · subst e
    rw [if_pos rfl]
    unfold dgR
    rw [e1]; exact hmod.1
  · rw [if_neg e]
    by_cases c : r < i
    · unfold dgR; rw [hup2 i c]
    · obtain ⟨q, hq⟩ := un_dvd R (i := i + 1) (r := r) (by omega)
      unfold dgR
      rw [hq, unR, Nat.mul_assoc, Nat.add_mul_div_left _ _ (unR_pos R i), Nat.add_mul_mod_self_left]
theorem dg_sub (R : Nat → Nat) {r l : Nat} (h : 0 < dgR R r l) : unR R r ≤ l ∧ ∀ i, dgR R i (l - unR R r) = if i = r then dgR R i l - 1 else dgR R i l := by
  have hu := unR_pos R r
  have hle : unR R r ≤ l := by
    by_cases c : unR R r ≤ l
    · exact c
    · unfold dgR at h
      rw [Nat.div_eq_of_lt (by omega), Nat.zero_mod] at h
      omega
  have hx : dgR R r (l - unR R r) < R r := by
    have hq : 0 < l / unR R r := Nat.div_pos hle hu
    unfold dgR at h ⊢
    rw [div_unit R hq]
    have hdm := Nat.div_add_mod (l / unR R r) (R r + 1)
    have hlt := Nat.mod_lt (l / unR R r) (show 0 < R r + 1 by omega)
    generalize l / unR R r = x at h hq hdm hlt ⊢
    have e : x - 1 = (x % (R r + 1) - 1) + (R r + 1) * (x / (R r + 1)) := by omega
    rw [e, Nat.add_mul_mod_self_left, Nat.mod_eq_of_lt (by omega)]
    omega
  have := (dg_add R hx).1
  rw [Nat.sub_add_cancel hle] at this
  refine ⟨hle, fun i => ?_⟩
  have e := this i
  by_cases c : i = r
  · rw [if_pos c] at e ⊢; omega
  · rw [if_neg c] at e ⊢; exact e.symm
theorem dg_law (R : Nat → Nat) : dgL (dgR R) (unR R) R (unR R 4) := by
  refine ⟨unR_pos R 4, fun r _ => ?_, fun l r _ _ => ?_, fun l r hl hr h => ?_, fun l r hl hr h => ?_⟩
  · unfold dgR; rw [Nat.zero_div, Nat.zero_mod]
  · unfold dgR
    have := Nat.mod_lt (l / unR R r) (show 0 < R r + 1 by omega)
    omega
  · obtain ⟨h1, h2⟩ := dg_sub R h
    exact ⟨by omega, fun i _ => h2 i⟩
  · obtain ⟨h1, h2⟩ := dg_add R h
    refine ⟨?_, fun i _ => h1 i⟩
    have := h2 4 hr
    rw [Nat.div_eq_of_lt hl] at this
    exact Nat.lt_of_div_eq_zero (unR_pos R 4) this
