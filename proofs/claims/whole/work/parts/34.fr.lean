/-! WHAT STAYS: memories that agree outside W -/
def fr (W : Nat → Nat → Bool) (m m' : mm_MM) : Prop := (∀ a k, W a k = false → m'.1 a k = m.1 a k) ∧ (∀ a k, W a k = false → m'.2 a k = m.2 a k)
theorem fr_refl (W : Nat → Nat → Bool) (m : mm_MM) : fr W m m := ⟨fun _ _ _ => rfl, fun _ _ _ => rfl⟩
theorem fr_trans {W : Nat → Nat → Bool} {m m1 m2 : mm_MM} (h : fr W m m1) (h' : fr W m1 m2) : fr W m m2 := ⟨fun a k z => (h'.1 a k z).trans (h.1 a k z), fun a k z => (h'.2 a k z).trans (h.2 a k z)⟩
theorem fr_mono {W W' : Nat → Nat → Bool} {m m' : mm_MM} (hW : ∀ a k, W' a k = false → W a k = false) (h : fr W m m') : fr W' m m' := ⟨fun a k z => h.1 a k (hW a k z), fun a k z => h.2 a k (hW a k z)⟩
theorem wI_1 (m : mm_MM) (a k : Nat) (v : Int32) (i j : Nat) : (wI m a k v).1 i j = if i = a ∧ j = k then v else m.1 i j := rfl
theorem wI_2 (m : mm_MM) (a k : Nat) (v : Int32) : (wI m a k v).2 = m.2 := rfl
theorem wL_1 (m : mm_MM) (a k : Nat) (v : Int64) : (wL m a k v).1 = m.1 := rfl
theorem wL_2 (m : mm_MM) (a k : Nat) (v : Int64) (i j : Nat) : (wL m a k v).2 i j = if i = a ∧ j = k then v else m.2 i j := rfl
theorem wI_ne {m : mm_MM} {a k : Nat} {v : Int32} {i j : Nat} (h : ¬ i = a) : (wI m a k v).1 i j = m.1 i j := if_neg fun z => h z.1
theorem wI_nk {m : mm_MM} {a k : Nat} {v : Int32} {i j : Nat} (h : ¬ j = k) : (wI m a k v).1 i j = m.1 i j := if_neg fun z => h z.2
theorem wI_eq {m : mm_MM} {a k : Nat} {v : Int32} : (wI m a k v).1 a k = v := if_pos ⟨rfl, rfl⟩
theorem fr_wI {W : Nat → Nat → Bool} {m0 m : mm_MM} {a k : Nat} {v : Int32} (h : fr W m0 m) (hW : W a k = true) : fr W m0 (wI m a k v) := by
  refine ⟨fun i j z => ?_, h.2⟩
  rw [wI_1, if_neg]
  · exact h.1 i j z
  · rintro ⟨rfl, rfl⟩
    rw [hW] at z; cases z
theorem fr_wL {W : Nat → Nat → Bool} {m0 m : mm_MM} {a k : Nat} {v : Int64} (h : fr W m0 m) (hW : W a k = true) : fr W m0 (wL m a k v) := by
  refine ⟨h.1, fun i j z => ?_⟩
  rw [wL_2, if_neg]
  · exact h.2 i j z
  · rintro ⟨rfl, rfl⟩
    rw [hW] at z; cases z
