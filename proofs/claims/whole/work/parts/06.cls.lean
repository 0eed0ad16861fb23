/-- what the tables say of a class by its number -/
theorem sd_cls : ∀ ci, ci < 12 → vwCl[ci]? = some (mm_Rn ci, mm_T ci, mm_N ci) ∧ (∀ w ∈ u_ws (mm_Rn ci) (mm_T ci) (mm_N ci), w ∈ lw_tbl ∧ goodWord w = true) ∧ (∀ k, k < mm_N ci → parseFieldDescriptor (mm_T ci k).2.2.1 = some (mm_ty ci k)) ∧ (∀ a, a < mm_N ci → ∀ b, b < mm_N ci → a ≠ b → (mm_T ci a).2.1 ≠ (mm_T ci b).2.1) ∧ (∀ k, k < mm_N ci → (mm_T ci k).1 = mm_Rn ci) := by
  intro ci h
  rcases (show ci = 0 ∨ ci = 1 ∨ ci = 2 ∨ ci = 3 ∨ ci = 4 ∨ ci = 5 ∨ ci = 6 ∨ ci = 7 ∨ ci = 8 ∨ ci = 9 ∨ ci = 10 ∨ ci = 11 by omega) with rfl | rfl | rfl | rfl | rfl | rfl | rfl | rfl | rfl | rfl | rfl | rfl
  · exact ⟨rfl, by decide +kernel, tyX0_ok, nmX0, by decide +kernel⟩
  · exact ⟨rfl, by decide +kernel, tyX1_ok, nmX1, by decide +kernel⟩
  · exact ⟨rfl, by decide +kernel, tyX2_ok, nmX2, by decide +kernel⟩
  · exact ⟨rfl, by decide +kernel, tyX3_ok, nmX3, by decide +kernel⟩
  · exact ⟨rfl, by decide +kernel, tyX4_ok, nmX4, by decide +kernel⟩
  · exact ⟨rfl, by decide +kernel, tyX5_ok, nmX5, by decide +kernel⟩
  · exact ⟨rfl, by decide +kernel, tyX6_ok, nmX6, by decide +kernel⟩
  · exact ⟨rfl, by decide +kernel, tyX7_ok, nmX7, by decide +kernel⟩
  · exact ⟨rfl, by decide +kernel, tyX8_ok, nmX8, by decide +kernel⟩
  · exact ⟨rfl, by decide +kernel, tyX9_ok, nmX9, by decide +kernel⟩
  · exact ⟨rfl, by decide +kernel, tyX10_ok, nmX10, by decide +kernel⟩
  · exact ⟨rfl, by decide +kernel, tyX11_ok, nmX11, by decide +kernel⟩
/-- a field's link by its numbers -/
def sd_fk (oc ix ci k : Nat) : Prop := ci < 12 ∧ k < mm_N ci ∧ ((Cond.fieldLink (mm_Rn oc) ix (mm_Rn ci) (mm_T ci k).2.1 (mm_T ci k).2.2.1 ∈ sd_gW) ∨ (Cond.fieldLinkNest (mm_Rn oc) ix (mm_Rn ci) (mm_T ci k).2.1 (mm_T ci k).2.2.1 "BuriedGoods" ∈ sd_nW))
/-- and may be written through it -/
def sd_fp (oc ix ci k : Nat) : Prop := sd_fk oc ix ci k ∧ ((mm_T ci k).2.2.2 = true → Cond.fieldLink (mm_Rn oc) ix (mm_Rn ci) (mm_T ci k).2.1 (mm_T ci k).2.2.1 ∈ sd_gW)
