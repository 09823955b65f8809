/-! THE START IS RELATED -/
set_option maxRecDepth 100000 in
theorem rel0 : Rel 0 sg0 rg0 := by
  have hJ : (V rg0 40 34).toNatClampNeg = 0 := by decide +kernel
  have hz : ∀ z, z < 8 → sg0 4 0 0 z = V rg0 101 z ||| bit z ∧ sg0 5 0 0 z = V rg0 102 z := by decide +kernel
  have hz1 : ∀ z, z < 8 → V rg0 101 z &&& bit z = 0 := by decide +kernel
  have hz2 : ∀ z, z < 8 → ∀ w, w < 8 → (V rg0 101 z &&& bit w = 0 ↔ V rg0 101 w &&& bit z = 0) := by decide +kernel
  have hd : ∀ a, a < 3 → ∀ b, b < 3 → a ≠ b → hold (V rg0) a &&& hold (V rg0) b = 0 := by decide +kernel
  have hc : ∀ b, b < 3 → 0 = cntB (V rg0) 128 b ∧ 0 = cntB (V rg0) 127 b := by decide +kernel
  refine ⟨fun c q => ⟨rfl, fun a r => ?_⟩, ⟨⟨?_, ⟨?_, hz⟩, ⟨⟨0, by decide, rfl⟩, 0, by decide, rfl, rfl, fun i w q => by simp at q⟩, fun a q => ?_, fun b q => ?_, fun j q => by rw [hJ] at q; omega⟩, ?_⟩, ⟨0, 0, by decide, by decide, rfl, rfl, rfl, fun j q => by omega⟩, ⟨rfl, Or.inl rfl⟩, 0, by decide, rfl, rfl, fun k q => by omega⟩
  · match a, r with
    | 0, _ => rfl
    | 1, _ => rfl
    | 2, _ => rfl
  · exact ⟨rfl, rfl, rfl, rfl, rfl, rfl, rfl⟩
  · decide +kernel
  · match a, q with
    | 0, _ => unfold RArm; decide +kernel
    | 1, _ => unfold RArm; decide +kernel
    | 2, _ => unfold RArm; decide +kernel
  · match b, q with
    | 0, _ => unfold RSto; decide +kernel
    | 1, _ => unfold RSto; decide +kernel
    | 2, _ => unfold RSto; decide +kernel
  · refine ⟨0, by decide, rfl, fun j q => by omega, fun a q => ?_, fun b q => ?_, ⟨fun z q => ⟨hz1 z q, 0, by decide, ?_⟩, fun z w q r => hz2 z q w r⟩, fun a b q r t => hd a q b r t⟩
    · refine ⟨Or.inl ?_, 0, ?_, Nat.le_refl _, fun k r => by omega⟩
      · match a, q with
        | 0, _ => decide +kernel
        | 1, _ => decide +kernel
        | 2, _ => decide +kernel
      · rfl
    · refine ⟨2, 0, 0, 0, ?_, rfl, rfl, rfl, by decide, by decide, by decide, (hc b q).1, (hc b q).2, fun k hk => by omega⟩
      match b, q with
      | 0, _ => rfl
      | 1, _ => rfl
      | 2, _ => rfl
    · rfl
