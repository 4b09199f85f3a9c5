/-! ===== both hold the same ===== -/
section ST
variable {σ σ' : Hp} {T : Td}
theorem FM_f {a b : Nat} (h : a < 71) : FM a b = false := ble_f h
theorem CI.fm (h : CI σ T) (hF : Fr FM σ σ') : CI σ' T := by
  rcases h with ⟨h1, h2⟩ | ⟨h1, h2⟩
  · exact Or.inl ⟨h1.fr hF (fun a b hk => FM_f (by unfold KT at hk; omega)), by rw [hF.i rfl]; exact h2⟩
  · refine Or.inr ⟨h1.fr hF (fun a b hk => FM_f (by unfold KS at hk; omega)), ?_⟩
    unfold CCh CHc
    rw [hF.i rfl, hF.r (fun b => rfl)]
    exact h2
def CL : Nat → Nat → Bool := fun a _ => Nat.ble a 70
theorem CL_ge {a b : Nat} (h : CL a b = false) : 71 ≤ a := by
  rcases Nat.lt_or_ge a 71 with h1 | h1
  · have : CL a b = true := Nat.ble_eq_true_of_le (by omega)
    rw [this] at h; cases h
  · exact h1
theorem isL_ge {a b : Nat} (h : 71 ≤ a) : isL a b = false := by
  unfold isL
  rw [beq_f (a := a) (b := 31) (by omega), beq_f (a := a) (b := 43) (by omega), beq_f (a := a) (b := 23) (by omega), beq_f (a := a) (b := 35) (by omega)]; rfl
theorem Cls.fr (h : Cls σ σ') : Fr CL σ σ' := fun a b hb => ⟨h a b (CL_ge hb), fun q => by rw [isL_ge (CL_ge hb)] at q; cases q⟩
theorem MTd.cl (h : MTd σ T) (hC : Cls σ σ') : MTd σ' T := h.fr hC.fr
/-- what holds between calls -/
def Inv (σ : Hp) : Prop := ∃ T, CI σ T ∧ MTd σ T ∧ Tok T
end ST
