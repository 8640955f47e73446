/-! Pure: the steps done alike -/
section WKR
variable {a : IA} {T nc ns ng : Nat} {lw : List Int32} {l : List St}
theorem stB_rel (h : Tw a T nc ns ng) (hT : isCity T) (hl : ∀ v, v ∈ l → stV ns v) : ∀ v, v ∈ l → ∀ f g, Rw ns f g → (stpB a T lw f v).1 = (mSb a ns lw g v).1 ∧ Rw ns (stpB a T lw f v).2 (mSb a ns lw g v).2 := by
  intro v hv f g hR
  have r := st_rel (lw := lw) h hT hR (hl v hv)
  unfold stpB mSb
  exact ⟨by rw [r.1], r.2⟩
end WKR
