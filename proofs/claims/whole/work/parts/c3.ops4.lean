/-! CALLS that ask, in the form of calls; append -/
section
variable {c : Nat} {σ : St}
theorem op_possible (hc : c < 512) (I : Inv c σ) (v : Int32) : ∃ A σ1, pf_X10_possible 0 v σ = some (A, σ1) ∧ ∀ σ2, Un oA σ1 σ2 → ∃ b σ3, pf_X11_possible 609 v σ2 = some (b, σ3) ∧ Agr fQ A b (gI σ3 609 0) ∧ IL c σ2 σ3 := qry1 (P := fun A b t => Agr fQ A b t) (ml := fun τ => pf_X11_possible 609 v τ) hc I fun rd τ X hB M => ag_possible X M v
theorem op_planLength (hc : c < 512) (I : Inv c σ) (v : Int32) : ∃ A σ1, pf_X10_planLength 0 v σ = some (A, σ1) ∧ ∀ σ2, Un oA σ1 σ2 → ∃ b σ3, pf_X11_planLength 609 v σ2 = some (b, σ3) ∧ Agr fQ A b (gI σ3 609 0) ∧ IL c σ2 σ3 := qry1 (P := fun A b t => Agr fQ A b t) (ml := fun τ => pf_X11_planLength 609 v τ) hc I fun rd τ X hB M => ag_planLength X M v
theorem op_safest (hc : c < 512) (I : Inv c σ) (v : Int32) : ∃ A σ1, pf_X10_safest 0 v σ = some (A, σ1) ∧ ∀ σ2, Un oA σ1 σ2 → ∃ b σ3, pf_X11_safest 609 v σ2 = some (b, σ3) ∧ Agr fQ A b (gI σ3 609 0) ∧ IL c σ2 σ3 := qry1 (P := fun A b t => Agr fQ A b t) (ml := fun τ => pf_X11_safest 609 v τ) hc I fun rd τ X hB M => ag_safest X M v
theorem op_planStep (hc : c < 512) (I : Inv c σ) (v k : Int32) : ∃ A σ1, pf_X10_planStep 0 v k σ = some (A, σ1) ∧ ∀ σ2, Un oA σ1 σ2 → ∃ b σ3, pf_X11_planStep 609 v k σ2 = some (b, σ3) ∧ Agr fQ A b (gI σ3 609 0) ∧ IL c σ2 σ3 := qry1 (P := fun A b t => Agr fQ A b t) (ml := fun τ => pf_X11_planStep 609 v k τ) hc I fun rd τ X hB M => ag_planStep X M v k
theorem op_endings (hc : c < 512) (I : Inv c σ) (v : Int32) : ∃ A σ1, pf_X10_endings 0 v σ = some (A, σ1) ∧ ∀ σ2, Un oA σ1 σ2 → ∃ b σ3, pf_X11_endings 609 v σ2 = some (b, σ3) ∧ Agr fQ A b (gI σ3 609 0) ∧ IL c σ2 σ3 := qry1 (P := fun A b t => Agr fQ A b t) (ml := fun τ => pf_X11_endings 609 v τ) hc I fun rd τ X hB M => ag_endings X M v
theorem op_worth (hc : c < 512) (I : Inv c σ) (v : Int32) : ∃ A σ1, pf_X10_worth 0 v σ = some (A, σ1) ∧ ∀ σ2, Un oA σ1 σ2 → ∃ b σ3, pf_X11_worth 609 v σ2 = some (b, σ3) ∧ Agr fQ A b (gI σ3 609 0) ∧ IL c σ2 σ3 := qry1 (P := fun A b t => Agr fQ A b t) (ml := fun τ => pf_X11_worth 609 v τ) hc I fun rd τ X hB M => ag_worth X M v
theorem op_lacking (hc : c < 512) (I : Inv c σ) (v w : Int32) : ∃ A σ1, pf_X10_lacking 0 v w σ = some (A, σ1) ∧ ∀ σ2, Un oA σ1 σ2 → ∃ b σ3, pf_X11_lacking 609 v w σ2 = some (b, σ3) ∧ Agr fQ A b (gI σ3 609 0) ∧ IL c σ2 σ3 := qry1 (P := fun A b t => Agr fQ A b t) (ml := fun τ => pf_X11_lacking 609 v w τ) hc I fun rd τ X hB M => ag_lacking X hB M v w
theorem op_state (hc : c < 512) (I : Inv c σ) (v : Int32) : ∃ A σ1, pf_X10_state 0 v σ = some (A, σ1) ∧ ∀ σ2, Un oA σ1 σ2 → ∃ b σ3, pf_X11_state 609 v σ2 = some (b, σ3) ∧ Agr fS A b (gI σ3 609 0) ∧ IL c σ2 σ3 := qry1 (P := fun A b t => Agr fS A b t) (ml := fun τ => pf_X11_state 609 v τ) hc I fun rd τ X hB M => ag_state X M v
theorem op_chance (hc : c < 512) (I : Inv c σ) (v : Int32) : ∃ A σ1, pf_X10_chance 0 v σ = some (A, σ1) ∧ ∀ σ2, Un oA σ1 σ2 → ∃ b σ3, pf_X11_chance 609 v σ2 = some (b, σ3) ∧ AgrD A b (gI σ3 609 0) ∧ IL c σ2 σ3 := qry1 (P := fun A b t => AgrD A b t) (ml := fun τ => pf_X11_chance 609 v τ) hc I fun rd τ X hB M => ag_chance X M v
theorem op_best (hc : c < 512) (I : Inv c σ) : ∃ A σ1, pf_X10_best 0 σ = some (A, σ1) ∧ ∀ σ2, Un oA σ1 σ2 → ∃ b σ3, pf_X11_best 609 σ2 = some (b, σ3) ∧ b = A ∧ IL c σ2 σ3 := qry1 (P := fun A b _ => b = A) (ml := fun τ => pf_X11_best 609 τ) hc I fun rd τ X hB M => by
  obtain ⟨b, σ', τ', g1, g2, g3, g4⟩ := ag_best X M
  exact ⟨b, b, σ', τ', g1, g2, g3, g4, rfl⟩
theorem op_campaign (hc : c < 512) (I : Inv c σ) : ∃ A σ1, pf_X10_campaign 0 σ = some (A, σ1) ∧ ∀ σ2, Un oA σ1 σ2 → ∃ b σ3, pf_X11_campaign 609 σ2 = some (b, σ3) ∧ b = A ∧ IL c σ2 σ3 := qry1 (P := fun A b _ => b = A) (ml := fun τ => pf_X11_campaign 609 τ) hc I fun rd τ X hB M => by
  obtain ⟨b, σ', τ', g1, g2, g3, g4⟩ := ag_campaign X (by omega) M
  exact ⟨b, b, σ', τ', g1, g2, g3, g4, rfl⟩
theorem op_progress (hc : c < 512) (I : Inv c σ) : ∃ (x : UInt32) (σ1 : St), pf_X10_progress 0 σ = some (.inr x, σ1) ∧ x &&& 0x7fffffff ≤ 0x7f800000 ∧ ∀ σ2, Un oA σ1 σ2 → ∃ b σ3, pf_X11_progress 609 σ2 = some (b, σ3) ∧ b = x ∧ IL c σ2 σ3 := by
  obtain ⟨A, σ1, g1, g2⟩ := qry1 (P := fun A b _ => A = Sum.inr b ∧ b &&& 0x7fffffff ≤ 0x7f800000) (cl := pf_X10_progress 0 σ) (ml := fun τ => pf_X11_progress 609 τ) hc I fun rd τ X hB M => by
    obtain ⟨x, σ', τ', h1, h2, h3, h4, h5⟩ := ag_progress X M
    exact ⟨.inr x, x, σ', τ', h1, h2, h3, h4, rfl, h5⟩
  obtain ⟨b0, _, _, ⟨e0, l0⟩, _⟩ := g2 σ1 (Un.refl _ _)
  subst e0
  refine ⟨b0, σ1, g1, l0, fun σ2 u => ?_⟩
  obtain ⟨b, σ3, k1, ⟨k2, _⟩, k3⟩ := g2 σ2 u
  cases k2
  exact ⟨_, σ3, k1, rfl, k3⟩
theorem op_checksum (hc : c < 512) (I : Inv c σ) : ∃ (x : Int64) (σ1 : St), pf_X10_checksum 0 σ = some (.inr x, σ1) ∧ ∀ σ2, Un oA σ1 σ2 → ∃ b σ3, pf_X11_checksum 609 σ2 = some (b, σ3) ∧ b = x ∧ IL c σ2 σ3 := by
  obtain ⟨A, σ1, g1, g2⟩ := qry1 (P := fun A b _ => A = Sum.inr b) (cl := pf_X10_checksum 0 σ) (ml := fun τ => pf_X11_checksum 609 τ) hc I fun rd τ X hB M => by
    obtain ⟨x, σ', τ', h1, h2, h3, h4⟩ := ag_checksum X M
    exact ⟨.inr x, x, σ', τ', h1, h2, h3, h4, rfl⟩
  obtain ⟨b0, _, _, e0, _⟩ := g2 σ1 (Un.refl _ _)
  subst e0
  refine ⟨b0, σ1, g1, fun σ2 u => ?_⟩
  obtain ⟨b, σ3, k1, k2, k3⟩ := g2 σ2 u
  cases k2
  exact ⟨_, σ3, k1, rfl, k3⟩
theorem op_stock (hc : c < 512) (I : Inv c σ) (v : Int32) : ∃ A, pf_X10_stock 0 v σ = some A ∧ ∀ σ2, Un oA σ σ2 → ∃ b σ3, pf_X11_stock 609 v σ2 = some (b, σ3) ∧ Agr fQ A b (gI σ3 609 0) ∧ IL c σ2 σ3 := qry0 (P := fun A b t => Agr fQ A b t) (ml := fun τ => pf_X11_stock 609 v τ) hc I fun rd τ X M => ag_stock X M v
theorem op_quest (hc : c < 512) (I : Inv c σ) (v w : Int32) : ∃ A, pf_X10_quest 0 v w σ = some A ∧ ∀ σ2, Un oA σ σ2 → ∃ b σ3, pf_X11_quest 609 v w σ2 = some (b, σ3) ∧ Agr fQ A b (gI σ3 609 0) ∧ IL c σ2 σ3 := qry0 (P := fun A b t => Agr fQ A b t) (ml := fun τ => pf_X11_quest 609 v w τ) hc I fun rd τ X M => ag_quest X M v w
theorem op_step (hc : c < 512) (I : Inv c σ) (v w y : Int32) : ∃ A, pf_X10_step 0 v w y σ = some A ∧ ∀ σ2, Un oA σ σ2 → ∃ b σ3, pf_X11_step 609 v w y σ2 = some (b, σ3) ∧ Agr fQ A b (gI σ3 609 0) ∧ IL c σ2 σ3 := qry0 (P := fun A b t => Agr fQ A b t) (ml := fun τ => pf_X11_step 609 v w y τ) hc I fun rd τ X M => ag_step X M v w y
theorem op_amount (hc : c < 512) (I : Inv c σ) (v w y z : Int32) : ∃ A, pf_X10_amount 0 v w y z σ = some A ∧ ∀ σ2, Un oA σ σ2 → ∃ b σ3, pf_X11_amount 609 v w y z σ2 = some (b, σ3) ∧ Agr fQ A b (gI σ3 609 0) ∧ IL c σ2 σ3 := qry0 (P := fun A b t => Agr fQ A b t) (ml := fun τ => pf_X11_amount 609 v w y z τ) hc I fun rd τ X M => ag_amount X M v w y z
theorem op_why (hc : c < 512) (I : Inv c σ) (v w : Int32) : ∃ A, pf_X10_why 0 v w σ = some A ∧ ∀ σ2, Un oA σ σ2 → ∃ b σ3, pf_X11_why 609 v w σ2 = some (b, σ3) ∧ Agr fQ A b (gI σ3 609 0) ∧ IL c σ2 σ3 := qry0 (P := fun A b t => Agr fQ A b t) (ml := fun τ => pf_X11_why 609 v w τ) hc I fun rd τ X M => ag_why X M v w
theorem op_holds (hc : c < 512) (I : Inv c σ) (v w : Int32) : ∃ A, pf_X10_holds 0 v w σ = some A ∧ ∀ σ2, Un oA σ σ2 → ∃ b σ3, pf_X11_holds 609 v w σ2 = some (b, σ3) ∧ Agr fQ A b (gI σ3 609 0) ∧ IL c σ2 σ3 := qry0 (P := fun A b t => Agr fQ A b t) (ml := fun τ => pf_X11_holds 609 v w τ) hc I fun rd τ X M => ag_holds X M v w
theorem op_errorOffset (I : Inv c σ) : ∃ A, pf_X10_errorOffset 0 σ = some A ∧ ∀ σ2, Un oA σ σ2 → ∃ b σ3, pf_X11_errorOffset 609 σ2 = some (b, σ3) ∧ b = A ∧ IL c σ2 σ3 := by
  obtain ⟨⟨fed, h1, h2, h3, h4, h5⟩, _⟩ := id I
  obtain ⟨_, g1, _, _⟩ := ag_errorOffset (τ := σ) h5
  refine ⟨_, g1, fun σ2 u => ?_⟩
  obtain ⟨τ', k1, k2, k3⟩ := ag_errorOffset (σ := σ) (τ := σ2) (by rw [u.I (by unfold oA; omega)]; exact h5)
  exact ⟨_, τ', k2, rfl, I.no (Un.refl _ _) u k3⟩
end
