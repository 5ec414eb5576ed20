/-! THE LAW: a helper and the reference, joined (by wip/whole/gen/lawgen2.py) -/
theorem s_load {c : Nat} {σ : St} (hc : c < 512) (I : Inv c σ) (v1 : Int32) : ∃ (k0 : Int32) (σ2 σ3 : St) (b : Int32), (∀ (G : Gt) (l : Launch), CtL G l yL_load cL_load 4 [(0, 9, 12, 13)] 33 [.ref (gz G + 0), .int v1, .ref (gz G + 620)] σ k0 σ2) ∧ pf_X11_load 609 v1 σ2 = some (b, σ3) ∧ gI σ3 609 0 = k0 ∧ (k0 = 0 → gL σ3 620 0 = b.toInt64) ∧ Inv (c + 1) σ3 := by
  obtain ⟨A, σ1, e, g⟩ := op_load hc I v1
  cases A with
  | inr r =>
    obtain ⟨b, σ3, g1, ⟨g2, g3⟩, g4, g5⟩ := g (sL σ1 620 0 r.toInt64) (Un.sL 0 _ (Or.inl rfl))
    exact ⟨0, _, σ3, b, fun G l => c_L_load e, g1, g2, fun _ => by rw [g5.1, gL_at, g3], g4⟩
  | inl k =>
    obtain ⟨b, σ3, g1, g2, g4, g5⟩ := g σ1 (Un.refl _ _)
    have hk := K_load _ _ k σ1 e
    have hk : k = 1 := of_decide_eq_true hk
    rcases hk with rfl
    · exact ⟨1, σ1, σ3, b, fun G l => x_L_load_1 e, g1, g2, fun z => absurd z (by decide), g4⟩
theorem s_state {c : Nat} {σ : St} (hc : c < 512) (I : Inv c σ) (v1 : Int32) : ∃ (k0 : Int32) (σ2 σ3 : St) (b : Int32), (∀ (G : Gt) (l : Launch), CtL G l yL_state cL_state 4 [(0, 9, 12, 13)] 10 [.ref (gz G + 0), .int v1, .ref (gz G + 620)] σ k0 σ2) ∧ pf_X11_state 609 v1 σ2 = some (b, σ3) ∧ gI σ3 609 0 = k0 ∧ (k0 = 0 → gL σ3 620 0 = b.toInt64) ∧ Inv (c + 1) σ3 := by
  obtain ⟨A, σ1, e, g⟩ := op_state hc I v1
  cases A with
  | inr r =>
    obtain ⟨b, σ3, g1, ⟨g2, g3⟩, g4, g5⟩ := g (sL σ1 620 0 r.toInt64) (Un.sL 0 _ (Or.inl rfl))
    exact ⟨0, _, σ3, b, fun G l => c_L_state e, g1, g2, fun _ => by rw [g5.1, gL_at, g3], g4⟩
  | inl k =>
    obtain ⟨b, σ3, g1, g2, g4, g5⟩ := g σ1 (Un.refl _ _)
    have hk := K_state _ _ k σ1 e
    have hk : k = 1 := of_decide_eq_true hk
    rcases hk with rfl
    · exact ⟨1, σ1, σ3, b, fun G l => x_L_state_1 e, g1, g2, fun z => absurd z (by decide), g4⟩
theorem s_stock {c : Nat} {σ : St} (hc : c < 512) (I : Inv c σ) (v1 : Int32) : ∃ (k0 : Int32) (σ2 σ3 : St) (b : Int32), (∀ (G : Gt) (l : Launch), CtL G l yL_stock cL_stock 4 [(0, 9, 12, 21)] 10 [.ref (gz G + 0), .int v1, .ref (gz G + 620)] σ k0 σ2) ∧ pf_X11_stock 609 v1 σ2 = some (b, σ3) ∧ gI σ3 609 0 = k0 ∧ (k0 = 0 → gL σ3 620 0 = b.toInt64) ∧ Inv (c + 1) σ3 := by
  obtain ⟨A, e, g⟩ := op_stock hc I v1
  cases A with
  | inr r =>
    obtain ⟨b, σ3, g1, ⟨g2, g3⟩, g4, g5⟩ := g (sL σ 620 0 r.toInt64) (Un.sL 0 _ (Or.inl rfl))
    exact ⟨0, _, σ3, b, fun G l => c_L_stock e, g1, g2, fun _ => by rw [g5.1, gL_at, g3], g4⟩
  | inl k =>
    obtain ⟨b, σ3, g1, g2, g4, g5⟩ := g σ (Un.refl _ _)
    have hk := K_stock _ _ k e
    have hk : k = 2 := of_decide_eq_true hk
    rcases hk with rfl
    · exact ⟨1, σ, σ3, b, fun G l => x_L_stock_2 e, g1, g2, fun z => absurd z (by decide), g4⟩
theorem s_quest {c : Nat} {σ : St} (hc : c < 512) (I : Inv c σ) (v1 v2 : Int32) : ∃ (k0 : Int32) (σ2 σ3 : St) (b : Int32), (∀ (G : Gt) (l : Launch), CtL G l yL_quest cL_quest 5 [(0, 10, 13, 21), (0, 10, 17, 13)] 10 [.ref (gz G + 0), .int v1, .int v2, .ref (gz G + 620)] σ k0 σ2) ∧ pf_X11_quest 609 v1 v2 σ2 = some (b, σ3) ∧ gI σ3 609 0 = k0 ∧ (k0 = 0 → gL σ3 620 0 = b.toInt64) ∧ Inv (c + 1) σ3 := by
  obtain ⟨A, e, g⟩ := op_quest hc I v1 v2
  cases A with
  | inr r =>
    obtain ⟨b, σ3, g1, ⟨g2, g3⟩, g4, g5⟩ := g (sL σ 620 0 r.toInt64) (Un.sL 0 _ (Or.inl rfl))
    exact ⟨0, _, σ3, b, fun G l => c_L_quest e, g1, g2, fun _ => by rw [g5.1, gL_at, g3], g4⟩
  | inl k =>
    obtain ⟨b, σ3, g1, g2, g4, g5⟩ := g σ (Un.refl _ _)
    have hk := K_quest _ _ _ k e
    have hk : k = 2 ∨ k = 1 := by
      rw [Bool.or_eq_true, decide_eq_true_eq, decide_eq_true_eq] at hk; exact hk
    rcases hk with rfl | rfl
    · exact ⟨1, σ, σ3, b, fun G l => x_L_quest_2 e, g1, g2, fun z => absurd z (by decide), g4⟩
    · exact ⟨2, σ, σ3, b, fun G l => x_L_quest_1 e, g1, g2, fun z => absurd z (by decide), g4⟩
theorem s_step {c : Nat} {σ : St} (hc : c < 512) (I : Inv c σ) (v1 v2 v3 : Int32) : ∃ (k0 : Int32) (σ2 σ3 : St) (b : Int32), (∀ (G : Gt) (l : Launch), CtL G l yL_step cL_step 6 [(0, 12, 15, 21), (0, 12, 19, 13)] 11 [.ref (gz G + 0), .int v1, .int v2, .int v3, .ref (gz G + 620)] σ k0 σ2) ∧ pf_X11_step 609 v1 v2 v3 σ2 = some (b, σ3) ∧ gI σ3 609 0 = k0 ∧ (k0 = 0 → gL σ3 620 0 = b.toInt64) ∧ Inv (c + 1) σ3 := by
  obtain ⟨A, e, g⟩ := op_step hc I v1 v2 v3
  cases A with
  | inr r =>
    obtain ⟨b, σ3, g1, ⟨g2, g3⟩, g4, g5⟩ := g (sL σ 620 0 r.toInt64) (Un.sL 0 _ (Or.inl rfl))
    exact ⟨0, _, σ3, b, fun G l => c_L_step e, g1, g2, fun _ => by rw [g5.1, gL_at, g3], g4⟩
  | inl k =>
    obtain ⟨b, σ3, g1, g2, g4, g5⟩ := g σ (Un.refl _ _)
    have hk := K_step _ _ _ _ k e
    have hk : k = 2 ∨ k = 1 := by
      rw [Bool.or_eq_true, decide_eq_true_eq, decide_eq_true_eq] at hk; exact hk
    rcases hk with rfl | rfl
    · exact ⟨1, σ, σ3, b, fun G l => x_L_step_2 e, g1, g2, fun z => absurd z (by decide), g4⟩
    · exact ⟨2, σ, σ3, b, fun G l => x_L_step_1 e, g1, g2, fun z => absurd z (by decide), g4⟩
theorem s_amount {c : Nat} {σ : St} (hc : c < 512) (I : Inv c σ) (v1 v2 v3 v4 : Int32) : ∃ (k0 : Int32) (σ2 σ3 : St) (b : Int32), (∀ (G : Gt) (l : Launch), CtL G l yL_amount cL_amount 7 [(0, 14, 17, 21), (0, 14, 21, 13)] 11 [.ref (gz G + 0), .int v1, .int v2, .int v3, .int v4, .ref (gz G + 620)] σ k0 σ2) ∧ pf_X11_amount 609 v1 v2 v3 v4 σ2 = some (b, σ3) ∧ gI σ3 609 0 = k0 ∧ (k0 = 0 → gL σ3 620 0 = b.toInt64) ∧ Inv (c + 1) σ3 := by
  obtain ⟨A, e, g⟩ := op_amount hc I v1 v2 v3 v4
  cases A with
  | inr r =>
    obtain ⟨b, σ3, g1, ⟨g2, g3⟩, g4, g5⟩ := g (sL σ 620 0 r.toInt64) (Un.sL 0 _ (Or.inl rfl))
    exact ⟨0, _, σ3, b, fun G l => c_L_amount e, g1, g2, fun _ => by rw [g5.1, gL_at, g3], g4⟩
  | inl k =>
    obtain ⟨b, σ3, g1, g2, g4, g5⟩ := g σ (Un.refl _ _)
    have hk := K_amount _ _ _ _ _ k e
    have hk : k = 2 ∨ k = 1 := by
      rw [Bool.or_eq_true, decide_eq_true_eq, decide_eq_true_eq] at hk; exact hk
    rcases hk with rfl | rfl
    · exact ⟨1, σ, σ3, b, fun G l => x_L_amount_2 e, g1, g2, fun z => absurd z (by decide), g4⟩
    · exact ⟨2, σ, σ3, b, fun G l => x_L_amount_1 e, g1, g2, fun z => absurd z (by decide), g4⟩
theorem s_why {c : Nat} {σ : St} (hc : c < 512) (I : Inv c σ) (v1 v2 : Int32) : ∃ (k0 : Int32) (σ2 σ3 : St) (b : Int32), (∀ (G : Gt) (l : Launch), CtL G l yL_why cL_why 5 [(0, 10, 13, 21)] 11 [.ref (gz G + 0), .int v1, .int v2, .ref (gz G + 620)] σ k0 σ2) ∧ pf_X11_why 609 v1 v2 σ2 = some (b, σ3) ∧ gI σ3 609 0 = k0 ∧ (k0 = 0 → gL σ3 620 0 = b.toInt64) ∧ Inv (c + 1) σ3 := by
  obtain ⟨A, e, g⟩ := op_why hc I v1 v2
  cases A with
  | inr r =>
    obtain ⟨b, σ3, g1, ⟨g2, g3⟩, g4, g5⟩ := g (sL σ 620 0 r.toInt64) (Un.sL 0 _ (Or.inl rfl))
    exact ⟨0, _, σ3, b, fun G l => c_L_why e, g1, g2, fun _ => by rw [g5.1, gL_at, g3], g4⟩
  | inl k =>
    obtain ⟨b, σ3, g1, g2, g4, g5⟩ := g σ (Un.refl _ _)
    have hk := K_why _ _ _ k e
    have hk : k = 2 := of_decide_eq_true hk
    rcases hk with rfl
    · exact ⟨1, σ, σ3, b, fun G l => x_L_why_2 e, g1, g2, fun z => absurd z (by decide), g4⟩
theorem s_holds {c : Nat} {σ : St} (hc : c < 512) (I : Inv c σ) (v1 v2 : Int32) : ∃ (k0 : Int32) (σ2 σ3 : St) (b : Int32), (∀ (G : Gt) (l : Launch), CtL G l yL_holds cL_holds 5 [(0, 17, 20, 21), (0, 17, 24, 13)] 10 [.ref (gz G + 0), .int v1, .int v2, .ref (gz G + 620)] σ k0 σ2) ∧ pf_X11_holds 609 v1 v2 σ2 = some (b, σ3) ∧ gI σ3 609 0 = k0 ∧ (k0 = 0 → gL σ3 620 0 = if b = 0 then 0 else 1) ∧ Inv (c + 1) σ3 := by
  obtain ⟨A, e, g⟩ := op_holds hc I v1 v2
  cases A with
  | inr r =>
    obtain ⟨b, σ3, g1, ⟨g2, g3⟩, g4, g5⟩ := g (sL σ 620 0 (if r = 0 then 0 else 1)) (Un.sL 0 _ (Or.inl rfl))
    exact ⟨0, _, σ3, b, fun G l => c_L_holds e rfl, g1, g2, fun _ => by rw [g5.1, gL_at, g3], g4⟩
  | inl k =>
    obtain ⟨b, σ3, g1, g2, g4, g5⟩ := g σ (Un.refl _ _)
    have hk := K_holds _ _ _ k e
    have hk : k = 2 ∨ k = 1 := by
      rw [Bool.or_eq_true, decide_eq_true_eq, decide_eq_true_eq] at hk; exact hk
    rcases hk with rfl | rfl
    · exact ⟨1, σ, σ3, b, fun G l => x_L_holds_2 e, g1, g2, fun z => absurd z (by decide), g4⟩
    · exact ⟨2, σ, σ3, b, fun G l => x_L_holds_1 e, g1, g2, fun z => absurd z (by decide), g4⟩
theorem s_possible {c : Nat} {σ : St} (hc : c < 512) (I : Inv c σ) (v1 : Int32) : ∃ (k0 : Int32) (σ2 σ3 : St) (b : Int32), (∀ (G : Gt) (l : Launch), CtL G l yL_possible cL_possible 4 [(0, 16, 19, 21)] 10 [.ref (gz G + 0), .int v1, .ref (gz G + 620)] σ k0 σ2) ∧ pf_X11_possible 609 v1 σ2 = some (b, σ3) ∧ gI σ3 609 0 = k0 ∧ (k0 = 0 → gL σ3 620 0 = if b = 0 then 0 else 1) ∧ Inv (c + 1) σ3 := by
  obtain ⟨A, σ1, e, g⟩ := op_possible hc I v1
  cases A with
  | inr r =>
    obtain ⟨b, σ3, g1, ⟨g2, g3⟩, g4, g5⟩ := g (sL σ1 620 0 (if r = 0 then 0 else 1)) (Un.sL 0 _ (Or.inl rfl))
    exact ⟨0, _, σ3, b, fun G l => c_L_possible e rfl, g1, g2, fun _ => by rw [g5.1, gL_at, g3], g4⟩
  | inl k =>
    obtain ⟨b, σ3, g1, g2, g4, g5⟩ := g σ1 (Un.refl _ _)
    have hk := K_possible _ _ k σ1 e
    have hk : k = 2 := of_decide_eq_true hk
    rcases hk with rfl
    · exact ⟨1, σ1, σ3, b, fun G l => x_L_possible_2 e, g1, g2, fun z => absurd z (by decide), g4⟩
theorem s_planLength {c : Nat} {σ : St} (hc : c < 512) (I : Inv c σ) (v1 : Int32) : ∃ (k0 : Int32) (σ2 σ3 : St) (b : Int32), (∀ (G : Gt) (l : Launch), CtL G l yL_planLength cL_planLength 4 [(0, 9, 12, 21)] 10 [.ref (gz G + 0), .int v1, .ref (gz G + 620)] σ k0 σ2) ∧ pf_X11_planLength 609 v1 σ2 = some (b, σ3) ∧ gI σ3 609 0 = k0 ∧ (k0 = 0 → gL σ3 620 0 = b.toInt64) ∧ Inv (c + 1) σ3 := by
  obtain ⟨A, σ1, e, g⟩ := op_planLength hc I v1
  cases A with
  | inr r =>
    obtain ⟨b, σ3, g1, ⟨g2, g3⟩, g4, g5⟩ := g (sL σ1 620 0 r.toInt64) (Un.sL 0 _ (Or.inl rfl))
    exact ⟨0, _, σ3, b, fun G l => c_L_planLength e, g1, g2, fun _ => by rw [g5.1, gL_at, g3], g4⟩
  | inl k =>
    obtain ⟨b, σ3, g1, g2, g4, g5⟩ := g σ1 (Un.refl _ _)
    have hk := K_planLength _ _ k σ1 e
    have hk : k = 2 := of_decide_eq_true hk
    rcases hk with rfl
    · exact ⟨1, σ1, σ3, b, fun G l => x_L_planLength_2 e, g1, g2, fun z => absurd z (by decide), g4⟩
theorem s_planStep {c : Nat} {σ : St} (hc : c < 512) (I : Inv c σ) (v1 v2 : Int32) : ∃ (k0 : Int32) (σ2 σ3 : St) (b : Int32), (∀ (G : Gt) (l : Launch), CtL G l yL_planStep cL_planStep 5 [(0, 10, 13, 21), (0, 10, 17, 52)] 10 [.ref (gz G + 0), .int v1, .int v2, .ref (gz G + 620)] σ k0 σ2) ∧ pf_X11_planStep 609 v1 v2 σ2 = some (b, σ3) ∧ gI σ3 609 0 = k0 ∧ (k0 = 0 → gL σ3 620 0 = b.toInt64) ∧ Inv (c + 1) σ3 := by
  obtain ⟨A, σ1, e, g⟩ := op_planStep hc I v1 v2
  cases A with
  | inr r =>
    obtain ⟨b, σ3, g1, ⟨g2, g3⟩, g4, g5⟩ := g (sL σ1 620 0 r.toInt64) (Un.sL 0 _ (Or.inl rfl))
    exact ⟨0, _, σ3, b, fun G l => c_L_planStep e, g1, g2, fun _ => by rw [g5.1, gL_at, g3], g4⟩
  | inl k =>
    obtain ⟨b, σ3, g1, g2, g4, g5⟩ := g σ1 (Un.refl _ _)
    have hk := K_planStep _ _ _ k σ1 e
    have hk : k = 2 ∨ k = 4 := by
      rw [Bool.or_eq_true, decide_eq_true_eq, decide_eq_true_eq] at hk; exact hk
    rcases hk with rfl | rfl
    · exact ⟨1, σ1, σ3, b, fun G l => x_L_planStep_2 e, g1, g2, fun z => absurd z (by decide), g4⟩
    · exact ⟨2, σ1, σ3, b, fun G l => x_L_planStep_4 e, g1, g2, fun z => absurd z (by decide), g4⟩
theorem s_safest {c : Nat} {σ : St} (hc : c < 512) (I : Inv c σ) (v1 : Int32) : ∃ (k0 : Int32) (σ2 σ3 : St) (b : Int32), (∀ (G : Gt) (l : Launch), CtL G l yL_safest cL_safest 4 [(0, 9, 12, 21)] 10 [.ref (gz G + 0), .int v1, .ref (gz G + 620)] σ k0 σ2) ∧ pf_X11_safest 609 v1 σ2 = some (b, σ3) ∧ gI σ3 609 0 = k0 ∧ (k0 = 0 → gL σ3 620 0 = b.toInt64) ∧ Inv (c + 1) σ3 := by
  obtain ⟨A, σ1, e, g⟩ := op_safest hc I v1
  cases A with
  | inr r =>
    obtain ⟨b, σ3, g1, ⟨g2, g3⟩, g4, g5⟩ := g (sL σ1 620 0 r.toInt64) (Un.sL 0 _ (Or.inl rfl))
    exact ⟨0, _, σ3, b, fun G l => c_L_safest e, g1, g2, fun _ => by rw [g5.1, gL_at, g3], g4⟩
  | inl k =>
    obtain ⟨b, σ3, g1, g2, g4, g5⟩ := g σ1 (Un.refl _ _)
    have hk := K_safest _ _ k σ1 e
    have hk : k = 2 := of_decide_eq_true hk
    rcases hk with rfl
    · exact ⟨1, σ1, σ3, b, fun G l => x_L_safest_2 e, g1, g2, fun z => absurd z (by decide), g4⟩
theorem s_endings {c : Nat} {σ : St} (hc : c < 512) (I : Inv c σ) (v1 : Int32) : ∃ (k0 : Int32) (σ2 σ3 : St) (b : Int32), (∀ (G : Gt) (l : Launch), CtL G l yL_endings cL_endings 4 [(0, 9, 12, 21)] 10 [.ref (gz G + 0), .int v1, .ref (gz G + 620)] σ k0 σ2) ∧ pf_X11_endings 609 v1 σ2 = some (b, σ3) ∧ gI σ3 609 0 = k0 ∧ (k0 = 0 → gL σ3 620 0 = b.toInt64) ∧ Inv (c + 1) σ3 := by
  obtain ⟨A, σ1, e, g⟩ := op_endings hc I v1
  cases A with
  | inr r =>
    obtain ⟨b, σ3, g1, ⟨g2, g3⟩, g4, g5⟩ := g (sL σ1 620 0 r.toInt64) (Un.sL 0 _ (Or.inl rfl))
    exact ⟨0, _, σ3, b, fun G l => c_L_endings e, g1, g2, fun _ => by rw [g5.1, gL_at, g3], g4⟩
  | inl k =>
    obtain ⟨b, σ3, g1, g2, g4, g5⟩ := g σ1 (Un.refl _ _)
    have hk := K_endings _ _ k σ1 e
    have hk : k = 2 := of_decide_eq_true hk
    rcases hk with rfl
    · exact ⟨1, σ1, σ3, b, fun G l => x_L_endings_2 e, g1, g2, fun z => absurd z (by decide), g4⟩
theorem s_lacking {c : Nat} {σ : St} (hc : c < 512) (I : Inv c σ) (v1 v2 : Int32) : ∃ (k0 : Int32) (σ2 σ3 : St) (b : Int32), (∀ (G : Gt) (l : Launch), CtL G l yL_lacking cL_lacking 5 [(0, 10, 13, 21)] 10 [.ref (gz G + 0), .int v1, .int v2, .ref (gz G + 620)] σ k0 σ2) ∧ pf_X11_lacking 609 v1 v2 σ2 = some (b, σ3) ∧ gI σ3 609 0 = k0 ∧ (k0 = 0 → gL σ3 620 0 = b.toInt64) ∧ Inv (c + 1) σ3 := by
  obtain ⟨A, σ1, e, g⟩ := op_lacking hc I v1 v2
  cases A with
  | inr r =>
    obtain ⟨b, σ3, g1, ⟨g2, g3⟩, g4, g5⟩ := g (sL σ1 620 0 r.toInt64) (Un.sL 0 _ (Or.inl rfl))
    exact ⟨0, _, σ3, b, fun G l => c_L_lacking e, g1, g2, fun _ => by rw [g5.1, gL_at, g3], g4⟩
  | inl k =>
    obtain ⟨b, σ3, g1, g2, g4, g5⟩ := g σ1 (Un.refl _ _)
    have hk := K_lacking _ _ _ k σ1 e
    have hk : k = 2 := of_decide_eq_true hk
    rcases hk with rfl
    · exact ⟨1, σ1, σ3, b, fun G l => x_L_lacking_2 e, g1, g2, fun z => absurd z (by decide), g4⟩
theorem s_worth {c : Nat} {σ : St} (hc : c < 512) (I : Inv c σ) (v1 : Int32) : ∃ (k0 : Int32) (σ2 σ3 : St) (b : Int32), (∀ (G : Gt) (l : Launch), CtL G l yL_worth cL_worth 4 [(0, 9, 12, 21)] 10 [.ref (gz G + 0), .int v1, .ref (gz G + 620)] σ k0 σ2) ∧ pf_X11_worth 609 v1 σ2 = some (b, σ3) ∧ gI σ3 609 0 = k0 ∧ (k0 = 0 → gL σ3 620 0 = b.toInt64) ∧ Inv (c + 1) σ3 := by
  obtain ⟨A, σ1, e, g⟩ := op_worth hc I v1
  cases A with
  | inr r =>
    obtain ⟨b, σ3, g1, ⟨g2, g3⟩, g4, g5⟩ := g (sL σ1 620 0 r.toInt64) (Un.sL 0 _ (Or.inl rfl))
    exact ⟨0, _, σ3, b, fun G l => c_L_worth e, g1, g2, fun _ => by rw [g5.1, gL_at, g3], g4⟩
  | inl k =>
    obtain ⟨b, σ3, g1, g2, g4, g5⟩ := g σ1 (Un.refl _ _)
    have hk := K_worth _ _ k σ1 e
    have hk : k = 2 := of_decide_eq_true hk
    rcases hk with rfl
    · exact ⟨1, σ1, σ3, b, fun G l => x_L_worth_2 e, g1, g2, fun z => absurd z (by decide), g4⟩
theorem s_chance {c : Nat} {σ : St} (hc : c < 512) (I : Inv c σ) (v1 : Int32) : ∃ (k0 : Int32) (σ2 σ3 : St) (b : UInt64), (∀ (G : Gt) (l : Launch), CtL G l yL_chance cL_chance 4 [(0, 8, 11, 21)] 10 [.ref (gz G + 0), .int v1, .ref (gz G + 621)] σ k0 σ2) ∧ pf_X11_chance 609 v1 σ2 = some (b, σ3) ∧ gI σ3 609 0 = k0 ∧ (k0 = 0 → gD σ3 621 0 = b ∧ b &&& 0x7fffffffffffffff ≤ 0x7ff0000000000000) ∧ Inv (c + 1) σ3 := by
  obtain ⟨A, σ1, e, g⟩ := op_chance hc I v1
  cases A with
  | inr r =>
    obtain ⟨b, σ3, g1, ⟨g2, g3, g6⟩, g4, g5⟩ := g (sD σ1 621 0 r) (Un.sD 0 r (Or.inr rfl))
    exact ⟨0, _, σ3, b, fun G l => c_L_chance e, g1, g2, fun _ => ⟨by rw [g5.2, gD_at, g3], by rw [g3]; exact g6⟩, g4⟩
  | inl k =>
    obtain ⟨b, σ3, g1, g2, g4, g5⟩ := g σ1 (Un.refl _ _)
    have hk := K_chance _ _ k σ1 e
    have hk : k = 2 := of_decide_eq_true hk
    rcases hk with rfl
    · exact ⟨1, σ1, σ3, b, fun G l => x_L_chance_2 e, g1, g2, fun z => absurd z (by decide), g4⟩
theorem s_tell {c : Nat} {σ : St} (hc : c < 512) (I : Inv c σ) (v1 v2 : Int32) : ∃ (k0 : Int32) (σ2 σ3 : St) (b : Int32), (∀ (G : Gt) (l : Launch), CtL G l yL_tell cL_tell 5 [(0, 10, 13, 13), (0, 10, 17, 73)] 9 [.ref (gz G + 0), .int v1, .int v2, .ref (gz G + 620)] σ k0 σ2) ∧ pf_X11_tell 609 v1 v2 σ2 = some (b, σ3) ∧ gI σ3 609 0 = k0 ∧ (k0 = 0 → gL σ3 620 0 = b.toInt64) ∧ Inv (c + 1) σ3 := by
  obtain ⟨A, σ1, e, g⟩ := op_tell hc I v1 v2
  cases A with
  | inr r =>
    obtain ⟨b, σ3, g1, ⟨g2, g3⟩, g4, g5⟩ := g (sL σ1 620 0 r.toInt64) (Un.sL 0 _ (Or.inl rfl))
    exact ⟨0, _, σ3, b, fun G l => c_L_tell e, g1, g2, fun _ => by rw [g5.1, gL_at, g3], g4⟩
  | inl k =>
    obtain ⟨b, σ3, g1, g2, g4, g5⟩ := g σ1 (Un.refl _ _)
    have hk := K_tell _ _ _ k σ1 e
    have hk : k = 1 ∨ k = 3 := by
      rw [Bool.or_eq_true, decide_eq_true_eq, decide_eq_true_eq] at hk; exact hk
    rcases hk with rfl | rfl
    · exact ⟨1, σ1, σ3, b, fun G l => x_L_tell_1 e, g1, g2, fun z => absurd z (by decide), g4⟩
    · exact ⟨2, σ1, σ3, b, fun G l => x_L_tell_3 e, g1, g2, fun z => absurd z (by decide), g4⟩
theorem s_attempt {c : Nat} {σ : St} (hc : c < 512) (I : Inv c σ) (v1 v2 : Int32) : ∃ (k0 : Int32) (σ2 σ3 : St) (b : Int32), (∀ (G : Gt) (l : Launch), CtL G l yL_attempt cL_attempt 5 [(0, 10, 13, 21), (0, 10, 17, 73)] 11 [.ref (gz G + 0), .int v1, .int v2, .ref (gz G + 620)] σ k0 σ2) ∧ pf_X11_attempt 609 v1 v2 σ2 = some (b, σ3) ∧ gI σ3 609 0 = k0 ∧ (k0 = 0 → gL σ3 620 0 = b.toInt64) ∧ Inv (c + 1) σ3 := by
  obtain ⟨A, σ1, e, g⟩ := op_attempt hc I v1 v2
  cases A with
  | inr r =>
    obtain ⟨b, σ3, g1, ⟨g2, g3⟩, g4, g5⟩ := g (sL σ1 620 0 r.toInt64) (Un.sL 0 _ (Or.inl rfl))
    exact ⟨0, _, σ3, b, fun G l => c_L_attempt e, g1, g2, fun _ => by rw [g5.1, gL_at, g3], g4⟩
  | inl k =>
    obtain ⟨b, σ3, g1, g2, g4, g5⟩ := g σ1 (Un.refl _ _)
    have hk := K_attempt _ _ _ k σ1 e
    have hk : k = 2 ∨ k = 3 := by
      rw [Bool.or_eq_true, decide_eq_true_eq, decide_eq_true_eq] at hk; exact hk
    rcases hk with rfl | rfl
    · exact ⟨1, σ1, σ3, b, fun G l => x_L_attempt_2 e, g1, g2, fun z => absurd z (by decide), g4⟩
    · exact ⟨2, σ1, σ3, b, fun G l => x_L_attempt_3 e, g1, g2, fun z => absurd z (by decide), g4⟩
theorem s_play {c : Nat} {σ : St} (hc : c < 512) (I : Inv c σ) (v1 : Int32) : ∃ (k0 : Int32) (σ2 σ3 : St) (b : Int32), (∀ (G : Gt) (l : Launch), CtL G l yL_play cL_play 4 [(0, 9, 12, 21)] 10 [.ref (gz G + 0), .int v1, .ref (gz G + 620)] σ k0 σ2) ∧ pf_X11_play 609 v1 σ2 = some (b, σ3) ∧ gI σ3 609 0 = k0 ∧ (k0 = 0 → gL σ3 620 0 = b.toInt64) ∧ Inv (c + 1) σ3 := by
  obtain ⟨A, σ1, e, g⟩ := op_play hc I v1
  cases A with
  | inr r =>
    obtain ⟨b, σ3, g1, ⟨g2, g3⟩, g4, g5⟩ := g (sL σ1 620 0 r.toInt64) (Un.sL 0 _ (Or.inl rfl))
    exact ⟨0, _, σ3, b, fun G l => c_L_play e, g1, g2, fun _ => by rw [g5.1, gL_at, g3], g4⟩
  | inl k =>
    obtain ⟨b, σ3, g1, g2, g4, g5⟩ := g σ1 (Un.refl _ _)
    have hk := K_play _ _ k σ1 e
    have hk : k = 2 := of_decide_eq_true hk
    rcases hk with rfl
    · exact ⟨1, σ1, σ3, b, fun G l => x_L_play_2 e, g1, g2, fun z => absurd z (by decide), g4⟩
theorem s_add {c : Nat} {σ : St} (hc : c < 512) (I : Inv c σ) (v1 v2 : Int32) : ∃ (k0 : Int32) (σ2 σ3 : St) (b : Int32), (∀ (G : Gt) (l : Launch), CtL G l yL_add cL_add 5 [(0, 10, 13, 21), (0, 10, 17, 13), (0, 10, 21, 73)] 10 [.ref (gz G + 0), .int v1, .int v2, .ref (gz G + 620)] σ k0 σ2) ∧ pf_X11_add 609 v1 v2 σ2 = some (b, σ3) ∧ gI σ3 609 0 = k0 ∧ (k0 = 0 → gL σ3 620 0 = b.toInt64) ∧ Inv (c + 1) σ3 := by
  obtain ⟨A, σ1, e, g⟩ := op_add hc I v1 v2
  cases A with
  | inr r =>
    obtain ⟨b, σ3, g1, ⟨g2, g3⟩, g4, g5⟩ := g (sL σ1 620 0 r.toInt64) (Un.sL 0 _ (Or.inl rfl))
    exact ⟨0, _, σ3, b, fun G l => c_L_add e, g1, g2, fun _ => by rw [g5.1, gL_at, g3], g4⟩
  | inl k =>
    obtain ⟨b, σ3, g1, g2, g4, g5⟩ := g σ1 (Un.refl _ _)
    have hk := K_add _ _ _ k σ1 e
    have hk : k = 2 ∨ k = 1 ∨ k = 3 := by
      rw [Bool.or_eq_true, Bool.or_eq_true, decide_eq_true_eq, decide_eq_true_eq, decide_eq_true_eq] at hk; exact or_assoc.mp hk
    rcases hk with rfl | rfl | rfl
    · exact ⟨1, σ1, σ3, b, fun G l => x_L_add_2 e, g1, g2, fun z => absurd z (by decide), g4⟩
    · exact ⟨2, σ1, σ3, b, fun G l => x_L_add_1 e, g1, g2, fun z => absurd z (by decide), g4⟩
    · exact ⟨3, σ1, σ3, b, fun G l => x_L_add_3 e, g1, g2, fun z => absurd z (by decide), g4⟩
theorem s_spend {c : Nat} {σ : St} (hc : c < 512) (I : Inv c σ) (v1 v2 : Int32) : ∃ (k0 : Int32) (σ2 σ3 : St) (b : Int32), (∀ (G : Gt) (l : Launch), CtL G l yL_spend cL_spend 5 [(0, 10, 13, 21), (0, 10, 17, 13), (0, 10, 21, 73)] 10 [.ref (gz G + 0), .int v1, .int v2, .ref (gz G + 620)] σ k0 σ2) ∧ pf_X11_spend 609 v1 v2 σ2 = some (b, σ3) ∧ gI σ3 609 0 = k0 ∧ (k0 = 0 → gL σ3 620 0 = b.toInt64) ∧ Inv (c + 1) σ3 := by
  obtain ⟨A, σ1, e, g⟩ := op_spend hc I v1 v2
  cases A with
  | inr r =>
    obtain ⟨b, σ3, g1, ⟨g2, g3⟩, g4, g5⟩ := g (sL σ1 620 0 r.toInt64) (Un.sL 0 _ (Or.inl rfl))
    exact ⟨0, _, σ3, b, fun G l => c_L_spend e, g1, g2, fun _ => by rw [g5.1, gL_at, g3], g4⟩
  | inl k =>
    obtain ⟨b, σ3, g1, g2, g4, g5⟩ := g σ1 (Un.refl _ _)
    have hk := K_spend _ _ _ k σ1 e
    have hk : k = 2 ∨ k = 1 ∨ k = 3 := by
      rw [Bool.or_eq_true, Bool.or_eq_true, decide_eq_true_eq, decide_eq_true_eq, decide_eq_true_eq] at hk; exact or_assoc.mp hk
    rcases hk with rfl | rfl | rfl
    · exact ⟨1, σ1, σ3, b, fun G l => x_L_spend_2 e, g1, g2, fun z => absurd z (by decide), g4⟩
    · exact ⟨2, σ1, σ3, b, fun G l => x_L_spend_1 e, g1, g2, fun z => absurd z (by decide), g4⟩
    · exact ⟨3, σ1, σ3, b, fun G l => x_L_spend_3 e, g1, g2, fun z => absurd z (by decide), g4⟩
theorem s_mend {c : Nat} {σ : St} (hc : c < 512) (I : Inv c σ) (v1 v2 : Int32) : ∃ (k0 : Int32) (σ2 σ3 : St) (b : Int32), (∀ (G : Gt) (l : Launch), CtL G l yL_mend cL_mend 5 [(0, 10, 13, 21)] 11 [.ref (gz G + 0), .int v1, .int v2, .ref (gz G + 620)] σ k0 σ2) ∧ pf_X11_mend 609 v1 v2 σ2 = some (b, σ3) ∧ gI σ3 609 0 = k0 ∧ (k0 = 0 → gL σ3 620 0 = b.toInt64) ∧ Inv (c + 1) σ3 := by
  obtain ⟨A, σ1, e, g⟩ := op_mend hc I v1 v2
  cases A with
  | inr r =>
    obtain ⟨b, σ3, g1, ⟨g2, g3⟩, g4, g5⟩ := g (sL σ1 620 0 r.toInt64) (Un.sL 0 _ (Or.inl rfl))
    exact ⟨0, _, σ3, b, fun G l => c_L_mend e, g1, g2, fun _ => by rw [g5.1, gL_at, g3], g4⟩
  | inl k =>
    obtain ⟨b, σ3, g1, g2, g4, g5⟩ := g σ1 (Un.refl _ _)
    have hk := K_mend _ _ _ k σ1 e
    have hk : k = 2 := of_decide_eq_true hk
    rcases hk with rfl
    · exact ⟨1, σ1, σ3, b, fun G l => x_L_mend_2 e, g1, g2, fun z => absurd z (by decide), g4⟩
theorem s_giveUp {c : Nat} {σ : St} (hc : c < 512) (I : Inv c σ) (v1 : Int32) : ∃ (k0 : Int32) (σ2 σ3 : St) (b : Int32), (∀ (G : Gt) (l : Launch), CtL G l yL_giveUp cL_giveUp 4 [(0, 9, 12, 21), (0, 9, 15, 73)] 10 [.ref (gz G + 0), .int v1, .ref (gz G + 620)] σ k0 σ2) ∧ pf_X11_giveUp 609 v1 σ2 = some (b, σ3) ∧ gI σ3 609 0 = k0 ∧ (k0 = 0 → gL σ3 620 0 = b.toInt64) ∧ Inv (c + 1) σ3 := by
  obtain ⟨A, σ1, e, g⟩ := op_giveUp hc I v1
  cases A with
  | inr r =>
    obtain ⟨b, σ3, g1, ⟨g2, g3⟩, g4, g5⟩ := g (sL σ1 620 0 r.toInt64) (Un.sL 0 _ (Or.inl rfl))
    exact ⟨0, _, σ3, b, fun G l => c_L_giveUp e, g1, g2, fun _ => by rw [g5.1, gL_at, g3], g4⟩
  | inl k =>
    obtain ⟨b, σ3, g1, g2, g4, g5⟩ := g σ1 (Un.refl _ _)
    have hk := K_giveUp _ _ k σ1 e
    have hk : k = 2 ∨ k = 3 := by
      rw [Bool.or_eq_true, decide_eq_true_eq, decide_eq_true_eq] at hk; exact hk
    rcases hk with rfl | rfl
    · exact ⟨1, σ1, σ3, b, fun G l => x_L_giveUp_2 e, g1, g2, fun z => absurd z (by decide), g4⟩
    · exact ⟨2, σ1, σ3, b, fun G l => x_L_giveUp_3 e, g1, g2, fun z => absurd z (by decide), g4⟩
theorem s_reopen {c : Nat} {σ : St} (hc : c < 512) (I : Inv c σ) (v1 : Int32) : ∃ (k0 : Int32) (σ2 σ3 : St) (b : Int32), (∀ (G : Gt) (l : Launch), CtL G l yL_reopen cL_reopen 4 [(0, 9, 12, 21)] 10 [.ref (gz G + 0), .int v1, .ref (gz G + 620)] σ k0 σ2) ∧ pf_X11_reopen 609 v1 σ2 = some (b, σ3) ∧ gI σ3 609 0 = k0 ∧ (k0 = 0 → gL σ3 620 0 = b.toInt64) ∧ Inv (c + 1) σ3 := by
  obtain ⟨A, σ1, e, g⟩ := op_reopen hc I v1
  cases A with
  | inr r =>
    obtain ⟨b, σ3, g1, ⟨g2, g3⟩, g4, g5⟩ := g (sL σ1 620 0 r.toInt64) (Un.sL 0 _ (Or.inl rfl))
    exact ⟨0, _, σ3, b, fun G l => c_L_reopen e, g1, g2, fun _ => by rw [g5.1, gL_at, g3], g4⟩
  | inl k =>
    obtain ⟨b, σ3, g1, g2, g4, g5⟩ := g σ1 (Un.refl _ _)
    have hk := K_reopen _ _ k σ1 e
    have hk : k = 2 := of_decide_eq_true hk
    rcases hk with rfl
    · exact ⟨1, σ1, σ3, b, fun G l => x_L_reopen_2 e, g1, g2, fun z => absurd z (by decide), g4⟩
