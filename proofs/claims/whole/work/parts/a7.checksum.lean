/-! QUESTION checksum -/
def qv (rd : Nat → Int32) (q w : Nat) : Int32 :=
  if w = 0 then nI (nS rd (53 + 186 * q)) else if w = 1 then rd (53 + 186 * q + 1) else if w = 2 then nI (dnM rd (53 + 186 * q)) else if w = 3 then nI (bkM rd (53 + 186 * q)) else if w = 4 then rd (53 + 186 * q + 2) else if w = 5 then rd (53 + 186 * q + 3) else if w = 6 then nI (flS rd (53 + 186 * q) (nS rd (53 + 186 * q))) else nI (tyM rd (53 + 186 * q) (stk rd))
def csF (v : Nat → Int32) : Nat → Int64 → Int64
  | 0, a => a
  | k + 1, a => 31 * csF v k a + (v k).toInt64
def csS (rd : Nat → Int32) (b : Nat) : Nat → Int64 → Int64
  | 0, a => a
  | s + 1, a => csF (fun w => rd (b + 6 + 30 * s + w)) 6 (csS rd b s a)
def csQ (rd : Nat → Int32) (q : Nat) (a : Int64) : Int64 := csS rd (53 + 186 * q) (nS rd (53 + 186 * q)) (31 * csF (qv rd q) 8 a + (iI (wth rd q (stk rd))).toInt64)
def csA (rd : Nat → Int32) : Nat → Int64
  | 0 => csF (fun i => rd (5 + i)) 8 (csF (stV rd) 9 0)
  | q + 1 => csQ rd q (csA rd q)
section
variable {σ τ : St} {rd : Nat → Int32} {B : Nat}
theorem questV (X : CX σ rd B) {q w : Nat} (hq : q < Qn rd) (hw : w < 8) : pf_X10_quest 0 (nI q) (nI w) σ = some (.inr (qv rd q w)) := by
  have W := X.W hq
  have V := X.V hq
  have hr := W.2.2.2.1
  have hq6 : q < 6 := by have := X.q0; omega
  unfold pf_X10_quest qv
  rw [qAt_yes X hq, bX0_r, ckK_eq (kd7 q hq6)]
  rcases (by omega : w = 0 ∨ w = 1 ∨ w = 2 ∨ w = 3 ∨ w = 4 ∨ w = 5 ∨ w = 6 ∨ w = 7) with rfl | rfl | rfl | rfl | rfl | rfl | rfl | rfl
  · rw [if_pos (show nI 0 = (0 : Int32) from rfl), hr.1, V.e0]; rfl
  · rw [if_neg (show ¬ nI 1 = (0 : Int32) by decide), if_pos (show nI 1 = (1 : Int32) from rfl), hr.2.1]; rfl
  · rw [if_neg (show ¬ nI 2 = (0 : Int32) by decide), if_neg (show ¬ nI 2 = (1 : Int32) by decide), if_pos (show nI 2 = (2 : Int32) from rfl), hr.2.2.1]; rfl
  · rw [if_neg (show ¬ nI 3 = (0 : Int32) by decide), if_neg (show ¬ nI 3 = (1 : Int32) by decide), if_neg (show ¬ nI 3 = (2 : Int32) by decide), if_pos (show nI 3 = (3 : Int32) from rfl), brokenH (kd7 q hq6) V hr, bind_some]; rfl
  · rw [if_neg (show ¬ nI 4 = (0 : Int32) by decide), if_neg (show ¬ nI 4 = (1 : Int32) by decide), if_neg (show ¬ nI 4 = (2 : Int32) by decide), if_neg (show ¬ nI 4 = (3 : Int32) by decide), if_pos (show nI 4 = (4 : Int32) from rfl), hr.2.2.2.1]; rfl
  · rw [if_neg (show ¬ nI 5 = (0 : Int32) by decide), if_neg (show ¬ nI 5 = (1 : Int32) by decide), if_neg (show ¬ nI 5 = (2 : Int32) by decide), if_neg (show ¬ nI 5 = (3 : Int32) by decide), if_neg (show ¬ nI 5 = (4 : Int32) by decide), if_pos (show nI 5 = (5 : Int32) from rfl), hr.2.2.2.2.1]; rfl
  · rw [if_neg (show ¬ nI 6 = (0 : Int32) by decide), if_neg (show ¬ nI 6 = (1 : Int32) by decide), if_neg (show ¬ nI 6 = (2 : Int32) by decide), if_neg (show ¬ nI 6 = (3 : Int32) by decide), if_neg (show ¬ nI 6 = (4 : Int32) by decide), if_neg (show ¬ nI 6 = (5 : Int32) by decide), if_pos (show nI 6 = (6 : Int32) from rfl), failsH (kd7 q hq6) V hr, bind_some]; rfl
  · rw [if_neg (show ¬ nI 7 = (0 : Int32) by decide), if_neg (show ¬ nI 7 = (1 : Int32) by decide), if_neg (show ¬ nI 7 = (2 : Int32) by decide), if_neg (show ¬ nI 7 = (3 : Int32) by decide), if_neg (show ¬ nI 7 = (4 : Int32) by decide), if_neg (show ¬ nI 7 = (5 : Int32) by decide), if_neg (show ¬ nI 7 = (6 : Int32) by decide), if_pos (show nI 7 = (7 : Int32) from rfl), tryH W al3 X.st, bind_some]; rfl
theorem toldQM (X : CX σ rd B) (h : MR τ rd) {q w : Nat} (hq : q < Qn rd) (hw : w < 8) : ∃ τ', pf_X11_toldOf 609 (nI q) (nI w) τ = some (qv rd q w, τ') ∧ MU qA qI τ τ' := by
  have V := X.V hq
  have hq6 : q < 6 := by have := X.q0; omega
  unfold pf_X11_toldOf qv
  rcases (by omega : w = 0 ∨ w = 1 ∨ w = 2 ∨ w = 3 ∨ w = 4 ∨ w = 5 ∨ w = 6 ∨ w = 7) with rfl | rfl | rfl | rfl | rfl | rfl | rfl | rfl
  · rw [if_pos (show nI 0 = (0 : Int32) from rfl), stepsM h hq6 V, bind_some]
    exact ⟨τ, rfl, MU.refl _ _ _⟩
  · rw [if_neg (show ¬ nI 1 = (0 : Int32) by decide), if_pos (show nI 1 = (1 : Int32) from rfl), oQ1 h hq6, bind_some]
    exact ⟨τ, rfl, MU.refl _ _ _⟩
  · rw [if_neg (show ¬ nI 2 = (0 : Int32) by decide), if_neg (show ¬ nI 2 = (1 : Int32) by decide), if_pos (show nI 2 = (2 : Int32) from rfl), doneM h hq6 V, bind_some]
    exact ⟨τ, rfl, MU.refl _ _ _⟩
  · rw [if_neg (show ¬ nI 3 = (0 : Int32) by decide), if_neg (show ¬ nI 3 = (1 : Int32) by decide), if_neg (show ¬ nI 3 = (2 : Int32) by decide), if_pos (show nI 3 = (3 : Int32) from rfl), brokenM h hq6 V, bind_some]
    exact ⟨τ, rfl, MU.refl _ _ _⟩
  · rw [if_neg (show ¬ nI 4 = (0 : Int32) by decide), if_neg (show ¬ nI 4 = (1 : Int32) by decide), if_neg (show ¬ nI 4 = (2 : Int32) by decide), if_neg (show ¬ nI 4 = (3 : Int32) by decide), if_pos (show nI 4 = (4 : Int32) from rfl), oQ2 h hq6, bind_some]
    exact ⟨τ, rfl, MU.refl _ _ _⟩
  · rw [if_neg (show ¬ nI 5 = (0 : Int32) by decide), if_neg (show ¬ nI 5 = (1 : Int32) by decide), if_neg (show ¬ nI 5 = (2 : Int32) by decide), if_neg (show ¬ nI 5 = (3 : Int32) by decide), if_neg (show ¬ nI 5 = (4 : Int32) by decide), if_pos (show nI 5 = (5 : Int32) from rfl), oQ3 h hq6, bind_some]
    exact ⟨τ, rfl, MU.refl _ _ _⟩
  · rw [if_neg (show ¬ nI 6 = (0 : Int32) by decide), if_neg (show ¬ nI 6 = (1 : Int32) by decide), if_neg (show ¬ nI 6 = (2 : Int32) by decide), if_neg (show ¬ nI 6 = (3 : Int32) by decide), if_neg (show ¬ nI 6 = (4 : Int32) by decide), if_neg (show ¬ nI 6 = (5 : Int32) by decide), if_pos (show nI 6 = (6 : Int32) from rfl), failsM h hq6 V, bind_some]
    exact ⟨τ, rfl, MU.refl _ _ _⟩
  · obtain ⟨τ', g1, g2⟩ := triedM X h hq
    rw [if_neg (show ¬ nI 7 = (0 : Int32) by decide), if_neg (show ¬ nI 7 = (1 : Int32) by decide), if_neg (show ¬ nI 7 = (2 : Int32) by decide), if_neg (show ¬ nI 7 = (3 : Int32) by decide), if_neg (show ¬ nI 7 = (4 : Int32) by decide), if_neg (show ¬ nI 7 = (5 : Int32) by decide), if_neg (show ¬ nI 7 = (6 : Int32) by decide), g1, bnd2_some]
    exact ⟨τ', rfl, g2⟩
theorem stepV (X : CX σ rd B) {q s w : Nat} (hq : q < Qn rd) (hs : s < nS rd (53 + 186 * q)) (hw : w < 6) : pf_X10_step 0 (nI q) (nI s) (nI w) σ = some (.inr (rd (53 + 186 * q + 6 + 30 * s + w))) := by
  have W := X.W hq
  have V := X.V hq
  have hn := V.n
  have hr := W.2.2.2.1
  have rs := hr.b hs
  have hq6 : q < 6 := by have := X.q0; omega
  unfold pf_X10_step
  rw [qWS_yes X hq hs, bX0_r, ckK_eq (kd7 q hq6)]
  rcases (by omega : w = 0 ∨ w = 1 ∨ w = 2 ∨ w = 3 ∨ w = 4 ∨ w = 5) with rfl | rfl | rfl | rfl | rfl | rfl
  · rw [if_pos (show nI 0 = (0 : Int32) from rfl), at_ok (af_X3_risk (kd7 q hq6)) (by omega), bind_some, rs.1]; rfl
  · rw [if_neg (show ¬ nI 1 = (0 : Int32) by decide), if_pos (show nI 1 = (1 : Int32) from rfl), at_ok (af_X3_limit (kd7 q hq6)) (by omega), bind_some, rs.2.1]
  · rw [if_neg (show ¬ nI 2 = (0 : Int32) by decide), if_neg (show ¬ nI 2 = (1 : Int32) by decide), if_pos (show nI 2 = (2 : Int32) from rfl), at_ok (af_X3_fails (kd7 q hq6)) (by omega), bind_some, rs.2.2.1]
  · rw [if_neg (show ¬ nI 3 = (0 : Int32) by decide), if_neg (show ¬ nI 3 = (1 : Int32) by decide), if_neg (show ¬ nI 3 = (2 : Int32) by decide), if_pos (show nI 3 = (3 : Int32) from rfl), isDoneH V hr hs, bind_some, if_b]
    have e := dn_step V hs
    rw [e]
    cases decide (rd (53 + 186 * q + 6 + 30 * s + 3) = 1) <;> rfl
  · rw [if_neg (show ¬ nI 4 = (0 : Int32) by decide), if_neg (show ¬ nI 4 = (1 : Int32) by decide), if_neg (show ¬ nI 4 = (2 : Int32) by decide), if_neg (show ¬ nI 4 = (3 : Int32) by decide), if_pos (show nI 4 = (4 : Int32) from rfl), at_ok (af_X3_ahead (kd7 q hq6)) (by omega), bind_some, rs.2.2.2.1]
  · rw [if_neg (show ¬ nI 5 = (0 : Int32) by decide), if_neg (show ¬ nI 5 = (1 : Int32) by decide), if_neg (show ¬ nI 5 = (2 : Int32) by decide), if_neg (show ¬ nI 5 = (3 : Int32) by decide), if_neg (show ¬ nI 5 = (4 : Int32) by decide), if_pos (show nI 5 = (5 : Int32) from rfl), at_ok (af_X3_costly (kd7 q hq6)) (by omega), bind_some, rs.2.2.2.2.1]
theorem csL77 (X : CX σ rd B) {q s : Nat} (hq : q < Qn rd) (hs : s < nS rd (53 + 186 * q)) (k : Nat → Int32 → Int64 → Int32 → Int32 → St → Option ((Nat ⊕ Int64) × St)) (a : Int64) (v6 : Int32) : pf_X10_withQuest_L77 k FU 0 (nI q) a v6 (nI s) 0 σ = k 0 (nI q) (csF (fun w => rd (53 + 186 * q + 6 + 30 * s + w)) 6 a) v6 (nI s) σ := by
  refine up_C (fun n i (x : Int64) => pf_X10_withQuest_L77 k n 0 (nI q) x v6 (nI s) (nI i) σ) 6 (fun i x => x = csF (fun w => rd (53 + 186 * q + 6 + 30 * s + w)) i a) (fun r => r = k 0 (nI q) (csF (fun w => rd (53 + 186 * q + 6 + 30 * s + w)) 6 a) v6 (nI s) σ) ?_ ?_ FU 0 a (Nat.zero_le _) rfl (lt_FU (by omega))
  · intro n x hx
    show pf_X10_withQuest_L77 k (n + 1) 0 (nI q) x v6 (nI s) (nI 6) σ = _
    rw [pf_X10_withQuest_L77, if_pos (by decide), hx]
  · intro n i x hi hx
    right
    refine ⟨31 * x + (rd (53 + 186 * q + 6 + 30 * s + i)).toInt64, ?_, by rw [hx]; rfl⟩
    show pf_X10_withQuest_L77 k (n + 1) 0 (nI q) x v6 (nI s) (nI i) σ = pf_X10_withQuest_L77 k n 0 (nI q) _ v6 (nI s) (nI (i + 1)) σ
    rw [pf_X10_withQuest_L77, show (5 : Int32) = nI 5 from rfl, if_neg (nI_nlt (by omega) (by omega)), stepV X hq hs hi, bXW_r, bnd_e, bnd_e, nI_1]
theorem withC (X : CX σ rd B) {q : Nat} (hq : q < Qn rd) (a : Int64) : ∃ σ', pf_X10_withQuest 0 a (nI q) σ = some (.inr (csQ rd q a), σ') ∧ Un cQ σ σ' := by
  have V := X.V hq
  have hn := V.n
  have hq6 : q < 6 := by have := X.q0; omega
  obtain ⟨σ2, w1, w2, w3, _⟩ := worthC X hq
  refine ⟨σ2, ?_, w2⟩
  unfold pf_X10_withQuest
  refine up_C (fun n i (x : Int64) => pf_X10_withQuest_L6 pf_X10_withQuest_b36 n 0 (nI q) x (nI i) σ) 8 (fun i x => x = csF (qv rd q) i a) (fun r => r = some (.inr (csQ rd q a), σ2)) ?_ ?_ FU 0 a (Nat.zero_le _) rfl (lt_FU (by omega))
  · intro n x hx
    show pf_X10_withQuest_L6 pf_X10_withQuest_b36 (n + 1) 0 (nI q) x (nI 8) σ = _
    rw [pf_X10_withQuest_L6, if_pos (by decide), pf_X10_withQuest_b36, qAt_yes X hq, bXW_r, ckK_eq (kd7 q hq6), w1, bnd2_some, bnd_e, show pf_X10_quest 0 (nI q) 0 σ2 = _ from questV (w := 0) w3 hq (by omega), bXW_r, show qv rd q 0 = nI (nS rd (53 + 186 * q)) from rfl]
    refine up_C (fun n i (y : Int64) => pf_X10_withQuest_L67 n 0 (nI q) y (nI (nS rd (53 + 186 * q))) (nI i) σ2) (nS rd (53 + 186 * q)) (fun i y => y = csS rd (53 + 186 * q) i (31 * csF (qv rd q) 8 a + (iI (wth rd q (stk rd))).toInt64)) (fun r => r = some (.inr (csQ rd q a), σ2)) ?_ ?_ FU 0 _ (Nat.zero_le _) (by rw [hx]; rfl) (lt_FU (by omega))
    · intro n y hy
      show pf_X10_withQuest_L67 (n + 1) 0 (nI q) y (nI (nS rd (53 + 186 * q))) (nI (nS rd (53 + 186 * q))) σ2 = _
      rw [pf_X10_withQuest_L67, if_pos (nI_le (Nat.le_refl _) (by omega)), hy]; rfl
    · intro n i y hi hy
      right
      refine ⟨csF (fun w => rd (53 + 186 * q + 6 + 30 * i + w)) 6 y, ?_, by rw [hy]; rfl⟩
      show pf_X10_withQuest_L67 (n + 1) 0 (nI q) y (nI (nS rd (53 + 186 * q))) (nI i) σ2 = pf_X10_withQuest_L67 n 0 (nI q) _ (nI (nS rd (53 + 186 * q))) (nI (i + 1)) σ2
      rw [pf_X10_withQuest_L67, if_neg (nI_ge hi (by omega)), csL77 w3 hq hi, pf_X10_withQuest_b108, bnd_e, nI_1]
  · intro n i x hi hx
    right
    refine ⟨31 * x + (qv rd q i).toInt64, ?_, by rw [hx]; rfl⟩
    show pf_X10_withQuest_L6 pf_X10_withQuest_b36 (n + 1) 0 (nI q) x (nI i) σ = pf_X10_withQuest_L6 pf_X10_withQuest_b36 n 0 (nI q) _ (nI (i + 1)) σ
    rw [pf_X10_withQuest_L6, show (7 : Int32) = nI 7 from rfl, if_neg (nI_nlt (by omega) (by omega)), questV X hq hi, bXW_r, bnd_e, bnd_e, nI_1]
theorem sumC (X : CX σ rd B) : ∃ σ', pf_X10_checksum 0 σ = some (.inr (csA rd (Qn rd)), σ') ∧ Un cQ σ σ' := by
  have q0 := X.q0
  unfold pf_X10_checksum
  refine up_C (fun n i (s : Int64 × St) => pf_X10_checksum_L4 pf_X10_checksum_b29 n 0 s.1 (nI i) s.2) 9 (fun i s => s.1 = csF (stV rd) i 0 ∧ Un cQ σ s.2) (fun r => ∃ σ', r = some (.inr (csA rd (Qn rd)), σ') ∧ Un cQ σ σ') ?_ ?_ FU 0 (0, σ) (Nat.zero_le _) ⟨rfl, Un.refl _ _⟩ (lt_FU (by omega))
  · rintro n ⟨x, s⟩ ⟨hx, us⟩
    have hx' : x = _ := hx
    have Xs := X.cq us
    show ∃ σ', pf_X10_checksum_L4 pf_X10_checksum_b29 (n + 1) 0 x (nI 9) s = _ ∧ _
    rw [pf_X10_checksum_L4, if_pos (by decide), pf_X10_checksum_b29]
    refine up_C (fun n i (y : Int64) => pf_X10_checksum_L31 pf_X10_checksum_b62 n 0 y (nI i) s) 8 (fun i y => y = csF (fun i => rd (5 + i)) i x) (fun r => ∃ σ', r = some (.inr (csA rd (Qn rd)), σ') ∧ Un cQ σ σ') ?_ ?_ FU 0 x (Nat.zero_le _) rfl (lt_FU (by omega))
    · intro n y hy
      show ∃ σ', pf_X10_checksum_L31 pf_X10_checksum_b62 (n + 1) 0 y (nI 8) s = _ ∧ _
      rw [pf_X10_checksum_L31, show (8 : Int32) = nI 8 from rfl, if_pos (nI_le (Nat.le_refl _) (by omega)), pf_X10_checksum_b62]
      refine up_C (fun n i (t : Int64 × St) => pf_X10_checksum_L64 n 0 t.1 (nI i) t.2) (Qn rd) (fun i t => t.1 = csA rd i ∧ Un cQ σ t.2) (fun r => ∃ σ', r = some (.inr (csA rd (Qn rd)), σ') ∧ Un cQ σ σ') ?_ ?_ FU 0 (y, s) (Nat.zero_le _) ⟨by rw [hy, hx']; rfl, us⟩ (lt_FU (by omega))
      · rintro n ⟨z, t⟩ ⟨hz, ut⟩
        have hz' : z = _ := hz
        have Xt := X.cq ut
        refine ⟨t, ?_, ut⟩
        show pf_X10_checksum_L64 (n + 1) 0 z (nI (Qn rd)) t = _
        rw [pf_X10_checksum_L64, show gI t (0 + 2) 5 = nI (Qn rd) from Xt.1.1.trans q0.1, if_pos (nI_le (Nat.le_refl _) (by omega)), hz']
      · rintro n i ⟨z, t⟩ hi ⟨hz, ut⟩
        have hz' : z = _ := hz
        have Xt := X.cq ut
        obtain ⟨t2, g1, g2⟩ := withC Xt hi z
        right
        refine ⟨(csQ rd i z, t2), ?_, by rw [hz']; rfl, ut.trans g2⟩
        show pf_X10_checksum_L64 (n + 1) 0 z (nI i) t = pf_X10_checksum_L64 n 0 (csQ rd i z) (nI (i + 1)) t2
        rw [pf_X10_checksum_L64, show gI t (0 + 2) 5 = nI (Qn rd) from Xt.1.1.trans q0.1, if_neg (nI_ge hi (by omega)), g1, bXWs_r, bnd_e, nI_1]
    · intro n i y hi hy
      right
      refine ⟨31 * y + (rd (5 + i)).toInt64, ?_, by rw [hy]; rfl⟩
      show pf_X10_checksum_L31 pf_X10_checksum_b62 (n + 1) 0 y (nI i) s = pf_X10_checksum_L31 pf_X10_checksum_b62 n 0 _ (nI (i + 1)) s
      rw [pf_X10_checksum_L31, show (8 : Int32) = nI 8 from rfl, if_neg (nI_ge hi (by omega)), show pf_X10_at (0 + 2 + 1) (nI i) s = _ from at_ok al3 hi, bind_some, show gI s (0 + 2 + 1) i = rd (5 + i) from Xs.1.2.2.2.1 i hi, bnd_e, bnd_e, nI_1]
  · rintro n i ⟨x, s⟩ hi ⟨hx, us⟩
    have hx' : x = _ := hx
    have Xs := X.cq us
    obtain ⟨s2, g1, g2⟩ := stateC Xs hi
    right
    refine ⟨(31 * x + (stV rd i).toInt64, s2), ?_, by rw [hx']; rfl, us.trans g2⟩
    show pf_X10_checksum_L4 pf_X10_checksum_b29 (n + 1) 0 x (nI i) s = pf_X10_checksum_L4 pf_X10_checksum_b29 n 0 _ (nI (i + 1)) s2
    rw [pf_X10_checksum_L4, show (8 : Int32) = nI 8 from rfl, if_neg (nI_nlt (by omega) (by omega)), g1, bXWs_r, bnd_e, bnd_e, nI_1]
/-! the reference's -/
theorem csL126 (h : MR τ rd) {q s : Nat} (hq : q < 6) (hs : s < 6) (k : Nat → Int64 → Int32 → Int32 → St → Option (Int64 × St)) (a : Int64) : pf_X11_checksum_L126 k FU 609 a (nI q) (nI s) 0 τ = k 609 (csF (fun w => rd (53 + 186 * q + 6 + 30 * s + w)) 6 a) (nI q) (nI s) τ := by
  refine up_C (fun n i (x : Int64) => pf_X11_checksum_L126 k n 609 x (nI q) (nI s) (nI i) τ) 6 (fun i x => x = csF (fun w => rd (53 + 186 * q + 6 + 30 * s + w)) i a) (fun r => r = k 609 (csF (fun w => rd (53 + 186 * q + 6 + 30 * s + w)) 6 a) (nI q) (nI s) τ) ?_ ?_ FU 0 a (Nat.zero_le _) rfl (lt_FU (by omega))
  · intro n x hx
    show pf_X11_checksum_L126 k (n + 1) 609 x (nI q) (nI s) (nI 6) τ = _
    rw [pf_X11_checksum_L126, show (6 : Int32) = nI 6 from rfl, if_pos (nI_le (Nat.le_refl _) (by omega)), hx]
  · intro n i x hi hx
    right
    refine ⟨31 * x + (rd (53 + 186 * q + 6 + 30 * s + i)).toInt64, ?_, by rw [hx]; rfl⟩
    show pf_X11_checksum_L126 k (n + 1) 609 x (nI q) (nI s) (nI i) τ = pf_X11_checksum_L126 k n 609 _ (nI q) (nI s) (nI (i + 1)) τ
    rw [pf_X11_checksum_L126, show (6 : Int32) = nI 6 from rfl, if_neg (nI_ge hi (by omega))]
    unfold pf_X11_toldOfStep pf_X11_joins
    rw [ofS_ok h hq hs (by omega), bind_some, bind_some, bind_some, bnd_e, nI_1]
theorem withM (X : CX σ rd B) (h : MR τ rd) {q : Nat} (hq : q < Qn rd) (a : Int64) (k61 : Nat → Int64 → Int32 → St → Option (Int64 × St)) (C : Option (Int64 × St) → Prop) (hC : ∀ τ', MU qA qI τ τ' → C (k61 609 (csQ rd q a) (nI (q + 1)) τ')) : C (pf_X11_checksum_L73 (pf_X11_checksum_b99 k61) FU 609 a (nI q) 0 τ) := by
  have V := X.V hq
  have hn := V.n
  have hq6 : q < 6 := by have := X.q0; omega
  refine up_C (fun n i (s : Int64 × St) => pf_X11_checksum_L73 (pf_X11_checksum_b99 k61) n 609 s.1 (nI q) (nI i) s.2) 8 (fun i s => s.1 = csF (qv rd q) i a ∧ MU qA qI τ s.2) C ?_ ?_ FU 0 (a, τ) (Nat.zero_le _) ⟨rfl, MU.refl _ _ _⟩ (lt_FU (by omega))
  · rintro n ⟨x, s⟩ ⟨hx, us⟩
    have hx' : x = _ := hx
    have hs := h.mu us qA610 qI3
    obtain ⟨s2, g1, g2⟩ := worthM X hs hq
    have hs2 := hs.mu g2 qA610 qI3
    show C (pf_X11_checksum_L73 (pf_X11_checksum_b99 k61) (n + 1) 609 x (nI q) (nI 8) s)
    rw [pf_X11_checksum_L73, show (8 : Int32) = nI 8 from rfl, if_pos (nI_le (Nat.le_refl _) (by omega)), pf_X11_checksum_b99, g1, bnd2_some]
    unfold pf_X11_joins
    rw [bind_some]
    refine up_C (fun n i (y : Int64) => pf_X11_checksum_L113 (pf_X11_checksum_b160 k61) n 609 y (nI q) (nI i) s2) (nS rd (53 + 186 * q)) (fun i y => y = csS rd (53 + 186 * q) i (31 * csF (qv rd q) 8 a + (iI (wth rd q (stk rd))).toInt64)) C ?_ ?_ FU 0 _ (Nat.zero_le _) (by rw [hx']; rfl) (lt_FU (by omega))
    · intro n y hy
      show C (pf_X11_checksum_L113 (pf_X11_checksum_b160 k61) (n + 1) 609 y (nI q) (nI (nS rd (53 + 186 * q))) s2)
      rw [pf_X11_checksum_L113, stepsM hs2 hq6 V, bind_some, if_pos (nI_le (Nat.le_refl _) (by omega)), pf_X11_checksum_b160, bnd_e, nI_1, hy]
      exact hC s2 (us.trans g2)
    · intro n i y hi hy
      right
      refine ⟨csF (fun w => rd (53 + 186 * q + 6 + 30 * i + w)) 6 y, ?_, by rw [hy]; rfl⟩
      show pf_X11_checksum_L113 (pf_X11_checksum_b160 k61) (n + 1) 609 y (nI q) (nI i) s2 = pf_X11_checksum_L113 (pf_X11_checksum_b160 k61) n 609 _ (nI q) (nI (i + 1)) s2
      rw [pf_X11_checksum_L113, stepsM hs2 hq6 V, bind_some, if_neg (nI_ge hi (by omega)), csL126 hs2 hq6 (by omega), pf_X11_checksum_b154, bnd_e, nI_1]
  · rintro n i ⟨x, s⟩ hi ⟨hx, us⟩
    have hx' : x = _ := hx
    have hs := h.mu us qA610 qI3
    obtain ⟨s2, g1, g2⟩ := toldQM X hs hq hi
    right
    refine ⟨(31 * x + (qv rd q i).toInt64, s2), ?_, by rw [hx']; rfl, us.trans g2⟩
    show pf_X11_checksum_L73 (pf_X11_checksum_b99 k61) (n + 1) 609 x (nI q) (nI i) s = pf_X11_checksum_L73 (pf_X11_checksum_b99 k61) n 609 _ (nI q) (nI (i + 1)) s2
    rw [pf_X11_checksum_L73, show (8 : Int32) = nI 8 from rfl, if_neg (nI_ge hi (by omega)), g1, bnd2_some]
    unfold pf_X11_joins
    rw [bind_some, bnd_e, nI_1]
theorem sumM (X : CX σ rd B) (h : MR τ rd) : ∃ τ', pf_X11_checksum_L9 pf_X11_checksum_b32 FU 609 0 0 τ = some (csA rd (Qn rd), τ') ∧ MU qA qI τ τ' := by
  have q0 := X.q0
  refine up_C (fun n i (s : Int64 × St) => pf_X11_checksum_L9 pf_X11_checksum_b32 n 609 s.1 (nI i) s.2) 9 (fun i s => s.1 = csF (stV rd) i 0 ∧ MU qA qI τ s.2) (fun r => ∃ τ', r = some (csA rd (Qn rd), τ') ∧ MU qA qI τ τ') ?_ ?_ FU 0 (0, τ) (Nat.zero_le _) ⟨rfl, MU.refl _ _ _⟩ (lt_FU (by omega))
  · rintro n ⟨x, s⟩ ⟨hx, us⟩
    have hx' : x = _ := hx
    have hs := h.mu us qA610 qI3
    show ∃ τ', pf_X11_checksum_L9 pf_X11_checksum_b32 (n + 1) 609 x (nI 9) s = _ ∧ _
    rw [pf_X11_checksum_L9, show (9 : Int32) = nI 9 from rfl, if_pos (nI_le (Nat.le_refl _) (by omega)), pf_X11_checksum_b32]
    refine up_C (fun n i (y : Int64) => pf_X11_checksum_L34 pf_X11_checksum_b59 n 609 y (nI i) s) 8 (fun i y => y = csF (fun i => rd (5 + i)) i x) (fun r => ∃ τ', r = some (csA rd (Qn rd), τ') ∧ MU qA qI τ τ') ?_ ?_ FU 0 x (Nat.zero_le _) rfl (lt_FU (by omega))
    · intro n y hy
      show ∃ τ', pf_X11_checksum_L34 pf_X11_checksum_b59 (n + 1) 609 y (nI 8) s = _ ∧ _
      rw [pf_X11_checksum_L34, show (8 : Int32) = nI 8 from rfl, if_pos (nI_le (Nat.le_refl _) (by omega)), pf_X11_checksum_b59]
      refine up_C (fun n i (t : Int64 × St) => pf_X11_checksum_L61 n 609 t.1 (nI i) t.2) (Qn rd) (fun i t => t.1 = csA rd i ∧ MU qA qI τ t.2) (fun r => ∃ τ', r = some (csA rd (Qn rd), τ') ∧ MU qA qI τ τ') ?_ ?_ FU 0 (y, s) (Nat.zero_le _) ⟨by rw [hy, hx']; rfl, us⟩ (lt_FU (by omega))
      · rintro n ⟨z, t⟩ ⟨hz, ut⟩
        have hz' : z = _ := hz
        have ht := h.mu ut qA610 qI3
        refine ⟨t, ?_, ut⟩
        show pf_X11_checksum_L61 (n + 1) 609 z (nI (Qn rd)) t = _
        rw [pf_X11_checksum_L61, show pf_X11_get 609 0 t = _ from get_ok (k := 0) ht (by omega), bind_some, q0.1, if_pos (nI_le (Nat.le_refl _) (by omega)), hz']
      · rintro n i ⟨z, t⟩ hi ⟨hz, ut⟩
        have hz' : z = _ := hz
        have ht := h.mu ut qA610 qI3
        right
        show ∃ t' : Int64 × St, pf_X11_checksum_L61 (n + 1) 609 z (nI i) t = pf_X11_checksum_L61 n 609 t'.1 (nI (i + 1)) t'.2 ∧ _
        rw [pf_X11_checksum_L61, show pf_X11_get 609 0 t = _ from get_ok (k := 0) ht (by omega), bind_some, q0.1, if_neg (nI_ge hi (by omega))]
        exact withM X ht hi z (pf_X11_checksum_L61 n) (fun r => ∃ t' : Int64 × St, r = pf_X11_checksum_L61 n 609 t'.1 (nI (i + 1)) t'.2 ∧ t'.1 = csA rd (i + 1) ∧ MU qA qI τ t'.2) fun t2 u2 => ⟨(csQ rd i z, t2), rfl, by rw [hz']; rfl, ut.trans u2⟩
    · intro n i y hi hy
      right
      refine ⟨31 * y + (rd (5 + i)).toInt64, ?_, by rw [hy]; rfl⟩
      show pf_X11_checksum_L34 pf_X11_checksum_b59 (n + 1) 609 y (nI i) s = pf_X11_checksum_L34 pf_X11_checksum_b59 n 609 _ (nI (i + 1)) s
      rw [pf_X11_checksum_L34, show (8 : Int32) = nI 8 from rfl, if_neg (nI_ge hi (by omega)), show (5 : Int32) = nI 5 from rfl, nI_add, get_ok hs (by omega), bind_some]
      unfold pf_X11_joins
      rw [bind_some, bnd_e, nI_1]
  · rintro n i ⟨x, s⟩ hi ⟨hx, us⟩
    have hx' : x = _ := hx
    have hs := h.mu us qA610 qI3
    obtain ⟨s2, g1, g2⟩ := toldM X hs hi
    right
    refine ⟨(31 * x + (stV rd i).toInt64, s2), ?_, by rw [hx']; rfl, us.trans g2⟩
    show pf_X11_checksum_L9 pf_X11_checksum_b32 (n + 1) 609 x (nI i) s = pf_X11_checksum_L9 pf_X11_checksum_b32 n 609 _ (nI (i + 1)) s2
    rw [pf_X11_checksum_L9, show (9 : Int32) = nI 9 from rfl, if_neg (nI_ge hi (by omega)), g1, bnd2_some]
    unfold pf_X11_joins
    rw [bind_some, bnd_e, nI_1]
theorem ag_checksum (X : CX σ rd B) (h : MR τ rd) : ∃ (x : Int64) (σ' τ' : St), pf_X10_checksum 0 σ = some (.inr x, σ') ∧ Un cQ σ σ' ∧ pf_X11_checksum 609 τ = some (x, τ') ∧ MU qA qB τ τ' := by
  obtain ⟨h1, h0, u1⟩ := thr0 h
  obtain ⟨σ', c1, c2⟩ := sumC X
  obtain ⟨τ', g1, g2⟩ := sumM X h1
  unfold pf_X11_checksum
  rw [bnd_e, g1]
  exact ⟨_, _, _, c1, c2, rfl, u1.trans g2.qq⟩
end
