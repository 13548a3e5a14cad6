/-! The class's table with its current shop by name: printed by wip/gen/nvv.py -/
def nvV_K (a : Nat) : Nat := bif Nat.beq a 300 then 9 else nvB_K a
def nvV_P (a k : Nat) : Option (Option Nat) := bif Nat.beq a 0 && Nat.beq k 7 then some (some 300) else nvB_P a k
def nvV : nv_T := (nvV_K, nvB_N, nvV_P)
theorem nvV_A {b : Bool} {rg : Nat → Nat} {M : aM} (hL : LB b rg M) : nv_A nvV (tauC (cur b)) M := by
  have h : nv_A nvB (tauC (cur b)) M := LB_nv hL
  have hc : cur b < 137 := by cases b <;> decide
  have h3 : nv_s (tauC (cur b)) 300 = cur b := rfl
  refine ⟨fun a c e => ?_, h.2.1, fun a k r e => ?_⟩
  · have e : nvV_K a = c + 1 := e
    unfold nvV_K at e
    cases hb : Nat.beq a 300 with
    | true =>
      rw [hb] at e
      have e : 9 = c + 1 := e
      rw [nbT hb, h3]
      refine ⟨lo_n hL hc, ?_⟩
      rw [(hL.1.2 (cur b) (lo_n hL hc)).1, hL.2.1 (cur b) hc, show c = 8 by omega]
      cases b <;> rfl
    | false => rw [hb] at e; exact h.1 a c e
  · have e : nvV_P a k = some r := e
    unfold nvV_P at e
    cases hb : (Nat.beq a 0 && Nat.beq k 7) with
    | true =>
      rw [hb] at e
      obtain ⟨b1, b2⟩ := (Bool.and_eq_true _ _).mp hb
      cases e
      rw [nbT b1, nbT b2, nv_lo (by omega), hL.2.2.2.2.2.2.1]
      show some _ = some (nv_s (tauC (cur b)) 300)
      rw [h3]
      cases b <;> rfl
    | false => rw [hb] at e; exact h.2.2 a k r e
theorem isB_of {x : Int32} (h : 0 ≤ x.toInt ∧ x.toInt ≤ 1) : isB x = true := by
  unfold isB
  rcases (show x.toInt = 0 ∨ x.toInt = 1 by omega) with e | e
  · rw [show x = 0 from Int32.toInt_inj.mp e]; rfl
  · rw [show x = 1 from Int32.toInt_inj.mp e]; rfl
