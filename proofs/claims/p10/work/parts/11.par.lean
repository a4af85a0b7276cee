/-! ===== two makings of one instruction, side by side ===== -/
section PAR
variable {α β : Type} {TB : List (List Int32)} {SH : List sm_Sh} {M : sm_M} {bad : α} {need : Prop → α → α} {nam : sm_S → (sm_S → α) → α} {br : Prop → α → α → α} {call : Nat → List Value → sm_S → (Option Value → sm_S → α) → α} {ret : Option Value → sm_S → α} {K : Nat → List Value → List Value → sm_S → α}
  {bad' : β} {need' : Prop → β → β} {nam' : sm_S → (sm_S → β) → β} {br' : Prop → β → β → β} {call' : Nat → List Value → sm_S → (Option Value → sm_S → β) → β} {ret' : Option Value → sm_S → β} {K' : Nat → List Value → List Value → sm_S → β}
theorem sm_sw_par (ρ : α → β → Prop) (hbr : ∀ c a a' b b', ρ a b → ρ a' b' → ρ (br c a a') (br' c b b')) {J : Nat → α} {J' : Nat → β} (hJ : ∀ t, ρ (J t) (J' t)) (x : Int32) (d : Nat) : ∀ sw : List (Int32 × Nat), ρ (sm_sw br J x d sw) (sm_sw br' J' x d sw)
  | [] => hJ d
  | (v, t) :: r => hbr _ _ _ _ _ (hJ t) (sm_sw_par ρ hbr hJ x d r)
set_option maxHeartbeats 4000000 in
theorem sm_g_par (ρ : α → β → Prop) (hbad : ρ bad bad') (hneed : ∀ c a b, ρ a b → ρ (need c a) (need' c b)) (hnam : ∀ σ k k', (∀ σ', ρ (k σ') (k' σ')) → ρ (nam σ k) (nam' σ k')) (hbr : ∀ c a a' b b', ρ a b → ρ a' b' → ρ (br c a a') (br' c b b'))
    (hcall : ∀ j as σ k k', (∀ r σ', ρ (k r σ') (k' r σ')) → ρ (call j as σ k) (call' j as σ k')) (hret : ∀ r σ, ρ (ret r σ) (ret' r σ)) (hK : ∀ pc ls st σ, ρ (K pc ls st σ) (K' pc ls st σ)) (pc : Nat) (ls st : List Value) (σ : sm_S) :
    ρ (sm_g TB SH M bad need nam br call ret K pc ls st σ) (sm_g TB SH M bad' need' nam' br' call' ret' K' pc ls st σ) := by
  have hc : ∀ (b : Bool) (x x' : α) (z z' : β), ρ x z → ρ x' z' → ρ (bif b then x else x') (bif b then z else z') := fun b x x' z z' h h' => by cases b <;> assumption
  have hri : ∀ (R : Int32 → sm_S → α) (R' : Int32 → sm_S → β), (∀ x σ', ρ (R x σ') (R' x σ')) → ∀ r σ', ρ (sm_ri bad R r σ') (sm_ri bad' R' r σ') := fun R R' h r σ' => by unfold sm_ri; split <;> first | exact h _ _ | exact hbad
  have hrv : ∀ (R : sm_S → α) (R' : sm_S → β), (∀ σ', ρ (R σ') (R' σ')) → ∀ r σ', ρ (sm_rv bad R r σ') (sm_rv bad' R' r σ') := fun R R' h r σ' => by unfold sm_rv; split <;> first | exact h _ | exact hbad
  have hN : ∀ pc ls st σ, ρ (nam σ (fun σ' => K pc ls st σ')) (nam' σ (fun σ' => K' pc ls st σ')) := fun pc ls st σ => hnam _ _ _ (fun _ => hK _ _ _ _)
  have hI : ∀ ok pc tgt n sw ls st σ, ρ (sm_inv bad call K ok pc tgt n sw ls st σ) (sm_inv bad' call' K' ok pc tgt n sw ls st σ) := fun ok pc tgt n sw ls st σ => by
    unfold sm_inv
    split
    · refine hc _ _ _ _ _ ?_ hbad
      split
      · exact hcall _ _ _ _ _ (hrv _ _ (fun _ => hK _ _ _ _))
      · exact hcall _ _ _ _ _ (hri _ _ (fun _ _ => hK _ _ _ _))
    · exact hbad
  unfold sm_g
  split
  · exact hbad
  · split
    all_goals first
      | exact hbad
      | exact hK _ _ _ _
      | exact hret _ _
      | (unfold sm_ld; split <;> first | exact hK _ _ _ _ | exact hbad)
      | (unfold sm_la; split <;> first | exact hK _ _ _ _ | exact hbad)
      | (unfold sm_bin; split <;> first | exact hK _ _ _ _ | exact hbad)
      | (unfold sm_sti; split <;> first | exact hbad | exact hc _ _ _ _ _ (hK _ _ _ _) hbad)
      | (unfold sm_sta; split <;> first | exact hbad | exact hc _ _ _ _ _ (hK _ _ _ _) hbad)
      | exact hI _ _ _ _ _ _ _ _
      | (split <;> first | exact hbad | exact hK _ _ _ _ | exact hc _ _ _ _ _ (hK _ _ _ _) hbad | exact hneed _ _ _ (hK _ _ _ _) | exact hbr _ _ _ _ _ (hK _ _ _ _) (hK _ _ _ _) | exact sm_sw_par ρ hbr (fun t => hK _ _ _ _) _ _ _ | (split <;> first | exact hret _ _ | exact hneed _ _ _ (hret _ _) | exact hbad))
      | (unfold sm_getf; split <;> first | exact hbad | (split <;> first | exact hbad | (refine hc _ _ _ _ _ ?_ hbad; split <;> first | exact hbad | exact hK _ _ _ _ | exact hc _ _ _ _ _ (hK _ _ _ _) hbad)))
      | (unfold sm_putf; split <;> first | exact hbad | (split <;> first | exact hbad | (refine hc _ _ _ _ _ ?_ hbad; split <;> first | exact hbad | exact hN _ _ _ _ | exact hneed _ _ _ (hN _ _ _ _))))
      | (unfold sm_ald; split <;> first | exact hbad | (split <;> first | exact hc _ _ _ _ _ (hneed _ _ _ (hK _ _ _ _)) hbad | (split <;> first | exact hbad | exact hc _ _ _ _ _ (hneed _ _ _ (hK _ _ _ _)) hbad)))
      | (unfold sm_ast; split <;> first | exact hbad | (split <;> first | exact hbad | exact hc _ _ _ _ _ (hneed _ _ _ (hc _ _ _ _ _ (hN _ _ _ _) (hneed _ _ _ (hN _ _ _ _)))) hbad))
      | (unfold sm_len; split <;> first | exact hbad | (split <;> first | exact hK _ _ _ _ | exact hbad))
      | (refine hc _ _ _ _ _ ?_ ?_
         · unfold sm_cpy; split <;> first | exact hbad | (split <;> first | exact hbad | (split <;> first | exact hbad | exact hneed _ _ _ (hN _ _ _ _)))
         · refine hc _ _ _ _ _ ?_ (hc _ _ _ _ _ ?_ (hI _ _ _ _ _ _ _ _))
           · unfold sm_mm; split <;> first | exact hbad | exact hc _ _ _ _ _ (hK _ _ _ _) hbad
           · unfold sm_mm; split <;> first | exact hbad | exact hc _ _ _ _ _ (hK _ _ _ _) hbad)
end PAR
