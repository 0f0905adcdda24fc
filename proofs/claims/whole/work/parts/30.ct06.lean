set_option maxRecDepth 100000 in
set_option maxHeartbeats 4000000 in
theorem ct_X12_isSound {G : Gx} (hG : GOK G) (p0 : Nat) (h0 : hw) (post : Int32 → hw → Prop) (hq : wp_X12_isSound G p0 h0 post) : CT G yX12_isSound cX12_isSound 1 (some .boolean) 1 30 0 0 [.ref p0] h0 (fun v h1 => ∃ r : Int32, v = some (.int r) ∧ post r h1) (fun E h1 => False) := by
  refine CT_of hG (by decide) (Nat.le_of_ble_eq_true rfl) (fun Γ hC hQ hN => ?_)
  have hC : COK G Γ "BandplanModel" cX12_isSound 1 1 30 0 0 [] := hC
  unfold wp_X12_isSound at hq
  show V G Γ 1 0 0 h0 0 [(0, .ref p0)] []
  refine V_aload_n hC dX12_isSound_0 0 rfl ?_
  refine V_iconst (v := 0) hC dX12_isSound_1 (by decide) ?_
  refine U_put hC fl_X12_98 fin_X12_0 rfl rfl dX12_isSound_2 hq (fun h1 hq => ?_)
  refine V_iconst (v := 1) hC dX12_isSound_5 (by decide) ?_
  exact V_iret hC hQ rfl rfl ⟨by decide, by decide⟩ dX12_isSound_6 ⟨_, rfl, hq⟩
