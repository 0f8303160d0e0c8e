/-! ===== the start ===== -/
theorem zRel_start : zRel zSX2 zI_X12_init_3 := by
  obtain ⟨T1, q1, k1, b0, b1, b2', -⟩ := beginX (S := zI_X11_init_11) (c := 0) (by omega) rfl (fun b hb => absurd hb (by omega))
  have e1 : zSX1 = T1 := Option.some.inj (zSX1_ok.symm.trans q1)
  obtain ⟨T2, q2, k2, r0, r1, r2, r3⟩ := restartX zSX1
  have e2 : zSX2 = T2 := Option.some.inj (zSX2_ok.symm.trans q2)
  rw [e2]
  rw [e1] at k2 r3
  have x : ∀ k, k ∉ [37, 38, 39, 43, 44] → T2.1 k = zI_X11_init_11.1 k := fun k hk => by
    simp only [List.mem_cons, List.not_mem_nil, or_false, not_or] at hk
    rw [k2.2 k (by simp [hk.2.2.2.1, hk.2.2.2.2]), k1.2 k (by simp [hk.1, hk.2.1, hk.2.2.1])]
  have hN : okN 8 0 0 0 (zI_X12_init_3.1 19) := ⟨by omega, rfl, ⟨0, by omega, by omega, rfl⟩, ⟨0, by omega, by omega, rfl⟩, fun b hb => absurd hb (by omega)⟩
  have hG : gR 0 (zI_X12_init_3.1 19) (T2.1 37) (T2.1 38) (T2.1 39) := by
    rw [k2.2 37 (by decide)]
    exact ⟨b0, b1, b2', fun b hb => absurd hb (by omega)⟩
  refine ⟨⟨⟨0, by omega, ?_, rfl⟩, fun i hi => ⟨0, by omega, rfl, ?_⟩⟩, ⟨?_, ?_⟩, ⟨0, by omega, ?_, rfl, fun i hi => absurd hi (by omega)⟩, ⟨⟨0, by omega, ?_, rfl⟩, 0, by omega, ?_, rfl, fun i hi => absurd hi (by omega)⟩, ⟨0, 0, by omega, by omega, ?_, rfl, ?_, rfl, rfl, fun z => absurd rfl z, fun i hi => absurd hi (by omega)⟩, fun i hi => ?_, ⟨fun b hb => ⟨0, by omega, ?_⟩, fun b hb => ⟨0, by omega, ?_⟩⟩, 8, 0, 0, 0, ⟨by omega, by omega, by omega, by omega, by omega, ?_, rfl, ?_, rfl, ?_, rfl, ?_, rfl, ⟨0, by omega, by omega, rfl⟩, ?_, ⟨1, by omega, by omega, rfl⟩, ?_, ⟨0, by omega, ?_, fun p hp => absurd hp (by omega)⟩, fun p hp => absurd hp (by omega), fun p t hp => absurd hp (by omega)⟩, ?_, ⟨0, by omega, ?_, fun k hk => ⟨?_, fun z => absurd z (by simp)⟩⟩⟩
  · rw [x 0 (by decide)]; rfl
  · rw [x 1 (by decide)]
    show (0 : Int32) = _
    decide
  · rw [x 2 (by decide)]; rfl
  · rw [x 2 (by decide)]; rfl
  · rw [x 0 (by decide)]; rfl
  · rw [x 47 (by decide)]; rfl
  · rw [x 47 (by decide)]; rfl
  · rw [x 9 (by decide)]; rfl
  · rw [x 9 (by decide)]; rfl
  · rw [k2.1, k1.1]; rfl
  · rw [x 14 (by decide)]; rfl
  · rw [x 30 (by decide)]; rfl
  · rw [x 5 (by decide)]; rfl
  · rw [x 5 (by decide)]; rfl
  · rw [x 5 (by decide)]; rfl
  · rw [x 5 (by decide)]; rfl
  · rw [x 5 (by decide)]; rfl
  · rw [x 5 (by decide)]; rfl
  · rw [x 5 (by decide)]; rfl
  · exact rA_0 hN (fun b hb => absurd hb (by omega)) hG r0 r1 r2 (fun i hi => by
      rw [r3 i hi]
      unfold rowG
      rw [k2.2 37 (by decide), k2.2 (37 + 1) (by decide), k2.2 (37 + 2) (by decide)]) (Or.inr rfl)
  · rw [x 45 (by decide)]; rfl
  · show (0 : Int32) = _
    simp
theorem zRel_ops : zOps zRel := ⟨op_feed, op_end, op_hedge, op_fault, op_bill, op_stake, op_law, op_stands, op_falls, op_lay, op_repeal, op_pull, op_trim, op_year, op_undo, op_redo, op_will, op_lapse, op_dies, op_living, op_clashes, op_weed, op_places, op_gaps, op_widest, op_closes, op_walk, op_plan, op_joy, op_saddest, op_game, op_lies, op_ring, op_untell, op_later, op_orders, op_sure, op_ask, op_image, op_back, op_about⟩
