def zRel (Sx Sm : zS) : Prop := True
theorem zRel_ops : zOps zRel := sorry
theorem zRel_start : zRel zSX2 zI_X12_init_3 := trivial
