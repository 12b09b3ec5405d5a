theorem fm_row (p : Program) : NativeRow.find? p.tables.natives fm_x.cls fm_x.name fm_x.desc = none := by
  cases p <;> exact Option.isNone_iff_eq_none.mp fm_row0
