theorem fm_row0 : (NativeRow.find? natives fm_x.cls fm_x.name fm_x.desc).isNone = true := by decide +kernel
