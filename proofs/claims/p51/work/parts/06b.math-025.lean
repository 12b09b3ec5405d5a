def fm_spec (a b : Int64) : Spec where
  pre := .and (.code fm_x fm_c 6 (some .long)) (.and (.count 2) (.and (.eq (.arg 0) (.long a)) (.eq (.arg 1) (.long b))))
  post := .and .returned (.eq .result (.long (fm a b)))
  changes := some []
