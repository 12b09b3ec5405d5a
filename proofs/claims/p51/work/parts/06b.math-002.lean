def fm (a b : Int64) : Int64 := if (a ^^^ b) < 0 ∧ ¬ (a - a / b * b) = 0 then (a - a / b * b) + b else a - a / b * b
