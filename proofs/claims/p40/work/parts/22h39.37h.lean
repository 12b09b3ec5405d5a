/-! ===== mark ===== -/
section ANH
variable {G : pG} {u v : pM} {Q : Option Value → pM → Prop}
end ANH
