/-! ===== count ===== -/
section ANK
variable {G : pG} {u v : pM} {Q : Option Value → pM → Prop}
end ANK
