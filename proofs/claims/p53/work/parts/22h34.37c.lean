/-! ===== agree, rent, dearest ===== -/
section ANC
variable {G : pG} {u v : pM} {Q : Option Value → pM → Prop}
end ANC
