/-! ===== the diary: steps, kinds ===== -/
section ANI
variable {G : pG} {u v : pM} {Q : Option Value → pM → Prop}
/-! steps -/
/-! kinds: kind and k by one number -/
end ANI
