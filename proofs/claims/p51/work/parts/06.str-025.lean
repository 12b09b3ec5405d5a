section STR
variable {G : pG} {M : pY} {pc : Nat} {l : pLo} {st : List Value} {u : pM} {Q : Option Value → pM → Prop}
theorem ws_sld {i : Int32} (hd : decode M.2.1 pc = .ok (.iaload, 1)) (hi : vp_in i (gn G)) (h : Ws G M (pc + 1) l (.int (gx G i.toNatClampNeg) :: st) u Q) : Ws G M pc l (.int i :: .ref 0 :: st) u Q := fun hs => wp_sld hd hi (h hs)
theorem ws_slen (hd : decode M.2.1 pc = .ok (.arraylength, 1)) (h : Ws G M (pc + 1) l (.int (Int32.ofNat (gn G)) :: st) u Q) : Ws G M pc l (.ref 0 :: st) u Q := fun hs => wp_slen hd (h hs)
theorem ws_tld {i : Int32} (hd : decode M.2.1 pc = .ok (.iaload, 1)) (hi : vp_in i 6) (h : Ws G M (pc + 1) l (.int (lets i.toNatClampNeg) :: st) u Q) : Ws G M pc l (.int i :: .ref 1 :: st) u Q := fun hs => wp_tld hd hi (h hs)
theorem ws_tlen (hd : decode M.2.1 pc = .ok (.arraylength, 1)) (h : Ws G M (pc + 1) l (.int 6 :: st) u Q) : Ws G M pc l (.ref 1 :: st) u Q := fun hs => wp_tlen hd (h hs)
theorem ws_gets (hcls : M.1.cls = "DoorRounds$Reader") (hd : decode M.2.1 pc = .ok (.getstatic 42, 3)) (h : Ws G M (pc + 3) l (.ref 1 :: st) u Q) : Ws G M pc l st u Q := fun hs => wp_gets hcls hd (h hs)
theorem Ws.mono {Q' : Option Value → pM → Prop} (h : Ws G M pc l st u Q') (hQ : ∀ r u, Str u → Q' r u → Q r u) : Ws G M pc l st u Q := fun hs => (h hs).mono (fun r u q => ⟨q.1, hQ r u q.1 q.2⟩)
theorem Ws.str (h : Str u → Ws G M pc l st u Q) : Ws G M pc l st u Q := fun hs => h hs hs
theorem ws_loc {l' : pLo} (ks' : List Nat) (hl : lv_pick l ks' = l') (h : Ws G M pc l' st u Q) : Ws G M pc l st u Q := fun hs => wp_loc ks' hl (h hs)
end STR
