section SEG
variable {G : pG} {u : pM} {Q : Option Value → pM → Prop}
theorem sg_m_readsShop_0 {x1 : Int32}  (h : (vp_in x1 4 ∧ (((mI u 76 13) < (mI u 81 (x1 : Int32).toNatClampNeg) → vp_in (100 * x1 + (mI u 76 13)) 400) ∧ (((kindV (hereV u x1)) = (-9) → Q (some (.int 0)) u) ∧ (¬ (kindV (hereV u x1)) = (-9) → ((¬ (mI u 76 16) = 7 → Ws G m_readsNumber 0 [(0, .ref 76), (1, .int x1), (2, .int 0), (3, .int ((mI (pI u 76 13 ((mI u 76 13) + 1)) 76 15) - 1))] [] (pI u 76 13 ((mI u 76 13) + 1)) (RI fun a5 u5 => ((a5 = 0 → Q (some (.int 0)) u5) ∧ (¬ a5 = 0 → Ws G m_isTold 0 [(0, .ref 76), (1, .int (mI u5 76 14))] [] u5 (RI fun a7 u7 => ((a7 = 0 → (vp_in (35 + (5 * (mI u7 76 16))) 70 ∧ Ws G m_sees 0 [(0, .ref 76), (1, .int x1), (2, .int 58)] [] (pI u7 83 ((35 + (5 * (mI u7 76 16))) : Int32).toNatClampNeg (kindV (hereV u x1))) (RI fun a10 u10 => ((¬ a10 = 0 → (vp_in x1 4 ∧ (((mI u10 76 13) < (mI u10 81 (x1 : Int32).toNatClampNeg) → vp_in (100 * x1 + (mI u10 76 13)) 400) ∧ ((¬ (hereV u10 x1) = 45 → Ws G m_sees 0 [(0, .ref 76), (1, .int x1), (2, .int 43)] [] u10 (RI fun a15 u15 => ((¬ a15 = 0 → Ws G m_readsFigure 0 [(0, .ref 76), (1, .int x1), (2, .int 0)] [] u15 (RI fun a17 u17 => ((¬ a17 = 0 → (vp_in ((35 + (5 * (mI u7 76 16))) + 2) 70 ∧ Ws G m_sees 0 [(0, .ref 76), (1, .int x1), (2, .int 58)] [] (pI u17 83 (((35 + (5 * (mI u7 76 16))) + 2) : Int32).toNatClampNeg (mI u17 76 14)) (RI fun a21 u21 => ((a21 = 0 → Q (some (.int 0)) u21) ∧ (¬ a21 = 0 → Ws G m_readsNumber 0 [(0, .ref 76), (1, .int x1), (2, .int 1), (3, .int 99)] [] u21 (RI fun a23 u23 => ((¬ a23 = 0 → (vp_in ((35 + (5 * (mI u7 76 16))) + 3) 70 ∧ (vp_in ((35 + (5 * (mI u7 76 16))) + 4) 70 ∧ (((kindV (hereV u x1)) < 3 → (vp_in ((35 + (5 * (mI u7 76 16))) + 1) 70 ∧ Q (some (.int 1)) (pI (pI (pI (pI u23 83 (((35 + (5 * (mI u7 76 16))) + 3) : Int32).toNatClampNeg (mI u23 76 14)) 83 (((35 + (5 * (mI u7 76 16))) + 4) : Int32).toNatClampNeg 0) 83 (((35 + (5 * (mI u7 76 16))) + 1) : Int32).toNatClampNeg (mI (pI u7 83 ((35 + (5 * (mI u7 76 16))) : Int32).toNatClampNeg (kindV (hereV u x1))) 76 14)) 76 16 ((mI (pI (pI (pI u23 83 (((35 + (5 * (mI u7 76 16))) + 3) : Int32).toNatClampNeg (mI u23 76 14)) 83 (((35 + (5 * (mI u7 76 16))) + 4) : Int32).toNatClampNeg 0) 83 (((35 + (5 * (mI u7 76 16))) + 1) : Int32).toNatClampNeg (mI (pI u7 83 ((35 + (5 * (mI u7 76 16))) : Int32).toNatClampNeg (kindV (hereV u x1))) 76 14)) 76 16) + 1)))) ∧ (¬ ((kindV (hereV u x1)) < 3) → Ws G m_sees 0 [(0, .ref 76), (1, .int x1), (2, .int 58)] [] (pI (pI u23 83 (((35 + (5 * (mI u7 76 16))) + 3) : Int32).toNatClampNeg (mI u23 76 14)) 83 (((35 + (5 * (mI u7 76 16))) + 4) : Int32).toNatClampNeg 0) (RI fun a29 u29 => ((a29 = 0 → Q (some (.int 0)) u29) ∧ (¬ a29 = 0 → Ws G m_readsFigure 0 [(0, .ref 76), (1, .int x1), (2, .int 2)] [] u29 (RI fun a31 u31 => ((¬ a31 = 0 → (vp_in ((35 + (5 * (mI u7 76 16))) + 4) 70 ∧ (vp_in ((35 + (5 * (mI u7 76 16))) + 1) 70 ∧ Q (some (.int 1)) (pI (pI (pI u31 83 (((35 + (5 * (mI u7 76 16))) + 4) : Int32).toNatClampNeg (mI u31 76 14)) 83 (((35 + (5 * (mI u7 76 16))) + 1) : Int32).toNatClampNeg (mI (pI u7 83 ((35 + (5 * (mI u7 76 16))) : Int32).toNatClampNeg (kindV (hereV u x1))) 76 14)) 76 16 ((mI (pI (pI u31 83 (((35 + (5 * (mI u7 76 16))) + 4) : Int32).toNatClampNeg (mI u31 76 14)) 83 (((35 + (5 * (mI u7 76 16))) + 1) : Int32).toNatClampNeg (mI (pI u7 83 ((35 + (5 * (mI u7 76 16))) : Int32).toNatClampNeg (kindV (hereV u x1))) 76 14)) 76 16) + 1))))) ∧ (a31 = 0 → Q (some (.int 0)) u31))))))))))) ∧ (a23 = 0 → Q (some (.int 0)) u23)))))))) ∧ (a17 = 0 → Q (some (.int 0)) u17)))) ∧ (a15 = 0 → Ws G m_sees 0 [(0, .ref 76), (1, .int x1), (2, .int 45)] [] u15 (RI fun a35 u35 => ((¬ a35 = 0 → Ws G m_readsFigure 0 [(0, .ref 76), (1, .int x1), (2, .int 0)] [] u35 (RI fun a37 u37 => ((¬ a37 = 0 → (vp_in ((35 + (5 * (mI u7 76 16))) + 2) 70 ∧ Ws G m_sees 0 [(0, .ref 76), (1, .int x1), (2, .int 58)] [] (pI u37 83 (((35 + (5 * (mI u7 76 16))) + 2) : Int32).toNatClampNeg (mI u37 76 14)) (RI fun a41 u41 => ((a41 = 0 → Q (some (.int 0)) u41) ∧ (¬ a41 = 0 → Ws G m_readsNumber 0 [(0, .ref 76), (1, .int x1), (2, .int 1), (3, .int 99)] [] u41 (RI fun a43 u43 => ((¬ a43 = 0 → (vp_in ((35 + (5 * (mI u7 76 16))) + 3) 70 ∧ (vp_in ((35 + (5 * (mI u7 76 16))) + 4) 70 ∧ (((kindV (hereV u x1)) < 3 → (vp_in ((35 + (5 * (mI u7 76 16))) + 1) 70 ∧ Q (some (.int 1)) (pI (pI (pI (pI u43 83 (((35 + (5 * (mI u7 76 16))) + 3) : Int32).toNatClampNeg (mI u43 76 14)) 83 (((35 + (5 * (mI u7 76 16))) + 4) : Int32).toNatClampNeg 0) 83 (((35 + (5 * (mI u7 76 16))) + 1) : Int32).toNatClampNeg (mI (pI u7 83 ((35 + (5 * (mI u7 76 16))) : Int32).toNatClampNeg (kindV (hereV u x1))) 76 14)) 76 16 ((mI (pI (pI (pI u43 83 (((35 + (5 * (mI u7 76 16))) + 3) : Int32).toNatClampNeg (mI u43 76 14)) 83 (((35 + (5 * (mI u7 76 16))) + 4) : Int32).toNatClampNeg 0) 83 (((35 + (5 * (mI u7 76 16))) + 1) : Int32).toNatClampNeg (mI (pI u7 83 ((35 + (5 * (mI u7 76 16))) : Int32).toNatClampNeg (kindV (hereV u x1))) 76 14)) 76 16) + 1)))) ∧ (¬ ((kindV (hereV u x1)) < 3) → Ws G m_sees 0 [(0, .ref 76), (1, .int x1), (2, .int 58)] [] (pI (pI u43 83 (((35 + (5 * (mI u7 76 16))) + 3) : Int32).toNatClampNeg (mI u43 76 14)) 83 (((35 + (5 * (mI u7 76 16))) + 4) : Int32).toNatClampNeg 0) (RI fun a49 u49 => ((a49 = 0 → Q (some (.int 0)) u49) ∧ (¬ a49 = 0 → Ws G m_readsFigure 0 [(0, .ref 76), (1, .int x1), (2, .int 2)] [] u49 (RI fun a51 u51 => ((¬ a51 = 0 → (vp_in ((35 + (5 * (mI u7 76 16))) + 4) 70 ∧ (vp_in ((35 + (5 * (mI u7 76 16))) + 1) 70 ∧ Q (some (.int 1)) (pI (pI (pI u51 83 (((35 + (5 * (mI u7 76 16))) + 4) : Int32).toNatClampNeg (mI u51 76 14)) 83 (((35 + (5 * (mI u7 76 16))) + 1) : Int32).toNatClampNeg (mI (pI u7 83 ((35 + (5 * (mI u7 76 16))) : Int32).toNatClampNeg (kindV (hereV u x1))) 76 14)) 76 16 ((mI (pI (pI u51 83 (((35 + (5 * (mI u7 76 16))) + 4) : Int32).toNatClampNeg (mI u51 76 14)) 83 (((35 + (5 * (mI u7 76 16))) + 1) : Int32).toNatClampNeg (mI (pI u7 83 ((35 + (5 * (mI u7 76 16))) : Int32).toNatClampNeg (kindV (hereV u x1))) 76 14)) 76 16) + 1))))) ∧ (a51 = 0 → Q (some (.int 0)) u51))))))))))) ∧ (a43 = 0 → Q (some (.int 0)) u43)))))))) ∧ (a37 = 0 → Q (some (.int 0)) u37)))) ∧ (a35 = 0 → Q (some (.int 0)) u35))))))) ∧ ((hereV u10 x1) = 45 → Ws G m_sees 0 [(0, .ref 76), (1, .int x1), (2, .int 43)] [] u10 (RI fun a55 u55 => ((¬ a55 = 0 → Ws G m_readsFigure 0 [(0, .ref 76), (1, .int x1), (2, .int 0)] [] u55 (RI fun a57 u57 => ((¬ a57 = 0 → (vp_in ((35 + (5 * (mI u7 76 16))) + 2) 70 ∧ Ws G m_sees 0 [(0, .ref 76), (1, .int x1), (2, .int 58)] [] (pI u57 83 (((35 + (5 * (mI u7 76 16))) + 2) : Int32).toNatClampNeg (-(mI u57 76 14))) (RI fun a61 u61 => ((a61 = 0 → Q (some (.int 0)) u61) ∧ (¬ a61 = 0 → Ws G m_readsNumber 0 [(0, .ref 76), (1, .int x1), (2, .int 1), (3, .int 99)] [] u61 (RI fun a63 u63 => ((¬ a63 = 0 → (vp_in ((35 + (5 * (mI u7 76 16))) + 3) 70 ∧ (vp_in ((35 + (5 * (mI u7 76 16))) + 4) 70 ∧ (((kindV (hereV u x1)) < 3 → (vp_in ((35 + (5 * (mI u7 76 16))) + 1) 70 ∧ Q (some (.int 1)) (pI (pI (pI (pI u63 83 (((35 + (5 * (mI u7 76 16))) + 3) : Int32).toNatClampNeg (mI u63 76 14)) 83 (((35 + (5 * (mI u7 76 16))) + 4) : Int32).toNatClampNeg 0) 83 (((35 + (5 * (mI u7 76 16))) + 1) : Int32).toNatClampNeg (mI (pI u7 83 ((35 + (5 * (mI u7 76 16))) : Int32).toNatClampNeg (kindV (hereV u x1))) 76 14)) 76 16 ((mI (pI (pI (pI u63 83 (((35 + (5 * (mI u7 76 16))) + 3) : Int32).toNatClampNeg (mI u63 76 14)) 83 (((35 + (5 * (mI u7 76 16))) + 4) : Int32).toNatClampNeg 0) 83 (((35 + (5 * (mI u7 76 16))) + 1) : Int32).toNatClampNeg (mI (pI u7 83 ((35 + (5 * (mI u7 76 16))) : Int32).toNatClampNeg (kindV (hereV u x1))) 76 14)) 76 16) + 1)))) ∧ (¬ ((kindV (hereV u x1)) < 3) → Ws G m_sees 0 [(0, .ref 76), (1, .int x1), (2, .int 58)] [] (pI (pI u63 83 (((35 + (5 * (mI u7 76 16))) + 3) : Int32).toNatClampNeg (mI u63 76 14)) 83 (((35 + (5 * (mI u7 76 16))) + 4) : Int32).toNatClampNeg 0) (RI fun a69 u69 => ((a69 = 0 → Q (some (.int 0)) u69) ∧ (¬ a69 = 0 → Ws G m_readsFigure 0 [(0, .ref 76), (1, .int x1), (2, .int 2)] [] u69 (RI fun a71 u71 => ((¬ a71 = 0 → (vp_in ((35 + (5 * (mI u7 76 16))) + 4) 70 ∧ (vp_in ((35 + (5 * (mI u7 76 16))) + 1) 70 ∧ Q (some (.int 1)) (pI (pI (pI u71 83 (((35 + (5 * (mI u7 76 16))) + 4) : Int32).toNatClampNeg (mI u71 76 14)) 83 (((35 + (5 * (mI u7 76 16))) + 1) : Int32).toNatClampNeg (mI (pI u7 83 ((35 + (5 * (mI u7 76 16))) : Int32).toNatClampNeg (kindV (hereV u x1))) 76 14)) 76 16 ((mI (pI (pI u71 83 (((35 + (5 * (mI u7 76 16))) + 4) : Int32).toNatClampNeg (mI u71 76 14)) 83 (((35 + (5 * (mI u7 76 16))) + 1) : Int32).toNatClampNeg (mI (pI u7 83 ((35 + (5 * (mI u7 76 16))) : Int32).toNatClampNeg (kindV (hereV u x1))) 76 14)) 76 16) + 1))))) ∧ (a71 = 0 → Q (some (.int 0)) u71))))))))))) ∧ (a63 = 0 → Q (some (.int 0)) u63)))))))) ∧ (a57 = 0 → Q (some (.int 0)) u57)))) ∧ (a55 = 0 → Ws G m_sees 0 [(0, .ref 76), (1, .int x1), (2, .int 45)] [] u55 (RI fun a75 u75 => ((¬ a75 = 0 → Ws G m_readsFigure 0 [(0, .ref 76), (1, .int x1), (2, .int 0)] [] u75 (RI fun a77 u77 => ((¬ a77 = 0 → (vp_in ((35 + (5 * (mI u7 76 16))) + 2) 70 ∧ Ws G m_sees 0 [(0, .ref 76), (1, .int x1), (2, .int 58)] [] (pI u77 83 (((35 + (5 * (mI u7 76 16))) + 2) : Int32).toNatClampNeg (-(mI u77 76 14))) (RI fun a81 u81 => ((a81 = 0 → Q (some (.int 0)) u81) ∧ (¬ a81 = 0 → Ws G m_readsNumber 0 [(0, .ref 76), (1, .int x1), (2, .int 1), (3, .int 99)] [] u81 (RI fun a83 u83 => ((¬ a83 = 0 → (vp_in ((35 + (5 * (mI u7 76 16))) + 3) 70 ∧ (vp_in ((35 + (5 * (mI u7 76 16))) + 4) 70 ∧ (((kindV (hereV u x1)) < 3 → (vp_in ((35 + (5 * (mI u7 76 16))) + 1) 70 ∧ Q (some (.int 1)) (pI (pI (pI (pI u83 83 (((35 + (5 * (mI u7 76 16))) + 3) : Int32).toNatClampNeg (mI u83 76 14)) 83 (((35 + (5 * (mI u7 76 16))) + 4) : Int32).toNatClampNeg 0) 83 (((35 + (5 * (mI u7 76 16))) + 1) : Int32).toNatClampNeg (mI (pI u7 83 ((35 + (5 * (mI u7 76 16))) : Int32).toNatClampNeg (kindV (hereV u x1))) 76 14)) 76 16 ((mI (pI (pI (pI u83 83 (((35 + (5 * (mI u7 76 16))) + 3) : Int32).toNatClampNeg (mI u83 76 14)) 83 (((35 + (5 * (mI u7 76 16))) + 4) : Int32).toNatClampNeg 0) 83 (((35 + (5 * (mI u7 76 16))) + 1) : Int32).toNatClampNeg (mI (pI u7 83 ((35 + (5 * (mI u7 76 16))) : Int32).toNatClampNeg (kindV (hereV u x1))) 76 14)) 76 16) + 1)))) ∧ (¬ ((kindV (hereV u x1)) < 3) → Ws G m_sees 0 [(0, .ref 76), (1, .int x1), (2, .int 58)] [] (pI (pI u83 83 (((35 + (5 * (mI u7 76 16))) + 3) : Int32).toNatClampNeg (mI u83 76 14)) 83 (((35 + (5 * (mI u7 76 16))) + 4) : Int32).toNatClampNeg 0) (RI fun a89 u89 => ((a89 = 0 → Q (some (.int 0)) u89) ∧ (¬ a89 = 0 → Ws G m_readsFigure 0 [(0, .ref 76), (1, .int x1), (2, .int 2)] [] u89 (RI fun a91 u91 => ((¬ a91 = 0 → (vp_in ((35 + (5 * (mI u7 76 16))) + 4) 70 ∧ (vp_in ((35 + (5 * (mI u7 76 16))) + 1) 70 ∧ Q (some (.int 1)) (pI (pI (pI u91 83 (((35 + (5 * (mI u7 76 16))) + 4) : Int32).toNatClampNeg (mI u91 76 14)) 83 (((35 + (5 * (mI u7 76 16))) + 1) : Int32).toNatClampNeg (mI (pI u7 83 ((35 + (5 * (mI u7 76 16))) : Int32).toNatClampNeg (kindV (hereV u x1))) 76 14)) 76 16 ((mI (pI (pI u91 83 (((35 + (5 * (mI u7 76 16))) + 4) : Int32).toNatClampNeg (mI u91 76 14)) 83 (((35 + (5 * (mI u7 76 16))) + 1) : Int32).toNatClampNeg (mI (pI u7 83 ((35 + (5 * (mI u7 76 16))) : Int32).toNatClampNeg (kindV (hereV u x1))) 76 14)) 76 16) + 1))))) ∧ (a91 = 0 → Q (some (.int 0)) u91))))))))))) ∧ (a83 = 0 → Q (some (.int 0)) u83)))))))) ∧ (a77 = 0 → Q (some (.int 0)) u77)))) ∧ (a75 = 0 → Q (some (.int 0)) u75))))))))))) ∧ (a10 = 0 → Q (some (.int 0)) u10))))) ∧ (¬ a7 = 0 → Q (some (.int 0)) u7))))))) ∧ ((mI u 76 16) = 7 → Q (some (.int 0)) u))))))) : Ws G m_readsShop 0 [(0, .ref 76), (1, .int x1)] [] u Q := by
  refine ws_aload_n 0 (dcd d_m_readsShop_0 0 rfl) rfl ?_
  refine ws_iload_n 1 (dcd d_m_readsShop_0 1 rfl) rfl ?_
  obtain ⟨e1, h⟩ := h
  obtain ⟨e2, h⟩ := h
  refine ws_callVI (o := 76) (As := [.int x1]) (st := []) (la := [(0, .ref 76), (1, .int x1)]) (dcd d_m_readsShop_0 2 rfl) cv_m_here k_m_116 ⟨by decide, by decide⟩ ok_76 rfl (Nat.le_of_ble_eq_true rfl) (Nat.le_of_ble_eq_true rfl) rfl rfl (sp_m_here e1 e2) ?_
  rintro _ _ ⟨rfl, rfl⟩
  refine ws_callSI (As := [.int (hereV u x1)]) (st := []) (la := [(0, .int (hereV u x1))]) (dcd d_m_readsShop_0 3 rfl) cs_m_kindOf k_m_125 ⟨by decide, by decide⟩ rfl (Nat.le_of_ble_eq_true rfl) (Nat.le_of_ble_eq_true rfl) rfl rfl sp_m_kindOf ?_
  rintro _ _ ⟨rfl, rfl⟩
  refine ws_istore_n (l' := [(2, .int (kindV (hereV u x1))), (0, .ref 76), (1, .int x1)]) (dcd d_m_readsShop_0 4 rfl) (by decide) rfl ?_
  refine ws_iload_n 0 (dcd d_m_readsShop_0 5 rfl) rfl ?_
  refine ws_bipush (v := (-9)) (dcd d_m_readsShop_0 6 rfl) (by decide) ?_
  refine ws_icmp_eq (tgt := 24) (dcd d_m_readsShop_0 7 rfl) (by decide) (fun c3 => ?_) (fun c3 => ?_)
  · have h := h.1 c3
    refine ws_iconst (v := 0) (dcd d_m_readsShop_0 12 rfl) (by decide) ?_
    exact ws_iret (dcd d_m_readsShop_0 13 rfl) ⟨_, rfl, by decide⟩ h
  · have h := h.2 c3
    refine ws_aload_n 1 (dcd d_m_readsShop_0 8 rfl) rfl ?_
    refine ws_getI f_m_122 rfl (dcd d_m_readsShop_0 9 rfl) ok_76 ?_
    refine ws_bipush (v := 7) (dcd d_m_readsShop_0 10 rfl) (by decide) ?_
    refine ws_icmp_ne (tgt := 26) (dcd d_m_readsShop_0 11 rfl) (by decide) (fun c4 => ?_) (fun c4 => ?_)
    · have h := h.1 c4
      refine ws_aload_n 1 (dcd d_m_readsShop_0 14 rfl) rfl ?_
      refine ws_dup (dcd d_m_readsShop_0 15 rfl) rfl ?_
      refine ws_getI f_m_113 rfl (dcd d_m_readsShop_0 16 rfl) ok_76 ?_
      refine ws_iconst (v := 1) (dcd d_m_readsShop_0 17 rfl) (by decide) ?_
      refine ws_iadd (dcd d_m_readsShop_0 18 rfl) ?_
      refine ws_putI f_m_113 rfl nf_8_13 (dcd d_m_readsShop_0 19 rfl) ok_76 ?_
      refine ws_aload_n 1 (dcd d_m_readsShop_0 20 rfl) rfl ?_
      refine ws_iload_n 2 (dcd d_m_readsShop_0 21 rfl) rfl ?_
      refine ws_iconst (v := 0) (dcd d_m_readsShop_0 22 rfl) (by decide) ?_
      refine ws_aload_n 1 (dcd d_m_readsShop_0 23 rfl) rfl ?_
      refine ws_getI f_m_128 rfl (dcd d_m_readsShop_0 24 rfl) ok_76 ?_
      refine ws_iconst (v := 1) (dcd d_m_readsShop_0 25 rfl) (by decide) ?_
      refine ws_isub (dcd d_m_readsShop_0 26 rfl) ?_
      refine ws_callVI (o := 76) (As := [.int x1, .int 0, .int ((mI (pI u 76 13 ((mI u 76 13) + 1)) 76 15) - 1)]) (st := []) (la := [(0, .ref 76), (1, .int x1), (2, .int 0), (3, .int ((mI (pI u 76 13 ((mI u 76 13) + 1)) 76 15) - 1))]) (dcd d_m_readsShop_0 27 rfl) cv_m_readsNumber k_m_131 ⟨by decide, by decide⟩ ok_76 rfl (Nat.le_of_ble_eq_true rfl) (Nat.le_of_ble_eq_true rfl) rfl rfl h (fun a5 u5 h => ?_)
      refine ws_if_eq (tgt := 62) (dcd d_m_readsShop_0 28 rfl) (by decide) (fun c6 => ?_) (fun c6 => ?_)
      · have h := h.1 c6
        refine ws_iconst (v := 0) (dcd d_m_readsShop_1 4 rfl) (by decide) ?_
        exact ws_iret (dcd d_m_readsShop_1 5 rfl) ⟨_, rfl, by decide⟩ h
      · have h := h.2 c6
        refine ws_aload_n 1 (dcd d_m_readsShop_0 29 rfl) rfl ?_
        refine ws_aload_n 1 (dcd d_m_readsShop_1 0 rfl) rfl ?_
        refine ws_getI f_m_119 rfl (dcd d_m_readsShop_1 1 rfl) ok_76 ?_
        refine ws_callVI (o := 76) (As := [.int (mI u5 76 14)]) (st := []) (la := [(0, .ref 76), (1, .int (mI u5 76 14))]) (dcd d_m_readsShop_1 2 rfl) cv_m_isTold k_m_134 ⟨by decide, by decide⟩ ok_76 rfl (Nat.le_of_ble_eq_true rfl) (Nat.le_of_ble_eq_true rfl) rfl rfl h (fun a7 u7 h => ?_)
        refine ws_if_eq (tgt := 64) (dcd d_m_readsShop_1 3 rfl) (by decide) (fun c8 => ?_) (fun c8 => ?_)
        · have h := h.1 c8
          refine ws_bipush (v := 35) (dcd d_m_readsShop_1 6 rfl) (by decide) ?_
          refine ws_iconst (v := 5) (dcd d_m_readsShop_1 7 rfl) (by decide) ?_
          refine ws_aload_n 1 (dcd d_m_readsShop_1 8 rfl) rfl ?_
          refine ws_getI f_m_122 rfl (dcd d_m_readsShop_1 9 rfl) ok_76 ?_
          refine ws_imul (dcd d_m_readsShop_1 10 rfl) ?_
          refine ws_iadd (dcd d_m_readsShop_1 11 rfl) ?_
          refine ws_istore_n (l' := [(3, .int (35 + (5 * (mI u7 76 16)))), (2, .int (kindV (hereV u x1))), (0, .ref 76), (1, .int x1)]) (dcd d_m_readsShop_1 12 rfl) (by decide) rfl ?_
          refine ws_aload_n 2 (dcd d_m_readsShop_1 13 rfl) rfl ?_
          refine ws_getF (a := 83) f_m_32 rfl (dcd d_m_readsShop_1 14 rfl) ok_76 of_8_12 rfl ?_
          refine ws_iload_n 0 (dcd d_m_readsShop_1 15 rfl) rfl ?_
          refine ws_iload_n 1 (dcd d_m_readsShop_1 16 rfl) rfl ?_
          obtain ⟨e9, h⟩ := h
          refine ws_iast (L := 70) (dcd d_m_readsShop_1 17 rfl) (os_8_12 ok_76) (ol_8_12 ok_76) e9 ?_
          refine ws_aload_n 2 (dcd d_m_readsShop_1 18 rfl) rfl ?_
          refine ws_getI f_m_119 rfl (dcd d_m_readsShop_1 19 rfl) ok_76 ?_
          refine ws_istore (l' := [(4, .int (mI (pI u7 83 ((35 + (5 * (mI u7 76 16))) : Int32).toNatClampNeg (kindV (hereV u x1))) 76 14)), (3, .int (35 + (5 * (mI u7 76 16)))), (2, .int (kindV (hereV u x1))), (0, .ref 76), (1, .int x1)]) (dcd d_m_readsShop_1 20 rfl) (by decide) rfl ?_
          refine ws_aload_n 3 (dcd d_m_readsShop_1 21 rfl) rfl ?_
          refine ws_iload_n 4 (dcd d_m_readsShop_1 22 rfl) rfl ?_
          refine ws_bipush (v := 58) (dcd d_m_readsShop_1 23 rfl) (by decide) ?_
          refine ws_callVI (o := 76) (As := [.int x1, .int 58]) (st := []) (la := [(0, .ref 76), (1, .int x1), (2, .int 58)]) (dcd d_m_readsShop_1 24 rfl) cv_m_sees k_m_137 ⟨by decide, by decide⟩ ok_76 rfl (Nat.le_of_ble_eq_true rfl) (Nat.le_of_ble_eq_true rfl) rfl rfl h (fun a10 u10 h => ?_)
          refine ws_if_ne (tgt := 99) (dcd d_m_readsShop_1 25 rfl) (by decide) (fun c11 => ?_) (fun c11 => ?_)
          · have h := h.1 c11
            refine ws_aload_n 3 (dcd d_m_readsShop_1 28 rfl) rfl ?_
            refine ws_iload_n 4 (dcd d_m_readsShop_1 29 rfl) rfl ?_
            obtain ⟨e12, h⟩ := h
            obtain ⟨e13, h⟩ := h
            refine ws_callVI (o := 76) (As := [.int x1]) (st := []) (la := [(0, .ref 76), (1, .int x1)]) (dcd d_m_readsShop_2 0 rfl) cv_m_here k_m_116 ⟨by decide, by decide⟩ ok_76 rfl (Nat.le_of_ble_eq_true rfl) (Nat.le_of_ble_eq_true rfl) rfl rfl (sp_m_here e12 e13) ?_
            rintro _ _ ⟨rfl, rfl⟩
            refine ws_bipush (v := 45) (dcd d_m_readsShop_2 1 rfl) (by decide) ?_
            refine ws_icmp_ne (tgt := 113) (dcd d_m_readsShop_2 2 rfl) (by decide) (fun c14 => ?_) (fun c14 => ?_)
            · have h := h.1 c14
              refine ws_iconst (v := 0) (dcd d_m_readsShop_2 5 rfl) (by decide) ?_
              refine ws_istore (l' := [(5, .int 0), (4, .int (mI (pI u7 83 ((35 + (5 * (mI u7 76 16))) : Int32).toNatClampNeg (kindV (hereV u x1))) 76 14)), (3, .int (35 + (5 * (mI u7 76 16)))), (2, .int (kindV (hereV u x1))), (0, .ref 76), (1, .int x1)]) (dcd d_m_readsShop_2 6 rfl) (by decide) rfl ?_
              refine ws_aload_n 4 (dcd d_m_readsShop_2 7 rfl) rfl ?_
              refine ws_iload_n 5 (dcd d_m_readsShop_2 8 rfl) rfl ?_
              refine ws_bipush (v := 43) (dcd d_m_readsShop_2 9 rfl) (by decide) ?_
              refine ws_callVI (o := 76) (As := [.int x1, .int 43]) (st := []) (la := [(0, .ref 76), (1, .int x1), (2, .int 43)]) (dcd d_m_readsShop_2 10 rfl) cv_m_sees k_m_137 ⟨by decide, by decide⟩ ok_76 rfl (Nat.le_of_ble_eq_true rfl) (Nat.le_of_ble_eq_true rfl) rfl rfl h (fun a15 u15 h => ?_)
              refine ws_if_ne (tgt := 138) (dcd d_m_readsShop_2 11 rfl) (by decide) (fun c16 => ?_) (fun c16 => ?_)
              · have h := h.1 c16
                refine ws_aload_n 4 (dcd d_m_readsShop_2 19 rfl) rfl ?_
                refine ws_iload_n 5 (dcd d_m_readsShop_2 20 rfl) rfl ?_
                refine ws_iconst (v := 0) (dcd d_m_readsShop_2 21 rfl) (by decide) ?_
                refine ws_callVI (o := 76) (As := [.int x1, .int 0]) (st := []) (la := [(0, .ref 76), (1, .int x1), (2, .int 0)]) (dcd d_m_readsShop_2 22 rfl) cv_m_readsFigure k_m_141 ⟨by decide, by decide⟩ ok_76 rfl (Nat.le_of_ble_eq_true rfl) (Nat.le_of_ble_eq_true rfl) rfl rfl h (fun a17 u17 h => ?_)
                refine ws_if_ne (tgt := 149) (dcd d_m_readsShop_2 23 rfl) (by decide) (fun c18 => ?_) (fun c18 => ?_)
                · have h := h.1 c18
                  refine ws_aload_n 4 (dcd d_m_readsShop_2 26 rfl) rfl ?_
                  refine ws_getF (a := 83) f_m_32 rfl (dcd d_m_readsShop_2 27 rfl) ok_76 of_8_12 rfl ?_
                  refine ws_iload_n 2 (dcd d_m_readsShop_2 28 rfl) rfl ?_
                  refine ws_iconst (v := 2) (dcd d_m_readsShop_2 29 rfl) (by decide) ?_
                  refine ws_iadd (dcd d_m_readsShop_3 0 rfl) ?_
                  refine ws_iload 0 (dcd d_m_readsShop_3 1 rfl) rfl ?_
                  refine ws_if_eq (tgt := 169) (dcd d_m_readsShop_3 2 rfl) (by decide) (fun _ => ?_) (fun c => absurd (show (0 : Int32) = 0 from by decide) c)
                  refine ws_aload_n 4 (dcd d_m_readsShop_3 7 rfl) rfl ?_
                  refine ws_getI f_m_119 rfl (dcd d_m_readsShop_3 8 rfl) ok_76 ?_
                  obtain ⟨e20, h⟩ := h
                  refine ws_iast (L := 70) (dcd d_m_readsShop_3 9 rfl) (os_8_12 ok_76) (ol_8_12 ok_76) e20 ?_
                  refine ws_aload_n 4 (dcd d_m_readsShop_3 10 rfl) rfl ?_
                  refine ws_iload_n 5 (dcd d_m_readsShop_3 11 rfl) rfl ?_
                  refine ws_bipush (v := 58) (dcd d_m_readsShop_3 12 rfl) (by decide) ?_
                  refine ws_callVI (o := 76) (As := [.int x1, .int 58]) (st := []) (la := [(0, .ref 76), (1, .int x1), (2, .int 58)]) (dcd d_m_readsShop_3 13 rfl) cv_m_sees k_m_137 ⟨by decide, by decide⟩ ok_76 rfl (Nat.le_of_ble_eq_true rfl) (Nat.le_of_ble_eq_true rfl) rfl rfl h (fun a21 u21 h => ?_)
                  refine ws_if_eq (tgt := 195) (dcd d_m_readsShop_3 14 rfl) (by decide) (fun c22 => ?_) (fun c22 => ?_)
                  · have h := h.1 c22
                    refine ws_iconst (v := 0) (dcd d_m_readsShop_3 21 rfl) (by decide) ?_
                    exact ws_iret (dcd d_m_readsShop_3 22 rfl) ⟨_, rfl, by decide⟩ h
                  · have h := h.2 c22
                    refine ws_aload_n 4 (dcd d_m_readsShop_3 15 rfl) rfl ?_
                    refine ws_iload_n 5 (dcd d_m_readsShop_3 16 rfl) rfl ?_
                    refine ws_iconst (v := 1) (dcd d_m_readsShop_3 17 rfl) (by decide) ?_
                    refine ws_bipush (v := 99) (dcd d_m_readsShop_3 18 rfl) (by decide) ?_
                    refine ws_callVI (o := 76) (As := [.int x1, .int 1, .int 99]) (st := []) (la := [(0, .ref 76), (1, .int x1), (2, .int 1), (3, .int 99)]) (dcd d_m_readsShop_3 19 rfl) cv_m_readsNumber k_m_131 ⟨by decide, by decide⟩ ok_76 rfl (Nat.le_of_ble_eq_true rfl) (Nat.le_of_ble_eq_true rfl) rfl rfl h (fun a23 u23 h => ?_)
                    refine ws_if_ne (tgt := 197) (dcd d_m_readsShop_3 20 rfl) (by decide) (fun c24 => ?_) (fun c24 => ?_)
                    · have h := h.1 c24
                      refine ws_aload_n 4 (dcd d_m_readsShop_3 23 rfl) rfl ?_
                      refine ws_getF (a := 83) f_m_32 rfl (dcd d_m_readsShop_3 24 rfl) ok_76 of_8_12 rfl ?_
                      refine ws_iload_n 2 (dcd d_m_readsShop_3 25 rfl) rfl ?_
                      refine ws_iconst (v := 3) (dcd d_m_readsShop_3 26 rfl) (by decide) ?_
                      refine ws_iadd (dcd d_m_readsShop_3 27 rfl) ?_
                      refine ws_aload_n 4 (dcd d_m_readsShop_3 28 rfl) rfl ?_
                      refine ws_getI f_m_119 rfl (dcd d_m_readsShop_3 29 rfl) ok_76 ?_
                      obtain ⟨e25, h⟩ := h
                      refine ws_iast (L := 70) (dcd d_m_readsShop_4 0 rfl) (os_8_12 ok_76) (ol_8_12 ok_76) e25 ?_
                      refine ws_aload_n 4 (dcd d_m_readsShop_4 1 rfl) rfl ?_
                      refine ws_getF (a := 83) f_m_32 rfl (dcd d_m_readsShop_4 2 rfl) ok_76 of_8_12 rfl ?_
                      refine ws_iload_n 2 (dcd d_m_readsShop_4 3 rfl) rfl ?_
                      refine ws_iconst (v := 4) (dcd d_m_readsShop_4 4 rfl) (by decide) ?_
                      refine ws_iadd (dcd d_m_readsShop_4 5 rfl) ?_
                      refine ws_iconst (v := 0) (dcd d_m_readsShop_4 6 rfl) (by decide) ?_
                      obtain ⟨e26, h⟩ := h
                      refine ws_iast (L := 70) (dcd d_m_readsShop_4 7 rfl) (os_8_12 ok_76) (ol_8_12 ok_76) e26 ?_
                      refine ws_iload_n 3 (dcd d_m_readsShop_4 8 rfl) rfl ?_
                      refine ws_iconst (v := 3) (dcd d_m_readsShop_4 9 rfl) (by decide) ?_
                      refine ws_icmp_lt (tgt := 256) (dcd d_m_readsShop_4 10 rfl) (by decide) (fun c27 => ?_) (fun c27 => ?_)
                      · have h := h.1 c27
                        refine ws_aload_n 4 (dcd d_m_readsShop_5 1 rfl) rfl ?_
                        refine ws_getF (a := 83) f_m_32 rfl (dcd d_m_readsShop_5 2 rfl) ok_76 of_8_12 rfl ?_
                        refine ws_iload_n 2 (dcd d_m_readsShop_5 3 rfl) rfl ?_
                        refine ws_iconst (v := 1) (dcd d_m_readsShop_5 4 rfl) (by decide) ?_
                        refine ws_iadd (dcd d_m_readsShop_5 5 rfl) ?_
                        refine ws_iload 1 (dcd d_m_readsShop_5 6 rfl) rfl ?_
                        obtain ⟨e28, h⟩ := h
                        refine ws_iast (L := 70) (dcd d_m_readsShop_5 7 rfl) (os_8_12 ok_76) (ol_8_12 ok_76) e28 ?_
                        refine ws_aload_n 4 (dcd d_m_readsShop_5 8 rfl) rfl ?_
                        refine ws_dup (dcd d_m_readsShop_5 9 rfl) rfl ?_
                        refine ws_getI f_m_122 rfl (dcd d_m_readsShop_5 10 rfl) ok_76 ?_
                        refine ws_iconst (v := 1) (dcd d_m_readsShop_5 11 rfl) (by decide) ?_
                        refine ws_iadd (dcd d_m_readsShop_5 12 rfl) ?_
                        refine ws_putI f_m_122 rfl nf_8_16 (dcd d_m_readsShop_5 13 rfl) ok_76 ?_
                        refine ws_iconst (v := 1) (dcd d_m_readsShop_5 14 rfl) (by decide) ?_
                        exact ws_iret (dcd d_m_readsShop_5 15 rfl) ⟨_, rfl, by decide⟩ h
                      · have h := h.2 c27
                        refine ws_aload_n 4 (dcd d_m_readsShop_4 11 rfl) rfl ?_
                        refine ws_iload_n 5 (dcd d_m_readsShop_4 12 rfl) rfl ?_
                        refine ws_bipush (v := 58) (dcd d_m_readsShop_4 13 rfl) (by decide) ?_
                        refine ws_callVI (o := 76) (As := [.int x1, .int 58]) (st := []) (la := [(0, .ref 76), (1, .int x1), (2, .int 58)]) (dcd d_m_readsShop_4 14 rfl) cv_m_sees k_m_137 ⟨by decide, by decide⟩ ok_76 rfl (Nat.le_of_ble_eq_true rfl) (Nat.le_of_ble_eq_true rfl) rfl rfl h (fun a29 u29 h => ?_)
                        refine ws_if_eq (tgt := 242) (dcd d_m_readsShop_4 15 rfl) (by decide) (fun c30 => ?_) (fun c30 => ?_)
                        · have h := h.1 c30
                          refine ws_iconst (v := 0) (dcd d_m_readsShop_4 21 rfl) (by decide) ?_
                          exact ws_iret (dcd d_m_readsShop_4 22 rfl) ⟨_, rfl, by decide⟩ h
                        · have h := h.2 c30
                          refine ws_aload_n 4 (dcd d_m_readsShop_4 16 rfl) rfl ?_
                          refine ws_iload_n 5 (dcd d_m_readsShop_4 17 rfl) rfl ?_
                          refine ws_iconst (v := 2) (dcd d_m_readsShop_4 18 rfl) (by decide) ?_
                          refine ws_callVI (o := 76) (As := [.int x1, .int 2]) (st := []) (la := [(0, .ref 76), (1, .int x1), (2, .int 2)]) (dcd d_m_readsShop_4 19 rfl) cv_m_readsFigure k_m_141 ⟨by decide, by decide⟩ ok_76 rfl (Nat.le_of_ble_eq_true rfl) (Nat.le_of_ble_eq_true rfl) rfl rfl h (fun a31 u31 h => ?_)
                          refine ws_if_ne (tgt := 244) (dcd d_m_readsShop_4 20 rfl) (by decide) (fun c32 => ?_) (fun c32 => ?_)
                          · have h := h.1 c32
                            refine ws_aload_n 4 (dcd d_m_readsShop_4 23 rfl) rfl ?_
                            refine ws_getF (a := 83) f_m_32 rfl (dcd d_m_readsShop_4 24 rfl) ok_76 of_8_12 rfl ?_
                            refine ws_iload_n 2 (dcd d_m_readsShop_4 25 rfl) rfl ?_
                            refine ws_iconst (v := 4) (dcd d_m_readsShop_4 26 rfl) (by decide) ?_
                            refine ws_iadd (dcd d_m_readsShop_4 27 rfl) ?_
                            refine ws_aload_n 4 (dcd d_m_readsShop_4 28 rfl) rfl ?_
                            refine ws_getI f_m_119 rfl (dcd d_m_readsShop_4 29 rfl) ok_76 ?_
                            obtain ⟨e33, h⟩ := h
                            refine ws_iast (L := 70) (dcd d_m_readsShop_5 0 rfl) (os_8_12 ok_76) (ol_8_12 ok_76) e33 ?_
                            refine ws_aload_n 4 (dcd d_m_readsShop_5 1 rfl) rfl ?_
                            refine ws_getF (a := 83) f_m_32 rfl (dcd d_m_readsShop_5 2 rfl) ok_76 of_8_12 rfl ?_
                            refine ws_iload_n 2 (dcd d_m_readsShop_5 3 rfl) rfl ?_
                            refine ws_iconst (v := 1) (dcd d_m_readsShop_5 4 rfl) (by decide) ?_
                            refine ws_iadd (dcd d_m_readsShop_5 5 rfl) ?_
                            refine ws_iload 1 (dcd d_m_readsShop_5 6 rfl) rfl ?_
                            obtain ⟨e34, h⟩ := h
                            refine ws_iast (L := 70) (dcd d_m_readsShop_5 7 rfl) (os_8_12 ok_76) (ol_8_12 ok_76) e34 ?_
                            refine ws_aload_n 4 (dcd d_m_readsShop_5 8 rfl) rfl ?_
                            refine ws_dup (dcd d_m_readsShop_5 9 rfl) rfl ?_
                            refine ws_getI f_m_122 rfl (dcd d_m_readsShop_5 10 rfl) ok_76 ?_
                            refine ws_iconst (v := 1) (dcd d_m_readsShop_5 11 rfl) (by decide) ?_
                            refine ws_iadd (dcd d_m_readsShop_5 12 rfl) ?_
                            refine ws_putI f_m_122 rfl nf_8_16 (dcd d_m_readsShop_5 13 rfl) ok_76 ?_
                            refine ws_iconst (v := 1) (dcd d_m_readsShop_5 14 rfl) (by decide) ?_
                            exact ws_iret (dcd d_m_readsShop_5 15 rfl) ⟨_, rfl, by decide⟩ h
                          · have h := h.2 c32
                            refine ws_iconst (v := 0) (dcd d_m_readsShop_4 21 rfl) (by decide) ?_
                            exact ws_iret (dcd d_m_readsShop_4 22 rfl) ⟨_, rfl, by decide⟩ h
                    · have h := h.2 c24
                      refine ws_iconst (v := 0) (dcd d_m_readsShop_3 21 rfl) (by decide) ?_
                      exact ws_iret (dcd d_m_readsShop_3 22 rfl) ⟨_, rfl, by decide⟩ h
                · have h := h.2 c18
                  refine ws_iconst (v := 0) (dcd d_m_readsShop_2 24 rfl) (by decide) ?_
                  exact ws_iret (dcd d_m_readsShop_2 25 rfl) ⟨_, rfl, by decide⟩ h
              · have h := h.2 c16
                refine ws_aload_n 4 (dcd d_m_readsShop_2 12 rfl) rfl ?_
                refine ws_iload_n 5 (dcd d_m_readsShop_2 13 rfl) rfl ?_
                refine ws_bipush (v := 45) (dcd d_m_readsShop_2 14 rfl) (by decide) ?_
                refine ws_callVI (o := 76) (As := [.int x1, .int 45]) (st := []) (la := [(0, .ref 76), (1, .int x1), (2, .int 45)]) (dcd d_m_readsShop_2 15 rfl) cv_m_sees k_m_137 ⟨by decide, by decide⟩ ok_76 rfl (Nat.le_of_ble_eq_true rfl) (Nat.le_of_ble_eq_true rfl) rfl rfl h (fun a35 u35 h => ?_)
                refine ws_if_ne (tgt := 138) (dcd d_m_readsShop_2 16 rfl) (by decide) (fun c36 => ?_) (fun c36 => ?_)
                · have h := h.1 c36
                  refine ws_aload_n 4 (dcd d_m_readsShop_2 19 rfl) rfl ?_
                  refine ws_iload_n 5 (dcd d_m_readsShop_2 20 rfl) rfl ?_
                  refine ws_iconst (v := 0) (dcd d_m_readsShop_2 21 rfl) (by decide) ?_
                  refine ws_callVI (o := 76) (As := [.int x1, .int 0]) (st := []) (la := [(0, .ref 76), (1, .int x1), (2, .int 0)]) (dcd d_m_readsShop_2 22 rfl) cv_m_readsFigure k_m_141 ⟨by decide, by decide⟩ ok_76 rfl (Nat.le_of_ble_eq_true rfl) (Nat.le_of_ble_eq_true rfl) rfl rfl h (fun a37 u37 h => ?_)
                  refine ws_if_ne (tgt := 149) (dcd d_m_readsShop_2 23 rfl) (by decide) (fun c38 => ?_) (fun c38 => ?_)
                  · have h := h.1 c38
                    refine ws_aload_n 4 (dcd d_m_readsShop_2 26 rfl) rfl ?_
                    refine ws_getF (a := 83) f_m_32 rfl (dcd d_m_readsShop_2 27 rfl) ok_76 of_8_12 rfl ?_
                    refine ws_iload_n 2 (dcd d_m_readsShop_2 28 rfl) rfl ?_
                    refine ws_iconst (v := 2) (dcd d_m_readsShop_2 29 rfl) (by decide) ?_
                    refine ws_iadd (dcd d_m_readsShop_3 0 rfl) ?_
                    refine ws_iload 0 (dcd d_m_readsShop_3 1 rfl) rfl ?_
                    refine ws_if_eq (tgt := 169) (dcd d_m_readsShop_3 2 rfl) (by decide) (fun _ => ?_) (fun c => absurd (show (0 : Int32) = 0 from by decide) c)
                    refine ws_aload_n 4 (dcd d_m_readsShop_3 7 rfl) rfl ?_
                    refine ws_getI f_m_119 rfl (dcd d_m_readsShop_3 8 rfl) ok_76 ?_
                    obtain ⟨e40, h⟩ := h
                    refine ws_iast (L := 70) (dcd d_m_readsShop_3 9 rfl) (os_8_12 ok_76) (ol_8_12 ok_76) e40 ?_
                    refine ws_aload_n 4 (dcd d_m_readsShop_3 10 rfl) rfl ?_
                    refine ws_iload_n 5 (dcd d_m_readsShop_3 11 rfl) rfl ?_
                    refine ws_bipush (v := 58) (dcd d_m_readsShop_3 12 rfl) (by decide) ?_
                    refine ws_callVI (o := 76) (As := [.int x1, .int 58]) (st := []) (la := [(0, .ref 76), (1, .int x1), (2, .int 58)]) (dcd d_m_readsShop_3 13 rfl) cv_m_sees k_m_137 ⟨by decide, by decide⟩ ok_76 rfl (Nat.le_of_ble_eq_true rfl) (Nat.le_of_ble_eq_true rfl) rfl rfl h (fun a41 u41 h => ?_)
                    refine ws_if_eq (tgt := 195) (dcd d_m_readsShop_3 14 rfl) (by decide) (fun c42 => ?_) (fun c42 => ?_)
                    · have h := h.1 c42
                      refine ws_iconst (v := 0) (dcd d_m_readsShop_3 21 rfl) (by decide) ?_
                      exact ws_iret (dcd d_m_readsShop_3 22 rfl) ⟨_, rfl, by decide⟩ h
                    · have h := h.2 c42
                      refine ws_aload_n 4 (dcd d_m_readsShop_3 15 rfl) rfl ?_
                      refine ws_iload_n 5 (dcd d_m_readsShop_3 16 rfl) rfl ?_
                      refine ws_iconst (v := 1) (dcd d_m_readsShop_3 17 rfl) (by decide) ?_
                      refine ws_bipush (v := 99) (dcd d_m_readsShop_3 18 rfl) (by decide) ?_
                      refine ws_callVI (o := 76) (As := [.int x1, .int 1, .int 99]) (st := []) (la := [(0, .ref 76), (1, .int x1), (2, .int 1), (3, .int 99)]) (dcd d_m_readsShop_3 19 rfl) cv_m_readsNumber k_m_131 ⟨by decide, by decide⟩ ok_76 rfl (Nat.le_of_ble_eq_true rfl) (Nat.le_of_ble_eq_true rfl) rfl rfl h (fun a43 u43 h => ?_)
                      refine ws_if_ne (tgt := 197) (dcd d_m_readsShop_3 20 rfl) (by decide) (fun c44 => ?_) (fun c44 => ?_)
                      · have h := h.1 c44
                        refine ws_aload_n 4 (dcd d_m_readsShop_3 23 rfl) rfl ?_
                        refine ws_getF (a := 83) f_m_32 rfl (dcd d_m_readsShop_3 24 rfl) ok_76 of_8_12 rfl ?_
                        refine ws_iload_n 2 (dcd d_m_readsShop_3 25 rfl) rfl ?_
                        refine ws_iconst (v := 3) (dcd d_m_readsShop_3 26 rfl) (by decide) ?_
                        refine ws_iadd (dcd d_m_readsShop_3 27 rfl) ?_
                        refine ws_aload_n 4 (dcd d_m_readsShop_3 28 rfl) rfl ?_
                        refine ws_getI f_m_119 rfl (dcd d_m_readsShop_3 29 rfl) ok_76 ?_
                        obtain ⟨e45, h⟩ := h
                        refine ws_iast (L := 70) (dcd d_m_readsShop_4 0 rfl) (os_8_12 ok_76) (ol_8_12 ok_76) e45 ?_
                        refine ws_aload_n 4 (dcd d_m_readsShop_4 1 rfl) rfl ?_
                        refine ws_getF (a := 83) f_m_32 rfl (dcd d_m_readsShop_4 2 rfl) ok_76 of_8_12 rfl ?_
                        refine ws_iload_n 2 (dcd d_m_readsShop_4 3 rfl) rfl ?_
                        refine ws_iconst (v := 4) (dcd d_m_readsShop_4 4 rfl) (by decide) ?_
                        refine ws_iadd (dcd d_m_readsShop_4 5 rfl) ?_
                        refine ws_iconst (v := 0) (dcd d_m_readsShop_4 6 rfl) (by decide) ?_
                        obtain ⟨e46, h⟩ := h
                        refine ws_iast (L := 70) (dcd d_m_readsShop_4 7 rfl) (os_8_12 ok_76) (ol_8_12 ok_76) e46 ?_
                        refine ws_iload_n 3 (dcd d_m_readsShop_4 8 rfl) rfl ?_
                        refine ws_iconst (v := 3) (dcd d_m_readsShop_4 9 rfl) (by decide) ?_
                        refine ws_icmp_lt (tgt := 256) (dcd d_m_readsShop_4 10 rfl) (by decide) (fun c47 => ?_) (fun c47 => ?_)
                        · have h := h.1 c47
                          refine ws_aload_n 4 (dcd d_m_readsShop_5 1 rfl) rfl ?_
                          refine ws_getF (a := 83) f_m_32 rfl (dcd d_m_readsShop_5 2 rfl) ok_76 of_8_12 rfl ?_
                          refine ws_iload_n 2 (dcd d_m_readsShop_5 3 rfl) rfl ?_
                          refine ws_iconst (v := 1) (dcd d_m_readsShop_5 4 rfl) (by decide) ?_
                          refine ws_iadd (dcd d_m_readsShop_5 5 rfl) ?_
                          refine ws_iload 1 (dcd d_m_readsShop_5 6 rfl) rfl ?_
                          obtain ⟨e48, h⟩ := h
                          refine ws_iast (L := 70) (dcd d_m_readsShop_5 7 rfl) (os_8_12 ok_76) (ol_8_12 ok_76) e48 ?_
                          refine ws_aload_n 4 (dcd d_m_readsShop_5 8 rfl) rfl ?_
                          refine ws_dup (dcd d_m_readsShop_5 9 rfl) rfl ?_
                          refine ws_getI f_m_122 rfl (dcd d_m_readsShop_5 10 rfl) ok_76 ?_
                          refine ws_iconst (v := 1) (dcd d_m_readsShop_5 11 rfl) (by decide) ?_
                          refine ws_iadd (dcd d_m_readsShop_5 12 rfl) ?_
                          refine ws_putI f_m_122 rfl nf_8_16 (dcd d_m_readsShop_5 13 rfl) ok_76 ?_
                          refine ws_iconst (v := 1) (dcd d_m_readsShop_5 14 rfl) (by decide) ?_
                          exact ws_iret (dcd d_m_readsShop_5 15 rfl) ⟨_, rfl, by decide⟩ h
                        · have h := h.2 c47
                          refine ws_aload_n 4 (dcd d_m_readsShop_4 11 rfl) rfl ?_
                          refine ws_iload_n 5 (dcd d_m_readsShop_4 12 rfl) rfl ?_
                          refine ws_bipush (v := 58) (dcd d_m_readsShop_4 13 rfl) (by decide) ?_
                          refine ws_callVI (o := 76) (As := [.int x1, .int 58]) (st := []) (la := [(0, .ref 76), (1, .int x1), (2, .int 58)]) (dcd d_m_readsShop_4 14 rfl) cv_m_sees k_m_137 ⟨by decide, by decide⟩ ok_76 rfl (Nat.le_of_ble_eq_true rfl) (Nat.le_of_ble_eq_true rfl) rfl rfl h (fun a49 u49 h => ?_)
                          refine ws_if_eq (tgt := 242) (dcd d_m_readsShop_4 15 rfl) (by decide) (fun c50 => ?_) (fun c50 => ?_)
                          · have h := h.1 c50
                            refine ws_iconst (v := 0) (dcd d_m_readsShop_4 21 rfl) (by decide) ?_
                            exact ws_iret (dcd d_m_readsShop_4 22 rfl) ⟨_, rfl, by decide⟩ h
                          · have h := h.2 c50
                            refine ws_aload_n 4 (dcd d_m_readsShop_4 16 rfl) rfl ?_
                            refine ws_iload_n 5 (dcd d_m_readsShop_4 17 rfl) rfl ?_
                            refine ws_iconst (v := 2) (dcd d_m_readsShop_4 18 rfl) (by decide) ?_
                            refine ws_callVI (o := 76) (As := [.int x1, .int 2]) (st := []) (la := [(0, .ref 76), (1, .int x1), (2, .int 2)]) (dcd d_m_readsShop_4 19 rfl) cv_m_readsFigure k_m_141 ⟨by decide, by decide⟩ ok_76 rfl (Nat.le_of_ble_eq_true rfl) (Nat.le_of_ble_eq_true rfl) rfl rfl h (fun a51 u51 h => ?_)
                            refine ws_if_ne (tgt := 244) (dcd d_m_readsShop_4 20 rfl) (by decide) (fun c52 => ?_) (fun c52 => ?_)
                            · have h := h.1 c52
                              refine ws_aload_n 4 (dcd d_m_readsShop_4 23 rfl) rfl ?_
                              refine ws_getF (a := 83) f_m_32 rfl (dcd d_m_readsShop_4 24 rfl) ok_76 of_8_12 rfl ?_
                              refine ws_iload_n 2 (dcd d_m_readsShop_4 25 rfl) rfl ?_
                              refine ws_iconst (v := 4) (dcd d_m_readsShop_4 26 rfl) (by decide) ?_
                              refine ws_iadd (dcd d_m_readsShop_4 27 rfl) ?_
                              refine ws_aload_n 4 (dcd d_m_readsShop_4 28 rfl) rfl ?_
                              refine ws_getI f_m_119 rfl (dcd d_m_readsShop_4 29 rfl) ok_76 ?_
                              obtain ⟨e53, h⟩ := h
                              refine ws_iast (L := 70) (dcd d_m_readsShop_5 0 rfl) (os_8_12 ok_76) (ol_8_12 ok_76) e53 ?_
                              refine ws_aload_n 4 (dcd d_m_readsShop_5 1 rfl) rfl ?_
                              refine ws_getF (a := 83) f_m_32 rfl (dcd d_m_readsShop_5 2 rfl) ok_76 of_8_12 rfl ?_
                              refine ws_iload_n 2 (dcd d_m_readsShop_5 3 rfl) rfl ?_
                              refine ws_iconst (v := 1) (dcd d_m_readsShop_5 4 rfl) (by decide) ?_
                              refine ws_iadd (dcd d_m_readsShop_5 5 rfl) ?_
                              refine ws_iload 1 (dcd d_m_readsShop_5 6 rfl) rfl ?_
                              obtain ⟨e54, h⟩ := h
                              refine ws_iast (L := 70) (dcd d_m_readsShop_5 7 rfl) (os_8_12 ok_76) (ol_8_12 ok_76) e54 ?_
                              refine ws_aload_n 4 (dcd d_m_readsShop_5 8 rfl) rfl ?_
                              refine ws_dup (dcd d_m_readsShop_5 9 rfl) rfl ?_
                              refine ws_getI f_m_122 rfl (dcd d_m_readsShop_5 10 rfl) ok_76 ?_
                              refine ws_iconst (v := 1) (dcd d_m_readsShop_5 11 rfl) (by decide) ?_
                              refine ws_iadd (dcd d_m_readsShop_5 12 rfl) ?_
                              refine ws_putI f_m_122 rfl nf_8_16 (dcd d_m_readsShop_5 13 rfl) ok_76 ?_
                              refine ws_iconst (v := 1) (dcd d_m_readsShop_5 14 rfl) (by decide) ?_
                              exact ws_iret (dcd d_m_readsShop_5 15 rfl) ⟨_, rfl, by decide⟩ h
                            · have h := h.2 c52
                              refine ws_iconst (v := 0) (dcd d_m_readsShop_4 21 rfl) (by decide) ?_
                              exact ws_iret (dcd d_m_readsShop_4 22 rfl) ⟨_, rfl, by decide⟩ h
                      · have h := h.2 c44
                        refine ws_iconst (v := 0) (dcd d_m_readsShop_3 21 rfl) (by decide) ?_
                        exact ws_iret (dcd d_m_readsShop_3 22 rfl) ⟨_, rfl, by decide⟩ h
                  · have h := h.2 c38
                    refine ws_iconst (v := 0) (dcd d_m_readsShop_2 24 rfl) (by decide) ?_
                    exact ws_iret (dcd d_m_readsShop_2 25 rfl) ⟨_, rfl, by decide⟩ h
                · have h := h.2 c36
                  refine ws_iconst (v := 0) (dcd d_m_readsShop_2 17 rfl) (by decide) ?_
                  exact ws_iret (dcd d_m_readsShop_2 18 rfl) ⟨_, rfl, by decide⟩ h
            · have h := h.2 c14
              refine ws_iconst (v := 1) (dcd d_m_readsShop_2 3 rfl) (by decide) ?_
              refine ws_goto (tgt := 114) (dcd d_m_readsShop_2 4 rfl) (by decide) ?_
              refine ws_istore (l' := [(5, .int 1), (4, .int (mI (pI u7 83 ((35 + (5 * (mI u7 76 16))) : Int32).toNatClampNeg (kindV (hereV u x1))) 76 14)), (3, .int (35 + (5 * (mI u7 76 16)))), (2, .int (kindV (hereV u x1))), (0, .ref 76), (1, .int x1)]) (dcd d_m_readsShop_2 6 rfl) (by decide) rfl ?_
              refine ws_aload_n 4 (dcd d_m_readsShop_2 7 rfl) rfl ?_
              refine ws_iload_n 5 (dcd d_m_readsShop_2 8 rfl) rfl ?_
              refine ws_bipush (v := 43) (dcd d_m_readsShop_2 9 rfl) (by decide) ?_
              refine ws_callVI (o := 76) (As := [.int x1, .int 43]) (st := []) (la := [(0, .ref 76), (1, .int x1), (2, .int 43)]) (dcd d_m_readsShop_2 10 rfl) cv_m_sees k_m_137 ⟨by decide, by decide⟩ ok_76 rfl (Nat.le_of_ble_eq_true rfl) (Nat.le_of_ble_eq_true rfl) rfl rfl h (fun a55 u55 h => ?_)
              refine ws_if_ne (tgt := 138) (dcd d_m_readsShop_2 11 rfl) (by decide) (fun c56 => ?_) (fun c56 => ?_)
              · have h := h.1 c56
                refine ws_aload_n 4 (dcd d_m_readsShop_2 19 rfl) rfl ?_
                refine ws_iload_n 5 (dcd d_m_readsShop_2 20 rfl) rfl ?_
                refine ws_iconst (v := 0) (dcd d_m_readsShop_2 21 rfl) (by decide) ?_
                refine ws_callVI (o := 76) (As := [.int x1, .int 0]) (st := []) (la := [(0, .ref 76), (1, .int x1), (2, .int 0)]) (dcd d_m_readsShop_2 22 rfl) cv_m_readsFigure k_m_141 ⟨by decide, by decide⟩ ok_76 rfl (Nat.le_of_ble_eq_true rfl) (Nat.le_of_ble_eq_true rfl) rfl rfl h (fun a57 u57 h => ?_)
                refine ws_if_ne (tgt := 149) (dcd d_m_readsShop_2 23 rfl) (by decide) (fun c58 => ?_) (fun c58 => ?_)
                · have h := h.1 c58
                  refine ws_aload_n 4 (dcd d_m_readsShop_2 26 rfl) rfl ?_
                  refine ws_getF (a := 83) f_m_32 rfl (dcd d_m_readsShop_2 27 rfl) ok_76 of_8_12 rfl ?_
                  refine ws_iload_n 2 (dcd d_m_readsShop_2 28 rfl) rfl ?_
                  refine ws_iconst (v := 2) (dcd d_m_readsShop_2 29 rfl) (by decide) ?_
                  refine ws_iadd (dcd d_m_readsShop_3 0 rfl) ?_
                  refine ws_iload 0 (dcd d_m_readsShop_3 1 rfl) rfl ?_
                  refine ws_if_eq (tgt := 169) (dcd d_m_readsShop_3 2 rfl) (by decide) (fun c => absurd c (by decide)) (fun _ => ?_)
                  refine ws_aload_n 4 (dcd d_m_readsShop_3 3 rfl) rfl ?_
                  refine ws_getI f_m_119 rfl (dcd d_m_readsShop_3 4 rfl) ok_76 ?_
                  refine ws_ineg (dcd d_m_readsShop_3 5 rfl) ?_
                  refine ws_goto (tgt := 173) (dcd d_m_readsShop_3 6 rfl) (by decide) ?_
                  obtain ⟨e60, h⟩ := h
                  refine ws_iast (L := 70) (dcd d_m_readsShop_3 9 rfl) (os_8_12 ok_76) (ol_8_12 ok_76) e60 ?_
                  refine ws_aload_n 4 (dcd d_m_readsShop_3 10 rfl) rfl ?_
                  refine ws_iload_n 5 (dcd d_m_readsShop_3 11 rfl) rfl ?_
                  refine ws_bipush (v := 58) (dcd d_m_readsShop_3 12 rfl) (by decide) ?_
                  refine ws_callVI (o := 76) (As := [.int x1, .int 58]) (st := []) (la := [(0, .ref 76), (1, .int x1), (2, .int 58)]) (dcd d_m_readsShop_3 13 rfl) cv_m_sees k_m_137 ⟨by decide, by decide⟩ ok_76 rfl (Nat.le_of_ble_eq_true rfl) (Nat.le_of_ble_eq_true rfl) rfl rfl h (fun a61 u61 h => ?_)
                  refine ws_if_eq (tgt := 195) (dcd d_m_readsShop_3 14 rfl) (by decide) (fun c62 => ?_) (fun c62 => ?_)
                  · have h := h.1 c62
                    refine ws_iconst (v := 0) (dcd d_m_readsShop_3 21 rfl) (by decide) ?_
                    exact ws_iret (dcd d_m_readsShop_3 22 rfl) ⟨_, rfl, by decide⟩ h
                  · have h := h.2 c62
                    refine ws_aload_n 4 (dcd d_m_readsShop_3 15 rfl) rfl ?_
                    refine ws_iload_n 5 (dcd d_m_readsShop_3 16 rfl) rfl ?_
                    refine ws_iconst (v := 1) (dcd d_m_readsShop_3 17 rfl) (by decide) ?_
                    refine ws_bipush (v := 99) (dcd d_m_readsShop_3 18 rfl) (by decide) ?_
                    refine ws_callVI (o := 76) (As := [.int x1, .int 1, .int 99]) (st := []) (la := [(0, .ref 76), (1, .int x1), (2, .int 1), (3, .int 99)]) (dcd d_m_readsShop_3 19 rfl) cv_m_readsNumber k_m_131 ⟨by decide, by decide⟩ ok_76 rfl (Nat.le_of_ble_eq_true rfl) (Nat.le_of_ble_eq_true rfl) rfl rfl h (fun a63 u63 h => ?_)
                    refine ws_if_ne (tgt := 197) (dcd d_m_readsShop_3 20 rfl) (by decide) (fun c64 => ?_) (fun c64 => ?_)
                    · have h := h.1 c64
                      refine ws_aload_n 4 (dcd d_m_readsShop_3 23 rfl) rfl ?_
                      refine ws_getF (a := 83) f_m_32 rfl (dcd d_m_readsShop_3 24 rfl) ok_76 of_8_12 rfl ?_
                      refine ws_iload_n 2 (dcd d_m_readsShop_3 25 rfl) rfl ?_
                      refine ws_iconst (v := 3) (dcd d_m_readsShop_3 26 rfl) (by decide) ?_
                      refine ws_iadd (dcd d_m_readsShop_3 27 rfl) ?_
                      refine ws_aload_n 4 (dcd d_m_readsShop_3 28 rfl) rfl ?_
                      refine ws_getI f_m_119 rfl (dcd d_m_readsShop_3 29 rfl) ok_76 ?_
                      obtain ⟨e65, h⟩ := h
                      refine ws_iast (L := 70) (dcd d_m_readsShop_4 0 rfl) (os_8_12 ok_76) (ol_8_12 ok_76) e65 ?_
                      refine ws_aload_n 4 (dcd d_m_readsShop_4 1 rfl) rfl ?_
                      refine ws_getF (a := 83) f_m_32 rfl (dcd d_m_readsShop_4 2 rfl) ok_76 of_8_12 rfl ?_
                      refine ws_iload_n 2 (dcd d_m_readsShop_4 3 rfl) rfl ?_
                      refine ws_iconst (v := 4) (dcd d_m_readsShop_4 4 rfl) (by decide) ?_
                      refine ws_iadd (dcd d_m_readsShop_4 5 rfl) ?_
                      refine ws_iconst (v := 0) (dcd d_m_readsShop_4 6 rfl) (by decide) ?_
                      obtain ⟨e66, h⟩ := h
                      refine ws_iast (L := 70) (dcd d_m_readsShop_4 7 rfl) (os_8_12 ok_76) (ol_8_12 ok_76) e66 ?_
                      refine ws_iload_n 3 (dcd d_m_readsShop_4 8 rfl) rfl ?_
                      refine ws_iconst (v := 3) (dcd d_m_readsShop_4 9 rfl) (by decide) ?_
                      refine ws_icmp_lt (tgt := 256) (dcd d_m_readsShop_4 10 rfl) (by decide) (fun c67 => ?_) (fun c67 => ?_)
                      · have h := h.1 c67
                        refine ws_aload_n 4 (dcd d_m_readsShop_5 1 rfl) rfl ?_
                        refine ws_getF (a := 83) f_m_32 rfl (dcd d_m_readsShop_5 2 rfl) ok_76 of_8_12 rfl ?_
                        refine ws_iload_n 2 (dcd d_m_readsShop_5 3 rfl) rfl ?_
                        refine ws_iconst (v := 1) (dcd d_m_readsShop_5 4 rfl) (by decide) ?_
                        refine ws_iadd (dcd d_m_readsShop_5 5 rfl) ?_
                        refine ws_iload 1 (dcd d_m_readsShop_5 6 rfl) rfl ?_
                        obtain ⟨e68, h⟩ := h
                        refine ws_iast (L := 70) (dcd d_m_readsShop_5 7 rfl) (os_8_12 ok_76) (ol_8_12 ok_76) e68 ?_
                        refine ws_aload_n 4 (dcd d_m_readsShop_5 8 rfl) rfl ?_
                        refine ws_dup (dcd d_m_readsShop_5 9 rfl) rfl ?_
                        refine ws_getI f_m_122 rfl (dcd d_m_readsShop_5 10 rfl) ok_76 ?_
                        refine ws_iconst (v := 1) (dcd d_m_readsShop_5 11 rfl) (by decide) ?_
                        refine ws_iadd (dcd d_m_readsShop_5 12 rfl) ?_
                        refine ws_putI f_m_122 rfl nf_8_16 (dcd d_m_readsShop_5 13 rfl) ok_76 ?_
                        refine ws_iconst (v := 1) (dcd d_m_readsShop_5 14 rfl) (by decide) ?_
                        exact ws_iret (dcd d_m_readsShop_5 15 rfl) ⟨_, rfl, by decide⟩ h
                      · have h := h.2 c67
                        refine ws_aload_n 4 (dcd d_m_readsShop_4 11 rfl) rfl ?_
                        refine ws_iload_n 5 (dcd d_m_readsShop_4 12 rfl) rfl ?_
                        refine ws_bipush (v := 58) (dcd d_m_readsShop_4 13 rfl) (by decide) ?_
                        refine ws_callVI (o := 76) (As := [.int x1, .int 58]) (st := []) (la := [(0, .ref 76), (1, .int x1), (2, .int 58)]) (dcd d_m_readsShop_4 14 rfl) cv_m_sees k_m_137 ⟨by decide, by decide⟩ ok_76 rfl (Nat.le_of_ble_eq_true rfl) (Nat.le_of_ble_eq_true rfl) rfl rfl h (fun a69 u69 h => ?_)
                        refine ws_if_eq (tgt := 242) (dcd d_m_readsShop_4 15 rfl) (by decide) (fun c70 => ?_) (fun c70 => ?_)
                        · have h := h.1 c70
                          refine ws_iconst (v := 0) (dcd d_m_readsShop_4 21 rfl) (by decide) ?_
                          exact ws_iret (dcd d_m_readsShop_4 22 rfl) ⟨_, rfl, by decide⟩ h
                        · have h := h.2 c70
                          refine ws_aload_n 4 (dcd d_m_readsShop_4 16 rfl) rfl ?_
                          refine ws_iload_n 5 (dcd d_m_readsShop_4 17 rfl) rfl ?_
                          refine ws_iconst (v := 2) (dcd d_m_readsShop_4 18 rfl) (by decide) ?_
                          refine ws_callVI (o := 76) (As := [.int x1, .int 2]) (st := []) (la := [(0, .ref 76), (1, .int x1), (2, .int 2)]) (dcd d_m_readsShop_4 19 rfl) cv_m_readsFigure k_m_141 ⟨by decide, by decide⟩ ok_76 rfl (Nat.le_of_ble_eq_true rfl) (Nat.le_of_ble_eq_true rfl) rfl rfl h (fun a71 u71 h => ?_)
                          refine ws_if_ne (tgt := 244) (dcd d_m_readsShop_4 20 rfl) (by decide) (fun c72 => ?_) (fun c72 => ?_)
                          · have h := h.1 c72
                            refine ws_aload_n 4 (dcd d_m_readsShop_4 23 rfl) rfl ?_
                            refine ws_getF (a := 83) f_m_32 rfl (dcd d_m_readsShop_4 24 rfl) ok_76 of_8_12 rfl ?_
                            refine ws_iload_n 2 (dcd d_m_readsShop_4 25 rfl) rfl ?_
                            refine ws_iconst (v := 4) (dcd d_m_readsShop_4 26 rfl) (by decide) ?_
                            refine ws_iadd (dcd d_m_readsShop_4 27 rfl) ?_
                            refine ws_aload_n 4 (dcd d_m_readsShop_4 28 rfl) rfl ?_
                            refine ws_getI f_m_119 rfl (dcd d_m_readsShop_4 29 rfl) ok_76 ?_
                            obtain ⟨e73, h⟩ := h
                            refine ws_iast (L := 70) (dcd d_m_readsShop_5 0 rfl) (os_8_12 ok_76) (ol_8_12 ok_76) e73 ?_
                            refine ws_aload_n 4 (dcd d_m_readsShop_5 1 rfl) rfl ?_
                            refine ws_getF (a := 83) f_m_32 rfl (dcd d_m_readsShop_5 2 rfl) ok_76 of_8_12 rfl ?_
                            refine ws_iload_n 2 (dcd d_m_readsShop_5 3 rfl) rfl ?_
                            refine ws_iconst (v := 1) (dcd d_m_readsShop_5 4 rfl) (by decide) ?_
                            refine ws_iadd (dcd d_m_readsShop_5 5 rfl) ?_
                            refine ws_iload 1 (dcd d_m_readsShop_5 6 rfl) rfl ?_
                            obtain ⟨e74, h⟩ := h
                            refine ws_iast (L := 70) (dcd d_m_readsShop_5 7 rfl) (os_8_12 ok_76) (ol_8_12 ok_76) e74 ?_
                            refine ws_aload_n 4 (dcd d_m_readsShop_5 8 rfl) rfl ?_
                            refine ws_dup (dcd d_m_readsShop_5 9 rfl) rfl ?_
                            refine ws_getI f_m_122 rfl (dcd d_m_readsShop_5 10 rfl) ok_76 ?_
                            refine ws_iconst (v := 1) (dcd d_m_readsShop_5 11 rfl) (by decide) ?_
                            refine ws_iadd (dcd d_m_readsShop_5 12 rfl) ?_
                            refine ws_putI f_m_122 rfl nf_8_16 (dcd d_m_readsShop_5 13 rfl) ok_76 ?_
                            refine ws_iconst (v := 1) (dcd d_m_readsShop_5 14 rfl) (by decide) ?_
                            exact ws_iret (dcd d_m_readsShop_5 15 rfl) ⟨_, rfl, by decide⟩ h
                          · have h := h.2 c72
                            refine ws_iconst (v := 0) (dcd d_m_readsShop_4 21 rfl) (by decide) ?_
                            exact ws_iret (dcd d_m_readsShop_4 22 rfl) ⟨_, rfl, by decide⟩ h
                    · have h := h.2 c64
                      refine ws_iconst (v := 0) (dcd d_m_readsShop_3 21 rfl) (by decide) ?_
                      exact ws_iret (dcd d_m_readsShop_3 22 rfl) ⟨_, rfl, by decide⟩ h
                · have h := h.2 c58
                  refine ws_iconst (v := 0) (dcd d_m_readsShop_2 24 rfl) (by decide) ?_
                  exact ws_iret (dcd d_m_readsShop_2 25 rfl) ⟨_, rfl, by decide⟩ h
              · have h := h.2 c56
                refine ws_aload_n 4 (dcd d_m_readsShop_2 12 rfl) rfl ?_
                refine ws_iload_n 5 (dcd d_m_readsShop_2 13 rfl) rfl ?_
                refine ws_bipush (v := 45) (dcd d_m_readsShop_2 14 rfl) (by decide) ?_
                refine ws_callVI (o := 76) (As := [.int x1, .int 45]) (st := []) (la := [(0, .ref 76), (1, .int x1), (2, .int 45)]) (dcd d_m_readsShop_2 15 rfl) cv_m_sees k_m_137 ⟨by decide, by decide⟩ ok_76 rfl (Nat.le_of_ble_eq_true rfl) (Nat.le_of_ble_eq_true rfl) rfl rfl h (fun a75 u75 h => ?_)
                refine ws_if_ne (tgt := 138) (dcd d_m_readsShop_2 16 rfl) (by decide) (fun c76 => ?_) (fun c76 => ?_)
                · have h := h.1 c76
                  refine ws_aload_n 4 (dcd d_m_readsShop_2 19 rfl) rfl ?_
                  refine ws_iload_n 5 (dcd d_m_readsShop_2 20 rfl) rfl ?_
                  refine ws_iconst (v := 0) (dcd d_m_readsShop_2 21 rfl) (by decide) ?_
                  refine ws_callVI (o := 76) (As := [.int x1, .int 0]) (st := []) (la := [(0, .ref 76), (1, .int x1), (2, .int 0)]) (dcd d_m_readsShop_2 22 rfl) cv_m_readsFigure k_m_141 ⟨by decide, by decide⟩ ok_76 rfl (Nat.le_of_ble_eq_true rfl) (Nat.le_of_ble_eq_true rfl) rfl rfl h (fun a77 u77 h => ?_)
                  refine ws_if_ne (tgt := 149) (dcd d_m_readsShop_2 23 rfl) (by decide) (fun c78 => ?_) (fun c78 => ?_)
                  · have h := h.1 c78
                    refine ws_aload_n 4 (dcd d_m_readsShop_2 26 rfl) rfl ?_
                    refine ws_getF (a := 83) f_m_32 rfl (dcd d_m_readsShop_2 27 rfl) ok_76 of_8_12 rfl ?_
                    refine ws_iload_n 2 (dcd d_m_readsShop_2 28 rfl) rfl ?_
                    refine ws_iconst (v := 2) (dcd d_m_readsShop_2 29 rfl) (by decide) ?_
                    refine ws_iadd (dcd d_m_readsShop_3 0 rfl) ?_
                    refine ws_iload 0 (dcd d_m_readsShop_3 1 rfl) rfl ?_
                    refine ws_if_eq (tgt := 169) (dcd d_m_readsShop_3 2 rfl) (by decide) (fun c => absurd c (by decide)) (fun _ => ?_)
                    refine ws_aload_n 4 (dcd d_m_readsShop_3 3 rfl) rfl ?_
                    refine ws_getI f_m_119 rfl (dcd d_m_readsShop_3 4 rfl) ok_76 ?_
                    refine ws_ineg (dcd d_m_readsShop_3 5 rfl) ?_
                    refine ws_goto (tgt := 173) (dcd d_m_readsShop_3 6 rfl) (by decide) ?_
                    obtain ⟨e80, h⟩ := h
                    refine ws_iast (L := 70) (dcd d_m_readsShop_3 9 rfl) (os_8_12 ok_76) (ol_8_12 ok_76) e80 ?_
                    refine ws_aload_n 4 (dcd d_m_readsShop_3 10 rfl) rfl ?_
                    refine ws_iload_n 5 (dcd d_m_readsShop_3 11 rfl) rfl ?_
                    refine ws_bipush (v := 58) (dcd d_m_readsShop_3 12 rfl) (by decide) ?_
                    refine ws_callVI (o := 76) (As := [.int x1, .int 58]) (st := []) (la := [(0, .ref 76), (1, .int x1), (2, .int 58)]) (dcd d_m_readsShop_3 13 rfl) cv_m_sees k_m_137 ⟨by decide, by decide⟩ ok_76 rfl (Nat.le_of_ble_eq_true rfl) (Nat.le_of_ble_eq_true rfl) rfl rfl h (fun a81 u81 h => ?_)
                    refine ws_if_eq (tgt := 195) (dcd d_m_readsShop_3 14 rfl) (by decide) (fun c82 => ?_) (fun c82 => ?_)
                    · have h := h.1 c82
                      refine ws_iconst (v := 0) (dcd d_m_readsShop_3 21 rfl) (by decide) ?_
                      exact ws_iret (dcd d_m_readsShop_3 22 rfl) ⟨_, rfl, by decide⟩ h
                    · have h := h.2 c82
                      refine ws_aload_n 4 (dcd d_m_readsShop_3 15 rfl) rfl ?_
                      refine ws_iload_n 5 (dcd d_m_readsShop_3 16 rfl) rfl ?_
                      refine ws_iconst (v := 1) (dcd d_m_readsShop_3 17 rfl) (by decide) ?_
                      refine ws_bipush (v := 99) (dcd d_m_readsShop_3 18 rfl) (by decide) ?_
                      refine ws_callVI (o := 76) (As := [.int x1, .int 1, .int 99]) (st := []) (la := [(0, .ref 76), (1, .int x1), (2, .int 1), (3, .int 99)]) (dcd d_m_readsShop_3 19 rfl) cv_m_readsNumber k_m_131 ⟨by decide, by decide⟩ ok_76 rfl (Nat.le_of_ble_eq_true rfl) (Nat.le_of_ble_eq_true rfl) rfl rfl h (fun a83 u83 h => ?_)
                      refine ws_if_ne (tgt := 197) (dcd d_m_readsShop_3 20 rfl) (by decide) (fun c84 => ?_) (fun c84 => ?_)
                      · have h := h.1 c84
                        refine ws_aload_n 4 (dcd d_m_readsShop_3 23 rfl) rfl ?_
                        refine ws_getF (a := 83) f_m_32 rfl (dcd d_m_readsShop_3 24 rfl) ok_76 of_8_12 rfl ?_
                        refine ws_iload_n 2 (dcd d_m_readsShop_3 25 rfl) rfl ?_
                        refine ws_iconst (v := 3) (dcd d_m_readsShop_3 26 rfl) (by decide) ?_
                        refine ws_iadd (dcd d_m_readsShop_3 27 rfl) ?_
                        refine ws_aload_n 4 (dcd d_m_readsShop_3 28 rfl) rfl ?_
                        refine ws_getI f_m_119 rfl (dcd d_m_readsShop_3 29 rfl) ok_76 ?_
                        obtain ⟨e85, h⟩ := h
                        refine ws_iast (L := 70) (dcd d_m_readsShop_4 0 rfl) (os_8_12 ok_76) (ol_8_12 ok_76) e85 ?_
                        refine ws_aload_n 4 (dcd d_m_readsShop_4 1 rfl) rfl ?_
                        refine ws_getF (a := 83) f_m_32 rfl (dcd d_m_readsShop_4 2 rfl) ok_76 of_8_12 rfl ?_
                        refine ws_iload_n 2 (dcd d_m_readsShop_4 3 rfl) rfl ?_
                        refine ws_iconst (v := 4) (dcd d_m_readsShop_4 4 rfl) (by decide) ?_
                        refine ws_iadd (dcd d_m_readsShop_4 5 rfl) ?_
                        refine ws_iconst (v := 0) (dcd d_m_readsShop_4 6 rfl) (by decide) ?_
                        obtain ⟨e86, h⟩ := h
                        refine ws_iast (L := 70) (dcd d_m_readsShop_4 7 rfl) (os_8_12 ok_76) (ol_8_12 ok_76) e86 ?_
                        refine ws_iload_n 3 (dcd d_m_readsShop_4 8 rfl) rfl ?_
                        refine ws_iconst (v := 3) (dcd d_m_readsShop_4 9 rfl) (by decide) ?_
                        refine ws_icmp_lt (tgt := 256) (dcd d_m_readsShop_4 10 rfl) (by decide) (fun c87 => ?_) (fun c87 => ?_)
                        · have h := h.1 c87
                          refine ws_aload_n 4 (dcd d_m_readsShop_5 1 rfl) rfl ?_
                          refine ws_getF (a := 83) f_m_32 rfl (dcd d_m_readsShop_5 2 rfl) ok_76 of_8_12 rfl ?_
                          refine ws_iload_n 2 (dcd d_m_readsShop_5 3 rfl) rfl ?_
                          refine ws_iconst (v := 1) (dcd d_m_readsShop_5 4 rfl) (by decide) ?_
                          refine ws_iadd (dcd d_m_readsShop_5 5 rfl) ?_
                          refine ws_iload 1 (dcd d_m_readsShop_5 6 rfl) rfl ?_
                          obtain ⟨e88, h⟩ := h
                          refine ws_iast (L := 70) (dcd d_m_readsShop_5 7 rfl) (os_8_12 ok_76) (ol_8_12 ok_76) e88 ?_
                          refine ws_aload_n 4 (dcd d_m_readsShop_5 8 rfl) rfl ?_
                          refine ws_dup (dcd d_m_readsShop_5 9 rfl) rfl ?_
                          refine ws_getI f_m_122 rfl (dcd d_m_readsShop_5 10 rfl) ok_76 ?_
                          refine ws_iconst (v := 1) (dcd d_m_readsShop_5 11 rfl) (by decide) ?_
                          refine ws_iadd (dcd d_m_readsShop_5 12 rfl) ?_
                          refine ws_putI f_m_122 rfl nf_8_16 (dcd d_m_readsShop_5 13 rfl) ok_76 ?_
                          refine ws_iconst (v := 1) (dcd d_m_readsShop_5 14 rfl) (by decide) ?_
                          exact ws_iret (dcd d_m_readsShop_5 15 rfl) ⟨_, rfl, by decide⟩ h
                        · have h := h.2 c87
                          refine ws_aload_n 4 (dcd d_m_readsShop_4 11 rfl) rfl ?_
                          refine ws_iload_n 5 (dcd d_m_readsShop_4 12 rfl) rfl ?_
                          refine ws_bipush (v := 58) (dcd d_m_readsShop_4 13 rfl) (by decide) ?_
                          refine ws_callVI (o := 76) (As := [.int x1, .int 58]) (st := []) (la := [(0, .ref 76), (1, .int x1), (2, .int 58)]) (dcd d_m_readsShop_4 14 rfl) cv_m_sees k_m_137 ⟨by decide, by decide⟩ ok_76 rfl (Nat.le_of_ble_eq_true rfl) (Nat.le_of_ble_eq_true rfl) rfl rfl h (fun a89 u89 h => ?_)
                          refine ws_if_eq (tgt := 242) (dcd d_m_readsShop_4 15 rfl) (by decide) (fun c90 => ?_) (fun c90 => ?_)
                          · have h := h.1 c90
                            refine ws_iconst (v := 0) (dcd d_m_readsShop_4 21 rfl) (by decide) ?_
                            exact ws_iret (dcd d_m_readsShop_4 22 rfl) ⟨_, rfl, by decide⟩ h
                          · have h := h.2 c90
                            refine ws_aload_n 4 (dcd d_m_readsShop_4 16 rfl) rfl ?_
                            refine ws_iload_n 5 (dcd d_m_readsShop_4 17 rfl) rfl ?_
                            refine ws_iconst (v := 2) (dcd d_m_readsShop_4 18 rfl) (by decide) ?_
                            refine ws_callVI (o := 76) (As := [.int x1, .int 2]) (st := []) (la := [(0, .ref 76), (1, .int x1), (2, .int 2)]) (dcd d_m_readsShop_4 19 rfl) cv_m_readsFigure k_m_141 ⟨by decide, by decide⟩ ok_76 rfl (Nat.le_of_ble_eq_true rfl) (Nat.le_of_ble_eq_true rfl) rfl rfl h (fun a91 u91 h => ?_)
                            refine ws_if_ne (tgt := 244) (dcd d_m_readsShop_4 20 rfl) (by decide) (fun c92 => ?_) (fun c92 => ?_)
                            · have h := h.1 c92
                              refine ws_aload_n 4 (dcd d_m_readsShop_4 23 rfl) rfl ?_
                              refine ws_getF (a := 83) f_m_32 rfl (dcd d_m_readsShop_4 24 rfl) ok_76 of_8_12 rfl ?_
                              refine ws_iload_n 2 (dcd d_m_readsShop_4 25 rfl) rfl ?_
                              refine ws_iconst (v := 4) (dcd d_m_readsShop_4 26 rfl) (by decide) ?_
                              refine ws_iadd (dcd d_m_readsShop_4 27 rfl) ?_
                              refine ws_aload_n 4 (dcd d_m_readsShop_4 28 rfl) rfl ?_
                              refine ws_getI f_m_119 rfl (dcd d_m_readsShop_4 29 rfl) ok_76 ?_
                              obtain ⟨e93, h⟩ := h
                              refine ws_iast (L := 70) (dcd d_m_readsShop_5 0 rfl) (os_8_12 ok_76) (ol_8_12 ok_76) e93 ?_
                              refine ws_aload_n 4 (dcd d_m_readsShop_5 1 rfl) rfl ?_
                              refine ws_getF (a := 83) f_m_32 rfl (dcd d_m_readsShop_5 2 rfl) ok_76 of_8_12 rfl ?_
                              refine ws_iload_n 2 (dcd d_m_readsShop_5 3 rfl) rfl ?_
                              refine ws_iconst (v := 1) (dcd d_m_readsShop_5 4 rfl) (by decide) ?_
                              refine ws_iadd (dcd d_m_readsShop_5 5 rfl) ?_
                              refine ws_iload 1 (dcd d_m_readsShop_5 6 rfl) rfl ?_
                              obtain ⟨e94, h⟩ := h
                              refine ws_iast (L := 70) (dcd d_m_readsShop_5 7 rfl) (os_8_12 ok_76) (ol_8_12 ok_76) e94 ?_
                              refine ws_aload_n 4 (dcd d_m_readsShop_5 8 rfl) rfl ?_
                              refine ws_dup (dcd d_m_readsShop_5 9 rfl) rfl ?_
                              refine ws_getI f_m_122 rfl (dcd d_m_readsShop_5 10 rfl) ok_76 ?_
                              refine ws_iconst (v := 1) (dcd d_m_readsShop_5 11 rfl) (by decide) ?_
                              refine ws_iadd (dcd d_m_readsShop_5 12 rfl) ?_
                              refine ws_putI f_m_122 rfl nf_8_16 (dcd d_m_readsShop_5 13 rfl) ok_76 ?_
                              refine ws_iconst (v := 1) (dcd d_m_readsShop_5 14 rfl) (by decide) ?_
                              exact ws_iret (dcd d_m_readsShop_5 15 rfl) ⟨_, rfl, by decide⟩ h
                            · have h := h.2 c92
                              refine ws_iconst (v := 0) (dcd d_m_readsShop_4 21 rfl) (by decide) ?_
                              exact ws_iret (dcd d_m_readsShop_4 22 rfl) ⟨_, rfl, by decide⟩ h
                      · have h := h.2 c84
                        refine ws_iconst (v := 0) (dcd d_m_readsShop_3 21 rfl) (by decide) ?_
                        exact ws_iret (dcd d_m_readsShop_3 22 rfl) ⟨_, rfl, by decide⟩ h
                  · have h := h.2 c78
                    refine ws_iconst (v := 0) (dcd d_m_readsShop_2 24 rfl) (by decide) ?_
                    exact ws_iret (dcd d_m_readsShop_2 25 rfl) ⟨_, rfl, by decide⟩ h
                · have h := h.2 c76
                  refine ws_iconst (v := 0) (dcd d_m_readsShop_2 17 rfl) (by decide) ?_
                  exact ws_iret (dcd d_m_readsShop_2 18 rfl) ⟨_, rfl, by decide⟩ h
          · have h := h.2 c11
            refine ws_iconst (v := 0) (dcd d_m_readsShop_1 26 rfl) (by decide) ?_
            exact ws_iret (dcd d_m_readsShop_1 27 rfl) ⟨_, rfl, by decide⟩ h
        · have h := h.2 c8
          refine ws_iconst (v := 0) (dcd d_m_readsShop_1 4 rfl) (by decide) ?_
          exact ws_iret (dcd d_m_readsShop_1 5 rfl) ⟨_, rfl, by decide⟩ h
    · have h := h.2 c4
      refine ws_iconst (v := 0) (dcd d_m_readsShop_0 12 rfl) (by decide) ?_
      exact ws_iret (dcd d_m_readsShop_0 13 rfl) ⟨_, rfl, by decide⟩ h
theorem sg_m_isTold_0 {x1 : Int32}  (h : Ws G m_isTold 4 [(0, .ref 76), (1, .int x1), (2, .int 0), (3, .int 0)] [] u Q) : Ws G m_isTold 0 [(0, .ref 76), (1, .int x1)] [] u Q := by
  refine ws_iconst (v := 0) (dcd d_m_isTold_0 0 rfl) (by decide) ?_
  refine ws_istore_n (l' := [(2, .int 0), (0, .ref 76), (1, .int x1)]) (dcd d_m_isTold_0 1 rfl) (by decide) rfl ?_
  refine ws_iconst (v := 0) (dcd d_m_isTold_0 2 rfl) (by decide) ?_
  refine ws_istore_n (l' := [(3, .int 0), (2, .int 0), (0, .ref 76), (1, .int x1)]) (dcd d_m_isTold_0 3 rfl) (by decide) rfl ?_
  exact ws_loc [2, 3, 1, 0] rfl h
theorem sg_m_isTold_4 {x1 : Int32} {x2 : Int32} {x3 : Int32}  (h : (((mI u 76 16) ≤ x3 → (vb x2 ∧ Q (some (.int x2)) u)) ∧ (¬ ((mI u 76 16) ≤ x3) → (vp_in ((35 + (5 * x3)) + 1) 70 ∧ ((¬ (mI u 83 (((35 + (5 * x3)) + 1) : Int32).toNatClampNeg) = x1 → Ws G m_isTold 4 [(0, .ref 76), (1, .int x1), (2, .int (x2 ||| 0)), (3, .int (x3 + 1))] [] u Q) ∧ ((mI u 83 (((35 + (5 * x3)) + 1) : Int32).toNatClampNeg) = x1 → Ws G m_isTold 4 [(0, .ref 76), (1, .int x1), (2, .int (x2 ||| 1)), (3, .int (x3 + 1))] [] u Q)))))) : Ws G m_isTold 4 [(0, .ref 76), (1, .int x1), (2, .int x2), (3, .int x3)] [] u Q := by
  refine ws_iload_n 3 (dcd d_m_isTold_0 4 rfl) rfl ?_
  refine ws_aload_n 0 (dcd d_m_isTold_0 5 rfl) rfl ?_
  refine ws_getI f_m_122 rfl (dcd d_m_isTold_0 6 rfl) ok_76 ?_
  refine ws_icmp_ge (tgt := 43) (dcd d_m_isTold_0 7 rfl) (by decide) (fun c1 => ?_) (fun c1 => ?_)
  · have h := h.1 c1
    refine ws_iload_n 2 (dcd d_m_isTold_0 28 rfl) rfl ?_
    exact ws_iret (dcd d_m_isTold_0 29 rfl) ⟨_, rfl, h.1⟩ h.2
  · have h := h.2 c1
    refine ws_iload_n 2 (dcd d_m_isTold_0 8 rfl) rfl ?_
    refine ws_aload_n 0 (dcd d_m_isTold_0 9 rfl) rfl ?_
    refine ws_getF (a := 83) f_m_32 rfl (dcd d_m_isTold_0 10 rfl) ok_76 of_8_12 rfl ?_
    refine ws_bipush (v := 35) (dcd d_m_isTold_0 11 rfl) (by decide) ?_
    refine ws_iconst (v := 5) (dcd d_m_isTold_0 12 rfl) (by decide) ?_
    refine ws_iload_n 3 (dcd d_m_isTold_0 13 rfl) rfl ?_
    refine ws_imul (dcd d_m_isTold_0 14 rfl) ?_
    refine ws_iadd (dcd d_m_isTold_0 15 rfl) ?_
    refine ws_iconst (v := 1) (dcd d_m_isTold_0 16 rfl) (by decide) ?_
    refine ws_iadd (dcd d_m_isTold_0 17 rfl) ?_
    obtain ⟨e2, h⟩ := h
    refine ws_iald (L := 70) (dcd d_m_isTold_0 18 rfl) (os_8_12 ok_76) (ol_8_12 ok_76) e2 ?_
    refine ws_iload_n 1 (dcd d_m_isTold_0 19 rfl) rfl ?_
    refine ws_icmp_ne (tgt := 34) (dcd d_m_isTold_0 20 rfl) (by decide) (fun c3 => ?_) (fun c3 => ?_)
    · have h := h.1 c3
      refine ws_iconst (v := 0) (dcd d_m_isTold_0 23 rfl) (by decide) ?_
      refine ws_ior (dcd d_m_isTold_0 24 rfl) ?_
      refine ws_istore_n (l' := [(2, .int (x2 ||| 0)), (0, .ref 76), (1, .int x1), (3, .int x3)]) (dcd d_m_isTold_0 25 rfl) (by decide) rfl ?_
      refine ws_iinc (v := 1) (l' := [(3, .int (x3 + 1)), (2, .int (x2 ||| 0)), (0, .ref 76), (1, .int x1)]) 3 (dcd d_m_isTold_0 26 rfl) rfl (by decide) (by decide) rfl ?_
      refine ws_goto (tgt := 4) (dcd d_m_isTold_0 27 rfl) (by decide) ?_
      exact ws_loc [2, 3, 1, 0] rfl h
    · have h := h.2 c3
      refine ws_iconst (v := 1) (dcd d_m_isTold_0 21 rfl) (by decide) ?_
      refine ws_goto (tgt := 35) (dcd d_m_isTold_0 22 rfl) (by decide) ?_
      refine ws_ior (dcd d_m_isTold_0 24 rfl) ?_
      refine ws_istore_n (l' := [(2, .int (x2 ||| 1)), (0, .ref 76), (1, .int x1), (3, .int x3)]) (dcd d_m_isTold_0 25 rfl) (by decide) rfl ?_
      refine ws_iinc (v := 1) (l' := [(3, .int (x3 + 1)), (2, .int (x2 ||| 1)), (0, .ref 76), (1, .int x1)]) 3 (dcd d_m_isTold_0 26 rfl) rfl (by decide) (by decide) rfl ?_
      refine ws_goto (tgt := 4) (dcd d_m_isTold_0 27 rfl) (by decide) ?_
      exact ws_loc [2, 3, 1, 0] rfl h
theorem sg_m_readsFigure_0 {x1 : Int32} {x2 : Int32}  (h : (vp_in x1 4 ∧ (((mI u 76 13) < (mI u 81 (x1 : Int32).toNatClampNeg) → vp_in (100 * x1 + (mI u 76 13)) 400) ∧ (((x2 ≤ (mI (pI u 76 14 ((hereV u x1) - 48)) 76 14) ∧ (mI (pI u 76 14 ((hereV u x1) - 48)) 76 14) ≤ 9) → Q (some (.int 1)) (pI (pI u 76 14 ((hereV u x1) - 48)) 76 13 ((mI (pI u 76 14 ((hereV u x1) - 48)) 76 13) + 1))) ∧ (¬ (x2 ≤ (mI (pI u 76 14 ((hereV u x1) - 48)) 76 14) ∧ (mI (pI u 76 14 ((hereV u x1) - 48)) 76 14) ≤ 9) → Q (some (.int 0)) (pI (pI u 76 14 ((hereV u x1) - 48)) 76 13 ((mI (pI u 76 14 ((hereV u x1) - 48)) 76 13) + 0))))))) : Ws G m_readsFigure 0 [(0, .ref 76), (1, .int x1), (2, .int x2)] [] u Q := by
  refine ws_aload_n 0 (dcd d_m_readsFigure_0 0 rfl) rfl ?_
  refine ws_aload_n 0 (dcd d_m_readsFigure_0 1 rfl) rfl ?_
  refine ws_iload_n 1 (dcd d_m_readsFigure_0 2 rfl) rfl ?_
  obtain ⟨e1, h⟩ := h
  obtain ⟨e2, h⟩ := h
  refine ws_callVI (o := 76) (As := [.int x1]) (st := [.ref 76]) (la := [(0, .ref 76), (1, .int x1)]) (dcd d_m_readsFigure_0 3 rfl) cv_m_here k_m_116 ⟨by decide, by decide⟩ ok_76 rfl (Nat.le_of_ble_eq_true rfl) (Nat.le_of_ble_eq_true rfl) rfl rfl (sp_m_here e1 e2) ?_
  rintro _ _ ⟨rfl, rfl⟩
  refine ws_bipush (v := 48) (dcd d_m_readsFigure_0 4 rfl) (by decide) ?_
  refine ws_isub (dcd d_m_readsFigure_0 5 rfl) ?_
  refine ws_putI f_m_119 rfl nf_8_14 (dcd d_m_readsFigure_0 6 rfl) ok_76 ?_
  refine ws_aload_n 0 (dcd d_m_readsFigure_0 7 rfl) rfl ?_
  refine ws_getI f_m_119 rfl (dcd d_m_readsFigure_0 8 rfl) ok_76 ?_
  refine ws_iload_n 2 (dcd d_m_readsFigure_0 9 rfl) rfl ?_
  refine ws_bipush (v := 9) (dcd d_m_readsFigure_0 10 rfl) (by decide) ?_
  refine ws_callSI (As := [.int (mI (pI u 76 14 ((hereV u x1) - 48)) 76 14), .int x2, .int 9]) (st := []) (la := [(0, .int (mI (pI u 76 14 ((hereV u x1) - 48)) 76 14)), (1, .int x2), (2, .int 9)]) (dcd d_m_readsFigure_0 11 rfl) cs_m_in k_m_78 ⟨by decide, by decide⟩ rfl (Nat.le_of_ble_eq_true rfl) (Nat.le_of_ble_eq_true rfl) rfl rfl sp_m_in ?_
  rintro _ _ ⟨rfl, ⟨rfl, c3⟩ | ⟨rfl, c3⟩⟩
  · have h := h.1 c3
    refine ws_istore_n (l' := [(3, .int 1), (0, .ref 76), (1, .int x1), (2, .int x2)]) (dcd d_m_readsFigure_0 12 rfl) (by decide) rfl ?_
    refine ws_aload_n 1 (dcd d_m_readsFigure_0 13 rfl) rfl ?_
    refine ws_dup (dcd d_m_readsFigure_0 14 rfl) rfl ?_
    refine ws_getI f_m_113 rfl (dcd d_m_readsFigure_0 15 rfl) ok_76 ?_
    refine ws_iload_n 0 (dcd d_m_readsFigure_0 16 rfl) rfl ?_
    refine ws_if_eq (tgt := 36) (dcd d_m_readsFigure_0 17 rfl) (by decide) (fun c => absurd c (by decide)) (fun _ => ?_)
    refine ws_iconst (v := 1) (dcd d_m_readsFigure_0 18 rfl) (by decide) ?_
    refine ws_goto (tgt := 37) (dcd d_m_readsFigure_0 19 rfl) (by decide) ?_
    refine ws_iadd (dcd d_m_readsFigure_0 21 rfl) ?_
    refine ws_putI f_m_113 rfl nf_8_13 (dcd d_m_readsFigure_0 22 rfl) ok_76 ?_
    refine ws_iload_n 0 (dcd d_m_readsFigure_0 23 rfl) rfl ?_
    exact ws_iret (dcd d_m_readsFigure_0 24 rfl) ⟨_, rfl, by decide⟩ h
  · have h := h.2 c3
    refine ws_istore_n (l' := [(3, .int 0), (0, .ref 76), (1, .int x1), (2, .int x2)]) (dcd d_m_readsFigure_0 12 rfl) (by decide) rfl ?_
    refine ws_aload_n 1 (dcd d_m_readsFigure_0 13 rfl) rfl ?_
    refine ws_dup (dcd d_m_readsFigure_0 14 rfl) rfl ?_
    refine ws_getI f_m_113 rfl (dcd d_m_readsFigure_0 15 rfl) ok_76 ?_
    refine ws_iload_n 0 (dcd d_m_readsFigure_0 16 rfl) rfl ?_
    refine ws_if_eq (tgt := 36) (dcd d_m_readsFigure_0 17 rfl) (by decide) (fun _ => ?_) (fun c => absurd (show (0 : Int32) = 0 from by decide) c)
    refine ws_iconst (v := 0) (dcd d_m_readsFigure_0 20 rfl) (by decide) ?_
    refine ws_iadd (dcd d_m_readsFigure_0 21 rfl) ?_
    refine ws_putI f_m_113 rfl nf_8_13 (dcd d_m_readsFigure_0 22 rfl) ok_76 ?_
    refine ws_iload_n 0 (dcd d_m_readsFigure_0 23 rfl) rfl ?_
    exact ws_iret (dcd d_m_readsFigure_0 24 rfl) ⟨_, rfl, by decide⟩ h
theorem sg_m_square_0 {x1 : Int32}  (h : Ws G m_askedText 0 [(0, .ref 76), (1, .int x1)] [] u (RI fun a1 u1 => ((0 ≤ a1 → Ws G m_goesOn 0 [(0, .ref 76), (1, .int x1)] [] u1 (RI fun a3 u3 => ((a3 = (-9) → Ws G m_square 43 [(0, .ref 76), (3, .int 0)] [] (pI (pI u3 76 10 (mI u3 76 15)) 76 11 (mI (pI u3 76 10 (mI u3 76 15)) 76 16)) Q) ∧ (¬ a3 = (-9) → Q (some (.int (-4))) u3)))) ∧ (¬ (0 ≤ a1) → Q (some (.int a1)) u1)))) : Ws G m_square 0 [(0, .ref 76), (1, .int x1)] [] u Q := by
  refine ws_aload_n 0 (dcd d_m_square_0 0 rfl) rfl ?_
  refine ws_iload_n 1 (dcd d_m_square_0 1 rfl) rfl ?_
  refine ws_callVI (o := 76) (As := [.int x1]) (st := []) (la := [(0, .ref 76), (1, .int x1)]) (dcd d_m_square_0 2 rfl) cv_m_askedText k_m_110 ⟨by decide, by decide⟩ ok_76 rfl (Nat.le_of_ble_eq_true rfl) (Nat.le_of_ble_eq_true rfl) rfl rfl h (fun a1 u1 h => ?_)
  refine ws_istore_n (l' := [(2, .int a1), (0, .ref 76), (1, .int x1)]) (dcd d_m_square_0 3 rfl) (by decide) rfl ?_
  refine ws_iload_n 0 (dcd d_m_square_0 4 rfl) rfl ?_
  refine ws_if_ge (tgt := 12) (dcd d_m_square_0 5 rfl) (by decide) (fun c2 => ?_) (fun c2 => ?_)
  · have h := h.1 c2
    refine ws_aload_n 1 (dcd d_m_square_0 8 rfl) rfl ?_
    refine ws_iload_n 2 (dcd d_m_square_0 9 rfl) rfl ?_
    refine ws_callVI (o := 76) (As := [.int x1]) (st := []) (la := [(0, .ref 76), (1, .int x1)]) (dcd d_m_square_0 10 rfl) cv_m_goesOn k_m_150 ⟨by decide, by decide⟩ ok_76 rfl (Nat.le_of_ble_eq_true rfl) (Nat.le_of_ble_eq_true rfl) rfl rfl h (fun a3 u3 h => ?_)
    refine ws_bipush (v := (-9)) (dcd d_m_square_0 11 rfl) (by decide) ?_
    refine ws_icmp_eq (tgt := 25) (dcd d_m_square_0 12 rfl) (by decide) (fun c4 => ?_) (fun c4 => ?_)
    · have h := h.1 c4
      refine ws_aload_n 1 (dcd d_m_square_0 15 rfl) rfl ?_
      refine ws_aload_n 1 (dcd d_m_square_0 16 rfl) rfl ?_
      refine ws_getI f_m_128 rfl (dcd d_m_square_0 17 rfl) ok_76 ?_
      refine ws_putI f_m_153 rfl nf_8_10 (dcd d_m_square_0 18 rfl) ok_76 ?_
      refine ws_aload_n 1 (dcd d_m_square_0 19 rfl) rfl ?_
      refine ws_aload_n 1 (dcd d_m_square_0 20 rfl) rfl ?_
      refine ws_getI f_m_122 rfl (dcd d_m_square_0 21 rfl) ok_76 ?_
      refine ws_putI f_m_156 rfl nf_8_11 (dcd d_m_square_0 22 rfl) ok_76 ?_
      refine ws_iconst (v := 0) (dcd d_m_square_0 23 rfl) (by decide) ?_
      refine ws_istore_n (l' := [(3, .int 0), (2, .int a1), (0, .ref 76), (1, .int x1)]) (dcd d_m_square_0 24 rfl) (by decide) rfl ?_
      exact ws_loc [2, 0] rfl h
    · have h := h.2 c4
      refine ws_bipush (v := (-4)) (dcd d_m_square_0 13 rfl) (by decide) ?_
      exact ws_iret (dcd d_m_square_0 14 rfl) ⟨_, rfl, rfl⟩ h
  · have h := h.2 c2
    refine ws_iload_n 0 (dcd d_m_square_0 6 rfl) rfl ?_
    exact ws_iret (dcd d_m_square_0 7 rfl) ⟨_, rfl, rfl⟩ h
theorem sg_m_square_43 {x3 : Int32}  (h : ((35 ≤ x3 → Ws G m_square 72 [(0, .ref 76), (3, .int 0)] [] u Q) ∧ (¬ (35 ≤ x3) → (vp_in (35 + x3) 70 ∧ (vp_in x3 70 ∧ Ws G m_square 43 [(0, .ref 76), (3, .int (x3 + 1))] [] (pI u 83 (x3 : Int32).toNatClampNeg (mI u 83 ((35 + x3) : Int32).toNatClampNeg)) Q))))) : Ws G m_square 43 [(0, .ref 76), (3, .int x3)] [] u Q := by
  refine ws_iload_n 1 (dcd d_m_square_0 25 rfl) rfl ?_
  refine ws_bipush (v := 35) (dcd d_m_square_0 26 rfl) (by decide) ?_
  refine ws_icmp_ge (tgt := 70) (dcd d_m_square_0 27 rfl) (by decide) (fun c1 => ?_) (fun c1 => ?_)
  · have h := h.1 c1
    refine ws_iconst (v := 0) (dcd d_m_square_1 10 rfl) (by decide) ?_
    refine ws_istore_n (l' := [(3, .int 0), (0, .ref 76)]) (dcd d_m_square_1 11 rfl) (by decide) rfl ?_
    exact ws_loc [1, 0] rfl h
  · have h := h.2 c1
    refine ws_aload_n 0 (dcd d_m_square_0 28 rfl) rfl ?_
    refine ws_getF (a := 83) f_m_32 rfl (dcd d_m_square_0 29 rfl) ok_76 of_8_12 rfl ?_
    refine ws_iload_n 1 (dcd d_m_square_1 0 rfl) rfl ?_
    refine ws_aload_n 0 (dcd d_m_square_1 1 rfl) rfl ?_
    refine ws_getF (a := 83) f_m_32 rfl (dcd d_m_square_1 2 rfl) ok_76 of_8_12 rfl ?_
    refine ws_bipush (v := 35) (dcd d_m_square_1 3 rfl) (by decide) ?_
    refine ws_iload_n 1 (dcd d_m_square_1 4 rfl) rfl ?_
    refine ws_iadd (dcd d_m_square_1 5 rfl) ?_
    obtain ⟨e2, h⟩ := h
    refine ws_iald (L := 70) (dcd d_m_square_1 6 rfl) (os_8_12 ok_76) (ol_8_12 ok_76) e2 ?_
    obtain ⟨e3, h⟩ := h
    refine ws_iast (L := 70) (dcd d_m_square_1 7 rfl) (os_8_12 ok_76) (ol_8_12 ok_76) e3 ?_
    refine ws_iinc (v := 1) (l' := [(3, .int (x3 + 1)), (0, .ref 76)]) 1 (dcd d_m_square_1 8 rfl) rfl (by decide) (by decide) rfl ?_
    refine ws_goto (tgt := 43) (dcd d_m_square_1 9 rfl) (by decide) ?_
    exact ws_loc [1, 0] rfl h
theorem sg_m_square_72 {x3 : Int32}  (h : (((mI u 76 11) ≤ x3 → Ws G m_square 115 [(0, .ref 76), (3, .int 0)] [] (pI (pI (pI u 76 18 0) 76 19 0) 76 28 0) Q) ∧ (¬ ((mI u 76 11) ≤ x3) → (vp_in (5 * x3 + 1) 70 ∧ (vp_in x3 7 ∧ Ws G m_square 72 [(0, .ref 76), (3, .int (x3 + 1))] [] (pI u 84 (x3 : Int32).toNatClampNeg (mI u 83 ((5 * x3 + 1) : Int32).toNatClampNeg)) Q))))) : Ws G m_square 72 [(0, .ref 76), (3, .int x3)] [] u Q := by
  refine ws_iload_n 1 (dcd d_m_square_1 12 rfl) rfl ?_
  refine ws_aload_n 0 (dcd d_m_square_1 13 rfl) rfl ?_
  refine ws_getI f_m_156 rfl (dcd d_m_square_1 14 rfl) ok_76 ?_
  refine ws_icmp_ge (tgt := 98) (dcd d_m_square_1 15 rfl) (by decide) (fun c1 => ?_) (fun c1 => ?_)
  · have h := h.1 c1
    refine ws_aload_n 0 (dcd d_m_square_1 26 rfl) rfl ?_
    refine ws_iconst (v := 0) (dcd d_m_square_1 27 rfl) (by decide) ?_
    refine ws_putI f_m_162 rfl nf_8_18 (dcd d_m_square_1 28 rfl) ok_76 ?_
    refine ws_aload_n 0 (dcd d_m_square_1 29 rfl) rfl ?_
    refine ws_iconst (v := 0) (dcd d_m_square_2 0 rfl) (by decide) ?_
    refine ws_putI f_m_165 rfl nf_8_19 (dcd d_m_square_2 1 rfl) ok_76 ?_
    refine ws_aload_n 0 (dcd d_m_square_2 2 rfl) rfl ?_
    refine ws_iconst (v := 0) (dcd d_m_square_2 3 rfl) (by decide) ?_
    refine ws_putI f_m_168 rfl nf_8_28 (dcd d_m_square_2 4 rfl) ok_76 ?_
    refine ws_iconst (v := 0) (dcd d_m_square_2 5 rfl) (by decide) ?_
    refine ws_istore_n (l' := [(3, .int 0), (0, .ref 76)]) (dcd d_m_square_2 6 rfl) (by decide) rfl ?_
    exact ws_loc [1, 0] rfl h
  · have h := h.2 c1
    refine ws_aload_n 0 (dcd d_m_square_1 16 rfl) rfl ?_
    refine ws_getF (a := 84) f_m_35 rfl (dcd d_m_square_1 17 rfl) ok_76 of_8_17 rfl ?_
    refine ws_iload_n 1 (dcd d_m_square_1 18 rfl) rfl ?_
    refine ws_aload_n 0 (dcd d_m_square_1 19 rfl) rfl ?_
    refine ws_iload_n 1 (dcd d_m_square_1 20 rfl) rfl ?_
    refine ws_iconst (v := 1) (dcd d_m_square_1 21 rfl) (by decide) ?_
    obtain ⟨e2, h⟩ := h
    refine ws_callVI (o := 76) (As := [.int x3, .int 1]) (st := [.int x3, .ref 84]) (la := [(0, .ref 76), (1, .int x3), (2, .int 1)]) (dcd d_m_square_1 22 rfl) cv_m_tell k_m_159 ⟨by decide, by decide⟩ ok_76 rfl (Nat.le_of_ble_eq_true rfl) (Nat.le_of_ble_eq_true rfl) rfl rfl (sp_m_tell e2) ?_
    rintro _ _ ⟨rfl, rfl⟩
    obtain ⟨e3, h⟩ := h
    refine ws_iast (L := 7) (dcd d_m_square_1 23 rfl) (os_8_17 ok_76) (ol_8_17 ok_76) e3 ?_
    refine ws_iinc (v := 1) (l' := [(3, .int (x3 + 1)), (0, .ref 76)]) 1 (dcd d_m_square_1 24 rfl) rfl (by decide) (by decide) rfl ?_
    refine ws_goto (tgt := 72) (dcd d_m_square_1 25 rfl) (by decide) ?_
    exact ws_loc [1, 0] rfl h
theorem sg_m_square_115 {x3 : Int32}  (h : ((3 ≤ x3 → Q (some (.int (mI u 76 11))) u) ∧ (¬ (3 ≤ x3) → (vp_in (10 * x3) 30 ∧ Ws G m_square 115 [(0, .ref 76), (3, .int (x3 + 1))] [] (pI u 87 ((10 * x3) : Int32).toNatClampNeg (-9)) Q)))) : Ws G m_square 115 [(0, .ref 76), (3, .int x3)] [] u Q := by
  refine ws_iload_n 1 (dcd d_m_square_2 7 rfl) rfl ?_
  refine ws_iconst (v := 3) (dcd d_m_square_2 8 rfl) (by decide) ?_
  refine ws_icmp_ge (tgt := 137) (dcd d_m_square_2 9 rfl) (by decide) (fun c1 => ?_) (fun c1 => ?_)
  · have h := h.1 c1
    refine ws_aload_n 0 (dcd d_m_square_2 19 rfl) rfl ?_
    refine ws_getI f_m_156 rfl (dcd d_m_square_2 20 rfl) ok_76 ?_
    exact ws_iret (dcd d_m_square_2 21 rfl) ⟨_, rfl, rfl⟩ h
  · have h := h.2 c1
    refine ws_aload_n 0 (dcd d_m_square_2 10 rfl) rfl ?_
    refine ws_getF (a := 87) f_m_44 rfl (dcd d_m_square_2 11 rfl) ok_76 of_8_22 rfl ?_
    refine ws_bipush (v := 10) (dcd d_m_square_2 12 rfl) (by decide) ?_
    refine ws_iload_n 1 (dcd d_m_square_2 13 rfl) rfl ?_
    refine ws_imul (dcd d_m_square_2 14 rfl) ?_
    refine ws_bipush (v := (-9)) (dcd d_m_square_2 15 rfl) (by decide) ?_
    obtain ⟨e2, h⟩ := h
    refine ws_iast (L := 30) (dcd d_m_square_2 16 rfl) (os_8_22 ok_76) (ol_8_22 ok_76) e2 ?_
    refine ws_iinc (v := 1) (l' := [(3, .int (x3 + 1)), (0, .ref 76)]) 1 (dcd d_m_square_2 17 rfl) rfl (by decide) (by decide) rfl ?_
    refine ws_goto (tgt := 115) (dcd d_m_square_2 18 rfl) (by decide) ?_
    exact ws_loc [1, 0] rfl h
theorem sg_m_about_0 {x1 : Int32} {x2 : Int32}  (h : (((0 ≤ x1 ∧ x1 ≤ (mI u 76 11) - 1) → (((0 ≤ x2 ∧ x2 ≤ 5) → Ws G m_aboutOf 0 [(0, .ref 76), (1, .int x1), (2, .int x2)] [] u (RI fun a5 u5 => Q (some (.int 1)) (pI u5 76 2 a5))) ∧ (¬ (0 ≤ x2 ∧ x2 ≤ 5) → Q (some (.int (-1))) u))) ∧ (¬ (0 ≤ x1 ∧ x1 ≤ (mI u 76 11) - 1) → Q (some (.int (-1))) u))) : Ws G m_about 0 [(0, .ref 76), (1, .int x1), (2, .int x2)] [] u Q := by
  refine ws_aload_n 0 (dcd d_m_about_0 0 rfl) rfl ?_
  refine ws_iload_n 1 (dcd d_m_about_0 1 rfl) rfl ?_
  refine ws_callVI (o := 76) (As := [.int x1]) (st := []) (la := [(0, .ref 76), (1, .int x1)]) (dcd d_m_about_0 2 rfl) cv_m_isShop k_m_171 ⟨by decide, by decide⟩ ok_76 rfl (Nat.le_of_ble_eq_true rfl) (Nat.le_of_ble_eq_true rfl) rfl rfl sp_m_isShop ?_
  rintro _ _ ⟨rfl, ⟨rfl, c1⟩ | ⟨rfl, c1⟩⟩
  · have h := h.1 c1
    refine ws_if_eq (tgt := 31) (dcd d_m_about_0 3 rfl) (by decide) (fun c => absurd c (by decide)) (fun _ => ?_)
    refine ws_iload_n 2 (dcd d_m_about_0 4 rfl) rfl ?_
    refine ws_iconst (v := 0) (dcd d_m_about_0 5 rfl) (by decide) ?_
    refine ws_iconst (v := 5) (dcd d_m_about_0 6 rfl) (by decide) ?_
    refine ws_callSI (As := [.int x2, .int 0, .int 5]) (st := []) (la := [(0, .int x2), (1, .int 0), (2, .int 5)]) (dcd d_m_about_0 7 rfl) cs_m_in k_m_78 ⟨by decide, by decide⟩ rfl (Nat.le_of_ble_eq_true rfl) (Nat.le_of_ble_eq_true rfl) rfl rfl sp_m_in ?_
    rintro _ _ ⟨rfl, ⟨rfl, c3⟩ | ⟨rfl, c3⟩⟩
    · have h := h.1 c3
      refine ws_if_eq (tgt := 31) (dcd d_m_about_0 8 rfl) (by decide) (fun c => absurd c (by decide)) (fun _ => ?_)
      refine ws_aload_n 0 (dcd d_m_about_0 9 rfl) rfl ?_
      refine ws_aload_n 0 (dcd d_m_about_0 10 rfl) rfl ?_
      refine ws_iload_n 1 (dcd d_m_about_0 11 rfl) rfl ?_
      refine ws_iload_n 2 (dcd d_m_about_0 12 rfl) rfl ?_
      refine ws_callVI (o := 76) (As := [.int x1, .int x2]) (st := [.ref 76]) (la := [(0, .ref 76), (1, .int x1), (2, .int x2)]) (dcd d_m_about_0 13 rfl) cv_m_aboutOf k_m_174 ⟨by decide, by decide⟩ ok_76 rfl (Nat.le_of_ble_eq_true rfl) (Nat.le_of_ble_eq_true rfl) rfl rfl h (fun a5 u5 h => ?_)
      refine ws_iconst (v := 1) (dcd d_m_about_0 14 rfl) (by decide) ?_
      refine ws_callVI (o := 76) (As := [.int a5, .int 1]) (st := []) (la := [(0, .ref 76), (1, .int a5), (2, .int 1)]) (dcd d_m_about_0 15 rfl) cv_m_ask k_m_104 ⟨by decide, by decide⟩ ok_76 rfl (Nat.le_of_ble_eq_true rfl) (Nat.le_of_ble_eq_true rfl) rfl rfl sp_m_ask ?_
      rintro _ _ ⟨rfl, rfl⟩
      refine ws_goto (tgt := 32) (dcd d_m_about_0 16 rfl) (by decide) ?_
      exact ws_iret (dcd d_m_about_0 18 rfl) ⟨_, rfl, rfl⟩ h
    · have h := h.2 c3
      refine ws_if_eq (tgt := 31) (dcd d_m_about_0 8 rfl) (by decide) (fun _ => ?_) (fun c => absurd (show (0 : Int32) = 0 from by decide) c)
      refine ws_iconst (v := (-1)) (dcd d_m_about_0 17 rfl) (by decide) ?_
      exact ws_iret (dcd d_m_about_0 18 rfl) ⟨_, rfl, rfl⟩ h
  · have h := h.2 c1
    refine ws_if_eq (tgt := 31) (dcd d_m_about_0 3 rfl) (by decide) (fun _ => ?_) (fun c => absurd (show (0 : Int32) = 0 from by decide) c)
    refine ws_iconst (v := (-1)) (dcd d_m_about_0 17 rfl) (by decide) ?_
    exact ws_iret (dcd d_m_about_0 18 rfl) ⟨_, rfl, rfl⟩ h
theorem sg_m_aboutOf_0 {x1 : Int32} {x2 : Int32}  (h : ((¬ x2 = 0 → ((¬ x2 = 1 → ((¬ x2 = 5 → (vp_in (5 * x1 + x2) 70 ∧ Q (some (.int (mI u 83 ((5 * x1 + x2) : Int32).toNatClampNeg))) u)) ∧ (x2 = 5 → (vp_in (5 * x1 + 1) 70 ∧ Q (some (.int (mI u 83 ((5 * x1 + 1) : Int32).toNatClampNeg))) u)))) ∧ (x2 = 1 → (vp_in x1 7 ∧ Q (some (.int (mI u 84 (x1 : Int32).toNatClampNeg))) u)))) ∧ (x2 = 0 → (vp_in (5 * x1 + 0) 70 ∧ Q (some (.int (mI u 83 ((5 * x1 + 0) : Int32).toNatClampNeg))) u)))) : Ws G m_aboutOf 0 [(0, .ref 76), (1, .int x1), (2, .int x2)] [] u Q := by
  refine ws_iload_n 2 (dcd d_m_aboutOf_0 0 rfl) rfl ?_
  refine ws_if_ne (tgt := 13) (dcd d_m_aboutOf_0 1 rfl) (by decide) (fun c1 => ?_) (fun c1 => ?_)
  · have h := h.1 c1
    refine ws_iload_n 2 (dcd d_m_aboutOf_0 7 rfl) rfl ?_
    refine ws_iconst (v := 1) (dcd d_m_aboutOf_0 8 rfl) (by decide) ?_
    refine ws_icmp_ne (tgt := 27) (dcd d_m_aboutOf_0 9 rfl) (by decide) (fun c2 => ?_) (fun c2 => ?_)
    · have h := h.1 c2
      refine ws_iload_n 2 (dcd d_m_aboutOf_0 15 rfl) rfl ?_
      refine ws_iconst (v := 5) (dcd d_m_aboutOf_0 16 rfl) (by decide) ?_
      refine ws_icmp_ne (tgt := 41) (dcd d_m_aboutOf_0 17 rfl) (by decide) (fun c3 => ?_) (fun c3 => ?_)
      · have h := h.1 c3
        refine ws_aload_n 0 (dcd d_m_aboutOf_0 23 rfl) rfl ?_
        refine ws_iload_n 1 (dcd d_m_aboutOf_0 24 rfl) rfl ?_
        refine ws_iload_n 2 (dcd d_m_aboutOf_0 25 rfl) rfl ?_
        obtain ⟨e4, h⟩ := h
        refine ws_callVI (o := 76) (As := [.int x1, .int x2]) (st := []) (la := [(0, .ref 76), (1, .int x1), (2, .int x2)]) (dcd d_m_aboutOf_0 26 rfl) cv_m_tell k_m_159 ⟨by decide, by decide⟩ ok_76 rfl (Nat.le_of_ble_eq_true rfl) (Nat.le_of_ble_eq_true rfl) rfl rfl (sp_m_tell e4) ?_
        rintro _ _ ⟨rfl, rfl⟩
        exact ws_iret (dcd d_m_aboutOf_0 27 rfl) ⟨_, rfl, rfl⟩ h
      · have h := h.2 c3
        refine ws_aload_n 0 (dcd d_m_aboutOf_0 18 rfl) rfl ?_
        refine ws_iload_n 1 (dcd d_m_aboutOf_0 19 rfl) rfl ?_
        refine ws_iconst (v := 1) (dcd d_m_aboutOf_0 20 rfl) (by decide) ?_
        obtain ⟨e5, h⟩ := h
        refine ws_callVI (o := 76) (As := [.int x1, .int 1]) (st := []) (la := [(0, .ref 76), (1, .int x1), (2, .int 1)]) (dcd d_m_aboutOf_0 21 rfl) cv_m_tell k_m_159 ⟨by decide, by decide⟩ ok_76 rfl (Nat.le_of_ble_eq_true rfl) (Nat.le_of_ble_eq_true rfl) rfl rfl (sp_m_tell e5) ?_
        rintro _ _ ⟨rfl, rfl⟩
        refine ws_goto (tgt := 47) (dcd d_m_aboutOf_0 22 rfl) (by decide) ?_
        exact ws_iret (dcd d_m_aboutOf_0 27 rfl) ⟨_, rfl, rfl⟩ h
    · have h := h.2 c2
      refine ws_aload_n 0 (dcd d_m_aboutOf_0 10 rfl) rfl ?_
      refine ws_getF (a := 84) f_m_35 rfl (dcd d_m_aboutOf_0 11 rfl) ok_76 of_8_17 rfl ?_
      refine ws_iload_n 1 (dcd d_m_aboutOf_0 12 rfl) rfl ?_
      obtain ⟨e6, h⟩ := h
      refine ws_iald (L := 7) (dcd d_m_aboutOf_0 13 rfl) (os_8_17 ok_76) (ol_8_17 ok_76) e6 ?_
      refine ws_goto (tgt := 47) (dcd d_m_aboutOf_0 14 rfl) (by decide) ?_
      exact ws_iret (dcd d_m_aboutOf_0 27 rfl) ⟨_, rfl, rfl⟩ h
  · have h := h.2 c1
    refine ws_aload_n 0 (dcd d_m_aboutOf_0 2 rfl) rfl ?_
    refine ws_iload_n 1 (dcd d_m_aboutOf_0 3 rfl) rfl ?_
    refine ws_iconst (v := 0) (dcd d_m_aboutOf_0 4 rfl) (by decide) ?_
    obtain ⟨e7, h⟩ := h
    refine ws_callVI (o := 76) (As := [.int x1, .int 0]) (st := []) (la := [(0, .ref 76), (1, .int x1), (2, .int 0)]) (dcd d_m_aboutOf_0 5 rfl) cv_m_tell k_m_159 ⟨by decide, by decide⟩ ok_76 rfl (Nat.le_of_ble_eq_true rfl) (Nat.le_of_ble_eq_true rfl) rfl rfl (sp_m_tell e7) ?_
    rintro _ _ ⟨rfl, rfl⟩
    refine ws_goto (tgt := 47) (dcd d_m_aboutOf_0 6 rfl) (by decide) ?_
    exact ws_iret (dcd d_m_aboutOf_0 27 rfl) ⟨_, rfl, rfl⟩ h
end SEG
