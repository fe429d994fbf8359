section
variable {mc md cl lc cu h B : Nat} {st rt lh rd re cy : Int32} {oo oa ob oc lg hn rg tg : Nat → Int32} {d s lv rs bd yr p q n m : Nat → Nat} {c r t x a b : Nat} {l L : List Nat}
theorem qc_yem (Q : Int32 → SY → Prop) (o v2 v3 v4 : Int32) (hc : cl < 64)
    (h1 : qc_Fit o v2 v3 v4 → Q 1 (nI mc, nI md, 0, rt, cy, lh, nI (cl + 1), nI lc, (upd oo cl o), (upd oa cl v2), (upd ob cl v3), (upd oc cl v4), lg, hn, (fun zz => nI (d zz)), (fun zz => nI (rs zz)), (fun zz => nI (bd zz)), (fun zz => nI (yr zz)), (fun zz => nI (lv zz)), rg, (fun zz => nI (q zz)), (fun zz => nI (m zz)), tg))
    (h0 : ¬ qc_Fit o v2 v3 v4 → Q 0 (nI mc, nI md, 0, rt, cy, lh, nI cl, nI lc, oo, oa, ob, oc, lg, hn, (fun zz => nI (d zz)), (fun zz => nI (rs zz)), (fun zz => nI (bd zz)), (fun zz => nI (yr zz)), (fun zz => nI (lv zz)), rg, (fun zz => nI (q zz)), (fun zz => nI (m zz)), tg)) : wpY_emit Q (nI mc, nI md, 0, rt, cy, lh, nI cl, nI lc, oo, oa, ob, oc, lg, hn, (fun zz => nI (d zz)), (fun zz => nI (rs zz)), (fun zz => nI (bd zz)), (fun zz => nI (yr zz)), (fun zz => nI (lv zz)), rg, (fun zz => nI (q zz)), (fun zz => nI (m zz)), tg) o v2 v3 v4 := by
  have c64 : ¬ (64 : Int32) ≤ nI cl := nI_ge (b := 64) hc (by decide)
  rcases qc_op o with z | z | rfl | rfl | rfl | rfl | rfl | rfl | rfl | rfl | rfl | rfl | rfl | rfl | rfl | rfl | rfl | rfl | rfl | rfl | rfl
  · exact br_t rfl (br_f c64 (br_t z (h0 fun w => (qc_Fno w).1 z)))
  · exact br_t rfl (br_f c64 (br_f (fun y => absurd (Int32.lt_trans z y) (by decide)) (br_f (Int32.not_le.mpr z) (h0 fun w => (qc_Fno w).2 z))))
  · exact br_t rfl (br_f c64 (br_f (by decide) (br_t (by decide) (qc_yk0_0 _ (qc_yk0_1 _ (qc_yk0_2 _ (qc_yfR _ _ (fun za => br_f (by decide) (qc_yfN _ _ (br_f (by decide) (qc_yfN _ _ (br_f (by decide) (⟨vp_in_nI (by omega) (by decide), nm_r (qc_sr rfl (by omega) rfl) ⟨vp_in_nI (by omega) (by decide), nm_r (qc_sr rfl (by omega) rfl) ⟨vp_in_nI (by omega) (by decide), nm_r (qc_sr rfl (by omega) rfl) ⟨vp_in_nI (by omega) (by decide), nm_r (qc_sr rfl (by omega) rfl) (nm_r (nI_1 cl) (h1 ((qc_F0 _ _ _).mpr za)))⟩⟩⟩⟩)))))) (fun z => br_t rfl (h0 fun w => z ((qc_F0 _ _ _).mp w))))))))))
  · exact br_t rfl (br_f c64 (br_f (by decide) (br_t (by decide) (qc_yk1_0 _ (qc_yk1_1 _ (qc_yk1_2 _ (qc_yfR _ _ (fun za => br_f (by decide) (qc_yfR _ _ (fun zb => br_f (by decide) (qc_yfN _ _ (br_f (by decide) (⟨vp_in_nI (by omega) (by decide), nm_r (qc_sr rfl (by omega) rfl) ⟨vp_in_nI (by omega) (by decide), nm_r (qc_sr rfl (by omega) rfl) ⟨vp_in_nI (by omega) (by decide), nm_r (qc_sr rfl (by omega) rfl) ⟨vp_in_nI (by omega) (by decide), nm_r (qc_sr rfl (by omega) rfl) (nm_r (nI_1 cl) (h1 ((qc_F1 _ _ _).mpr ⟨za, zb⟩)))⟩⟩⟩⟩)))) (fun z => br_t rfl (h0 fun w => z ((qc_F1 _ _ _).mp w).2)))) (fun z => br_t rfl (h0 fun w => z ((qc_F1 _ _ _).mp w).1)))))))))
  · exact br_t rfl (br_f c64 (br_f (by decide) (br_t (by decide) (qc_yk2_0 _ (qc_yk2_1 _ (qc_yk2_2 _ (qc_yfR _ _ (fun za => br_f (by decide) (qc_yfR _ _ (fun zb => br_f (by decide) (qc_yfR _ _ (fun zc => br_f (by decide) (⟨vp_in_nI (by omega) (by decide), nm_r (qc_sr rfl (by omega) rfl) ⟨vp_in_nI (by omega) (by decide), nm_r (qc_sr rfl (by omega) rfl) ⟨vp_in_nI (by omega) (by decide), nm_r (qc_sr rfl (by omega) rfl) ⟨vp_in_nI (by omega) (by decide), nm_r (qc_sr rfl (by omega) rfl) (nm_r (nI_1 cl) (h1 ((qc_F2 _ _ _).mpr ⟨za, zb, zc⟩)))⟩⟩⟩⟩)) (fun z => br_t rfl (h0 fun w => z ((qc_F2 _ _ _).mp w).2.2)))) (fun z => br_t rfl (h0 fun w => z ((qc_F2 _ _ _).mp w).2.1)))) (fun z => br_t rfl (h0 fun w => z ((qc_F2 _ _ _).mp w).1)))))))))
  · exact br_t rfl (br_f c64 (br_f (by decide) (br_t (by decide) (qc_yk3_0 _ (qc_yk3_1 _ (qc_yk3_2 _ (qc_yfR _ _ (fun za => br_f (by decide) (qc_yfR _ _ (fun zb => br_f (by decide) (qc_yfR _ _ (fun zc => br_f (by decide) (⟨vp_in_nI (by omega) (by decide), nm_r (qc_sr rfl (by omega) rfl) ⟨vp_in_nI (by omega) (by decide), nm_r (qc_sr rfl (by omega) rfl) ⟨vp_in_nI (by omega) (by decide), nm_r (qc_sr rfl (by omega) rfl) ⟨vp_in_nI (by omega) (by decide), nm_r (qc_sr rfl (by omega) rfl) (nm_r (nI_1 cl) (h1 ((qc_F3 _ _ _).mpr ⟨za, zb, zc⟩)))⟩⟩⟩⟩)) (fun z => br_t rfl (h0 fun w => z ((qc_F3 _ _ _).mp w).2.2)))) (fun z => br_t rfl (h0 fun w => z ((qc_F3 _ _ _).mp w).2.1)))) (fun z => br_t rfl (h0 fun w => z ((qc_F3 _ _ _).mp w).1)))))))))
  · exact br_t rfl (br_f c64 (br_f (by decide) (br_t (by decide) (qc_yk4_0 _ (qc_yk4_1 _ (qc_yk4_2 _ (qc_yfR _ _ (fun za => br_f (by decide) (qc_yfR _ _ (fun zb => br_f (by decide) (qc_yfR _ _ (fun zc => br_f (by decide) (⟨vp_in_nI (by omega) (by decide), nm_r (qc_sr rfl (by omega) rfl) ⟨vp_in_nI (by omega) (by decide), nm_r (qc_sr rfl (by omega) rfl) ⟨vp_in_nI (by omega) (by decide), nm_r (qc_sr rfl (by omega) rfl) ⟨vp_in_nI (by omega) (by decide), nm_r (qc_sr rfl (by omega) rfl) (nm_r (nI_1 cl) (h1 ((qc_F4 _ _ _).mpr ⟨za, zb, zc⟩)))⟩⟩⟩⟩)) (fun z => br_t rfl (h0 fun w => z ((qc_F4 _ _ _).mp w).2.2)))) (fun z => br_t rfl (h0 fun w => z ((qc_F4 _ _ _).mp w).2.1)))) (fun z => br_t rfl (h0 fun w => z ((qc_F4 _ _ _).mp w).1)))))))))
  · exact br_t rfl (br_f c64 (br_f (by decide) (br_t (by decide) (qc_yk5_0 _ (qc_yk5_1 _ (qc_yk5_2 _ (qc_yfA _ _ (fun za => br_f (by decide) (qc_yfN _ _ (br_f (by decide) (qc_yfN _ _ (br_f (by decide) (⟨vp_in_nI (by omega) (by decide), nm_r (qc_sr rfl (by omega) rfl) ⟨vp_in_nI (by omega) (by decide), nm_r (qc_sr rfl (by omega) rfl) ⟨vp_in_nI (by omega) (by decide), nm_r (qc_sr rfl (by omega) rfl) ⟨vp_in_nI (by omega) (by decide), nm_r (qc_sr rfl (by omega) rfl) (nm_r (nI_1 cl) (h1 ((qc_F5 _ _ _).mpr za)))⟩⟩⟩⟩)))))) (fun z => br_t rfl (h0 fun w => z ((qc_F5 _ _ _).mp w))))))))))
  · exact br_t rfl (br_f c64 (br_f (by decide) (br_t (by decide) (qc_yk6_0 _ (qc_yk6_1 _ (qc_yk6_2 _ (qc_yfR _ _ (fun za => br_f (by decide) (qc_yfA _ _ (fun zb => br_f (by decide) (qc_yfN _ _ (br_f (by decide) (⟨vp_in_nI (by omega) (by decide), nm_r (qc_sr rfl (by omega) rfl) ⟨vp_in_nI (by omega) (by decide), nm_r (qc_sr rfl (by omega) rfl) ⟨vp_in_nI (by omega) (by decide), nm_r (qc_sr rfl (by omega) rfl) ⟨vp_in_nI (by omega) (by decide), nm_r (qc_sr rfl (by omega) rfl) (nm_r (nI_1 cl) (h1 ((qc_F6 _ _ _).mpr ⟨za, zb⟩)))⟩⟩⟩⟩)))) (fun z => br_t rfl (h0 fun w => z ((qc_F6 _ _ _).mp w).2)))) (fun z => br_t rfl (h0 fun w => z ((qc_F6 _ _ _).mp w).1)))))))))
  · exact br_t rfl (br_f c64 (br_f (by decide) (br_t (by decide) (qc_yk7_0 _ (qc_yk7_1 _ (qc_yk7_2 _ (qc_yfR _ _ (fun za => br_f (by decide) (qc_yfA _ _ (fun zb => br_f (by decide) (qc_yfR _ _ (fun zc => br_f (by decide) (⟨vp_in_nI (by omega) (by decide), nm_r (qc_sr rfl (by omega) rfl) ⟨vp_in_nI (by omega) (by decide), nm_r (qc_sr rfl (by omega) rfl) ⟨vp_in_nI (by omega) (by decide), nm_r (qc_sr rfl (by omega) rfl) ⟨vp_in_nI (by omega) (by decide), nm_r (qc_sr rfl (by omega) rfl) (nm_r (nI_1 cl) (h1 ((qc_F7 _ _ _).mpr ⟨za, zb, zc⟩)))⟩⟩⟩⟩)) (fun z => br_t rfl (h0 fun w => z ((qc_F7 _ _ _).mp w).2.2)))) (fun z => br_t rfl (h0 fun w => z ((qc_F7 _ _ _).mp w).2.1)))) (fun z => br_t rfl (h0 fun w => z ((qc_F7 _ _ _).mp w).1)))))))))
  · exact br_t rfl (br_f c64 (br_f (by decide) (br_t (by decide) (qc_yk8_0 _ (qc_yk8_1 _ (qc_yk8_2 _ (qc_yfR _ _ (fun za => br_f (by decide) (qc_yfN _ _ (br_f (by decide) (qc_yfN _ _ (br_f (by decide) (⟨vp_in_nI (by omega) (by decide), nm_r (qc_sr rfl (by omega) rfl) ⟨vp_in_nI (by omega) (by decide), nm_r (qc_sr rfl (by omega) rfl) ⟨vp_in_nI (by omega) (by decide), nm_r (qc_sr rfl (by omega) rfl) ⟨vp_in_nI (by omega) (by decide), nm_r (qc_sr rfl (by omega) rfl) (nm_r (nI_1 cl) (h1 ((qc_F8 _ _ _).mpr za)))⟩⟩⟩⟩)))))) (fun z => br_t rfl (h0 fun w => z ((qc_F8 _ _ _).mp w))))))))))
  · exact br_t rfl (br_f c64 (br_f (by decide) (br_t (by decide) (qc_yk9_0 _ (qc_yk9_1 _ (qc_yk9_2 _ (qc_yfR _ _ (fun za => br_f (by decide) (qc_yfN _ _ (br_f (by decide) (qc_yfN _ _ (br_f (by decide) (⟨vp_in_nI (by omega) (by decide), nm_r (qc_sr rfl (by omega) rfl) ⟨vp_in_nI (by omega) (by decide), nm_r (qc_sr rfl (by omega) rfl) ⟨vp_in_nI (by omega) (by decide), nm_r (qc_sr rfl (by omega) rfl) ⟨vp_in_nI (by omega) (by decide), nm_r (qc_sr rfl (by omega) rfl) (nm_r (nI_1 cl) (h1 ((qc_F9 _ _ _).mpr za)))⟩⟩⟩⟩)))))) (fun z => br_t rfl (h0 fun w => z ((qc_F9 _ _ _).mp w))))))))))
  · exact br_t rfl (br_f c64 (br_f (by decide) (br_t (by decide) (qc_yk10_0 _ (qc_yk10_1 _ (qc_yk10_2 _ (qc_yfR _ _ (fun za => br_f (by decide) (qc_yfN _ _ (br_f (by decide) (qc_yfN _ _ (br_f (by decide) (⟨vp_in_nI (by omega) (by decide), nm_r (qc_sr rfl (by omega) rfl) ⟨vp_in_nI (by omega) (by decide), nm_r (qc_sr rfl (by omega) rfl) ⟨vp_in_nI (by omega) (by decide), nm_r (qc_sr rfl (by omega) rfl) ⟨vp_in_nI (by omega) (by decide), nm_r (qc_sr rfl (by omega) rfl) (nm_r (nI_1 cl) (h1 ((qc_F10 _ _ _).mpr za)))⟩⟩⟩⟩)))))) (fun z => br_t rfl (h0 fun w => z ((qc_F10 _ _ _).mp w))))))))))
  · exact br_t rfl (br_f c64 (br_f (by decide) (br_t (by decide) (qc_yk11_0 _ (qc_yk11_1 _ (qc_yk11_2 _ (qc_yfR _ _ (fun za => br_f (by decide) (qc_yfN _ _ (br_f (by decide) (qc_yfN _ _ (br_f (by decide) (⟨vp_in_nI (by omega) (by decide), nm_r (qc_sr rfl (by omega) rfl) ⟨vp_in_nI (by omega) (by decide), nm_r (qc_sr rfl (by omega) rfl) ⟨vp_in_nI (by omega) (by decide), nm_r (qc_sr rfl (by omega) rfl) ⟨vp_in_nI (by omega) (by decide), nm_r (qc_sr rfl (by omega) rfl) (nm_r (nI_1 cl) (h1 ((qc_F11 _ _ _).mpr za)))⟩⟩⟩⟩)))))) (fun z => br_t rfl (h0 fun w => z ((qc_F11 _ _ _).mp w))))))))))
  · exact br_t rfl (br_f c64 (br_f (by decide) (br_t (by decide) (qc_yk12_0 _ (qc_yk12_1 _ (qc_yk12_2 _ (qc_yfR _ _ (fun za => br_f (by decide) (qc_yfA _ _ (fun zb => br_f (by decide) (qc_yfN _ _ (br_f (by decide) (⟨vp_in_nI (by omega) (by decide), nm_r (qc_sr rfl (by omega) rfl) ⟨vp_in_nI (by omega) (by decide), nm_r (qc_sr rfl (by omega) rfl) ⟨vp_in_nI (by omega) (by decide), nm_r (qc_sr rfl (by omega) rfl) ⟨vp_in_nI (by omega) (by decide), nm_r (qc_sr rfl (by omega) rfl) (nm_r (nI_1 cl) (h1 ((qc_F12 _ _ _).mpr ⟨za, zb⟩)))⟩⟩⟩⟩)))) (fun z => br_t rfl (h0 fun w => z ((qc_F12 _ _ _).mp w).2)))) (fun z => br_t rfl (h0 fun w => z ((qc_F12 _ _ _).mp w).1)))))))))
  · exact br_t rfl (br_f c64 (br_f (by decide) (br_t (by decide) (qc_yk13_0 _ (qc_yk13_1 _ (qc_yk13_2 _ (qc_yfR _ _ (fun za => br_f (by decide) (qc_yfR _ _ (fun zb => br_f (by decide) (qc_yfR _ _ (fun zc => br_f (by decide) (⟨vp_in_nI (by omega) (by decide), nm_r (qc_sr rfl (by omega) rfl) ⟨vp_in_nI (by omega) (by decide), nm_r (qc_sr rfl (by omega) rfl) ⟨vp_in_nI (by omega) (by decide), nm_r (qc_sr rfl (by omega) rfl) ⟨vp_in_nI (by omega) (by decide), nm_r (qc_sr rfl (by omega) rfl) (nm_r (nI_1 cl) (h1 ((qc_F13 _ _ _).mpr ⟨za, zb, zc⟩)))⟩⟩⟩⟩)) (fun z => br_t rfl (h0 fun w => z ((qc_F13 _ _ _).mp w).2.2)))) (fun z => br_t rfl (h0 fun w => z ((qc_F13 _ _ _).mp w).2.1)))) (fun z => br_t rfl (h0 fun w => z ((qc_F13 _ _ _).mp w).1)))))))))
  · exact br_t rfl (br_f c64 (br_f (by decide) (br_t (by decide) (qc_yk14_0 _ (qc_yk14_1 _ (qc_yk14_2 _ (qc_yfR _ _ (fun za => br_f (by decide) (qc_yfR _ _ (fun zb => br_f (by decide) (qc_yfR _ _ (fun zc => br_f (by decide) (⟨vp_in_nI (by omega) (by decide), nm_r (qc_sr rfl (by omega) rfl) ⟨vp_in_nI (by omega) (by decide), nm_r (qc_sr rfl (by omega) rfl) ⟨vp_in_nI (by omega) (by decide), nm_r (qc_sr rfl (by omega) rfl) ⟨vp_in_nI (by omega) (by decide), nm_r (qc_sr rfl (by omega) rfl) (nm_r (nI_1 cl) (h1 ((qc_F14 _ _ _).mpr ⟨za, zb, zc⟩)))⟩⟩⟩⟩)) (fun z => br_t rfl (h0 fun w => z ((qc_F14 _ _ _).mp w).2.2)))) (fun z => br_t rfl (h0 fun w => z ((qc_F14 _ _ _).mp w).2.1)))) (fun z => br_t rfl (h0 fun w => z ((qc_F14 _ _ _).mp w).1)))))))))
  · exact br_t rfl (br_f c64 (br_f (by decide) (br_t (by decide) (qc_yk15_0 _ (qc_yk15_1 _ (qc_yk15_2 _ (qc_yfR _ _ (fun za => br_f (by decide) (qc_yfR _ _ (fun zb => br_f (by decide) (qc_yfN _ _ (br_f (by decide) (⟨vp_in_nI (by omega) (by decide), nm_r (qc_sr rfl (by omega) rfl) ⟨vp_in_nI (by omega) (by decide), nm_r (qc_sr rfl (by omega) rfl) ⟨vp_in_nI (by omega) (by decide), nm_r (qc_sr rfl (by omega) rfl) ⟨vp_in_nI (by omega) (by decide), nm_r (qc_sr rfl (by omega) rfl) (nm_r (nI_1 cl) (h1 ((qc_F15 _ _ _).mpr ⟨za, zb⟩)))⟩⟩⟩⟩)))) (fun z => br_t rfl (h0 fun w => z ((qc_F15 _ _ _).mp w).2)))) (fun z => br_t rfl (h0 fun w => z ((qc_F15 _ _ _).mp w).1)))))))))
  · exact br_t rfl (br_f c64 (br_f (by decide) (br_t (by decide) (qc_yk16_0 _ (qc_yk16_1 _ (qc_yk16_2 _ (qc_yfR _ _ (fun za => br_f (by decide) (qc_yfR _ _ (fun zb => br_f (by decide) (qc_yfN _ _ (br_f (by decide) (⟨vp_in_nI (by omega) (by decide), nm_r (qc_sr rfl (by omega) rfl) ⟨vp_in_nI (by omega) (by decide), nm_r (qc_sr rfl (by omega) rfl) ⟨vp_in_nI (by omega) (by decide), nm_r (qc_sr rfl (by omega) rfl) ⟨vp_in_nI (by omega) (by decide), nm_r (qc_sr rfl (by omega) rfl) (nm_r (nI_1 cl) (h1 ((qc_F16 _ _ _).mpr ⟨za, zb⟩)))⟩⟩⟩⟩)))) (fun z => br_t rfl (h0 fun w => z ((qc_F16 _ _ _).mp w).2)))) (fun z => br_t rfl (h0 fun w => z ((qc_F16 _ _ _).mp w).1)))))))))
  · exact br_t rfl (br_f c64 (br_f (by decide) (br_t (by decide) (qc_yk17_0 _ (qc_yk17_1 _ (qc_yk17_2 _ (qc_yfR _ _ (fun za => br_f (by decide) (qc_yfR _ _ (fun zb => br_f (by decide) (qc_yfN _ _ (br_f (by decide) (⟨vp_in_nI (by omega) (by decide), nm_r (qc_sr rfl (by omega) rfl) ⟨vp_in_nI (by omega) (by decide), nm_r (qc_sr rfl (by omega) rfl) ⟨vp_in_nI (by omega) (by decide), nm_r (qc_sr rfl (by omega) rfl) ⟨vp_in_nI (by omega) (by decide), nm_r (qc_sr rfl (by omega) rfl) (nm_r (nI_1 cl) (h1 ((qc_F17 _ _ _).mpr ⟨za, zb⟩)))⟩⟩⟩⟩)))) (fun z => br_t rfl (h0 fun w => z ((qc_F17 _ _ _).mp w).2)))) (fun z => br_t rfl (h0 fun w => z ((qc_F17 _ _ _).mp w).1)))))))))
  · exact br_t rfl (br_f c64 (br_f (by decide) (br_t (by decide) (qc_yk18_0 _ (qc_yk18_1 _ (qc_yk18_2 _ (qc_yfR _ _ (fun za => br_f (by decide) (qc_yfN _ _ (br_f (by decide) (qc_yfN _ _ (br_f (by decide) (⟨vp_in_nI (by omega) (by decide), nm_r (qc_sr rfl (by omega) rfl) ⟨vp_in_nI (by omega) (by decide), nm_r (qc_sr rfl (by omega) rfl) ⟨vp_in_nI (by omega) (by decide), nm_r (qc_sr rfl (by omega) rfl) ⟨vp_in_nI (by omega) (by decide), nm_r (qc_sr rfl (by omega) rfl) (nm_r (nI_1 cl) (h1 ((qc_F18 _ _ _).mpr za)))⟩⟩⟩⟩)))))) (fun z => br_t rfl (h0 fun w => z ((qc_F18 _ _ _).mp w))))))))))
theorem qc_Rem (K : qc_K mc md cl lc h B oo oa ob oc lv bd) (S : qc_S 0 rt L) (hcu : (∀ c l, L = c :: l → cu = c) ∧ ((0 : Int32) = 0 → ∀ t, t < 5 → s t = 3)) (I : qc_I mc md oo oa ob d s lv rs yr p q n m L)
    (hc : cl < 64) {o v2 v3 v4 : Int32} (F : qc_Fit o v2 v3 v4) :
    qc_R B (nI mc, nI md, nI (cl + 1), nI lc, 0, rt, nI cu, nI h, 0, re, (upd oo cl o), (upd oa cl v2), (upd ob cl v3), (upd oc cl v4), lg, hn, (fun zz => nI (s zz)), (fun zz => nI (rs zz)), (fun zz => nI (bd zz)), (fun zz => nI (d zz)), (fun zz => nI (p zz)), (fun zz => nI (n zz)), rg, tg) (nI mc, nI md, 0, rt, qc_cy L, nI h, nI (cl + 1), nI lc, (upd oo cl o), (upd oa cl v2), (upd ob cl v3), (upd oc cl v4), lg, hn, (fun zz => nI (d zz)), (fun zz => nI (rs zz)), (fun zz => nI (bd zz)), (fun zz => nI (yr zz)), (fun zz => nI (lv zz)), rg, (fun zz => nI (q zz)), (fun zz => nI (m zz)), tg) := by
  have L0 : L = [] := by
    rcases S with S | S | S
    · exact absurd S.1 (by decide)
    · exact S.2.2
    · exact S.2
  subst L0
  refine ⟨_, _, _, _, _, _, _, _, _, _, _, _, _, _, _, _, _, _, _, _, _, _, _, _, _, _, _, [], rfl, rfl, ⟨K.1, K.2.1, by omega, K.2.2.2.1, K.2.2.2.2.1, fun i hi => ?_, K.2.2.2.2.2.2⟩, S, hcu, I.1, I.2.1, I.2.2.1, I.2.2.2.1, fun t t5 => ?_⟩
  · by_cases z : i = cl
    · rw [z, pk_us, pk_us, pk_us, pk_us]; exact F
    · rw [pk_un z, pk_un z, pk_un z, pk_un z]; exact K.2.2.2.2.2.1 i (by omega)
  · have s3 := hcu.2 rfl t t5
    rcases I.2.2.2.2 t t5 with o | o
    · exact .inl o
    · have := o.2.1; omega
end
theorem i_vc_emit {k : Nat} {u : SX} {v : SY} (I : i_Rel k u v) (hk : k + 5 ≤ 2562) (v1 : Int32) (v2 : Int32) (v3 : Int32) (v4 : Int32) : wpX_emit (fun r u' => wpY_emit (fun r' v' => r' = r ∧ i_Rel (k + 5) u' v') v v1 v2 v3 v4) u v1 v2 v3 v4 := by
  have R := i_up I
  obtain ⟨mc, md, cl, lc, cu, h, st, rt, re, oo, oa, ob, oc, lg, hn, rg, tg, d, s, lv, rs, bd, yr, p, q, n, m, L, rfl, rfl, K, S, hcu, J⟩ := I
  by_cases s0 : st = 0
  · subst s0
    have c64 : cl ≤ 64 := K.2.2.1
    by_cases z : cl = 64
    · have y : (64 : Int32) ≤ nI cl := nI_le (a := 64) (by omega) (by omega)
      exact br_t rfl (br_t y (br_t rfl (br_t y ⟨rfl, R⟩)))
    · have y : ¬ (64 : Int32) ≤ nI cl := nI_ge (b := 64) (by omega) (by decide)
      refine br_t rfl (br_f y (qc_xof _ _ _ _ _ (fun F => br_f (by decide) ⟨vp_in_nI (by omega) (by decide), nm_r (qc_sr rfl (by omega) rfl) ⟨vp_in_nI (by omega) (by decide), nm_r (qc_sr rfl (by omega) rfl) ⟨vp_in_nI (by omega) (by decide), nm_r (qc_sr rfl (by omega) rfl) ⟨vp_in_nI (by omega) (by decide), nm_r (qc_sr rfl (by omega) rfl) (nm_r (nI_1 cl) ?_)⟩⟩⟩⟩) (fun F => br_t rfl ?_)))
      · exact qc_yem _ _ _ _ _ (by omega) (fun _ => ⟨rfl, qc_R_up (by omega) (qc_Rem K S hcu J (by omega) F)⟩) (fun w => absurd F w)
      · exact qc_yem _ _ _ _ _ (by omega) (fun w => absurd w F) (fun _ => ⟨rfl, R⟩)
  · exact br_f s0 (br_f s0 ⟨rfl, R⟩)
theorem i_vc_start {k : Nat} {u : SX} {v : SY} (I : i_Rel k u v) (hk : k + 5 ≤ 2562) (v1 : Int32) (v2 : Int32) : wpX_start (fun r u' => wpY_start (fun r' v' => r' = r ∧ i_Rel (k + 5) u' v') v v1 v2) u v1 v2 := by
  have R := i_up I
  obtain ⟨mc, md, cl, lc, cu, h, st, rt, re, oo, oa, ob, oc, lg, hn, rg, tg, d, s, lv, rs, bd, yr, p, q, n, m, L, rfl, rfl, K, S, hcu, J⟩ := I
  by_cases s0 : st = 0
  · subst s0
    have c64 : cl ≤ 64 := K.2.2.1
    by_cases z : v1 < 0
    · exact br_t rfl (br_t z (br_t rfl (br_c (fun _ => ⟨rfl, R⟩) (fun _ => br_t z ⟨rfl, R⟩))))
    · obtain ⟨e, he, rfl⟩ := nI_of z
      by_cases y : e < cl
      · obtain ⟨rt0, L0⟩ : rt = 0 ∧ L = [] := by
          rcases S with S | S | S
          · exact absurd S.1 (by decide)
          · exact ⟨S.2.1, S.2.2⟩
          · rcases S.1 with w | w <;> exact absurd w (by decide)
        subst rt0 L0
        obtain ⟨d0, I'⟩ := qc_tr_start (b := e) K.2.1.2 K.2.1.1 J (by omega)
        have hy : nI e < nI cl := nI_lt y (by omega)
        have hR : qc_R (1000 * (k + 5)) (nI mc, nI md, nI cl, nI lc, 1, 0, nI 0, nI h, 0, re, oo, oa, ob, oc, lg, hn, (fun zz => nI ((qc_u s 0 1) zz)), (fun zz => nI (rs zz)), (fun zz => nI (bd zz)), (fun zz => nI ((qc_u d 0 (d 0 + 1)) zz)), (fun zz => nI ((qc_u p (0 * 6 + d 0) e) zz)), (fun zz => nI ((qc_u n (0 * 6 + d 0) 0) zz)), (qc_pr rg ((0 * 6 + d 0) * 8) v2), tg) (nI mc, nI md, 1, 0, nI 0, nI h, nI cl, nI lc, oo, oa, ob, oc, lg, hn, (fun zz => nI ((qc_u d 0 (d 0 + 1)) zz)), (fun zz => nI (rs zz)), (fun zz => nI (bd zz)), (fun zz => nI (yr zz)), (fun zz => nI (lv zz)), (qc_pr rg ((0 * 6 + d 0) * 8) v2), (fun zz => nI ((qc_u q (0 * 6 + d 0) e) zz)), (fun zz => nI ((qc_u m (0 * 6 + d 0) 0) zz)), tg) := qc_R_up (by omega) (qc_Rmk K I')
        refine br_t rfl (br_f z (br_t hy (qc_xpush (t := 0) _ _ (by omega) (by omega) (nm_r (qc_uI _ 0 1) ?_))))
        exact br_t rfl (br_f (nI_nlt (b := 1) (by omega) (by omega)) (br_f z (br_t hy (nm_r ((qc_uI d 0 0).trans (by rw [qc_ue d0])) (qc_ypush (t := 0) _ _ (by omega) (by omega) ⟨rfl, hR⟩)))))
      · have hy : ¬ nI e < nI cl := nI_nlt (by omega) he
        exact br_t rfl (br_f z (br_f hy (br_t rfl (br_c (fun _ => ⟨rfl, R⟩) (fun _ => br_f z (br_f hy ⟨rfl, R⟩))))))
  · exact br_f s0 (br_f s0 ⟨rfl, R⟩)
section
variable {mc md cl lc cu h B : Nat} {st rt lh rd re cy : Int32} {oo oa ob oc lg hn rg tg : Nat → Int32} {d s lv rs bd yr p q n m : Nat → Nat} {c r t x a b : Nat} {l L : List Nat}
theorem qc_inl (P : SX → Prop) : ∀ (k j : Nat) (s : Nat → Nat), j + k = 5 → (∀ s' : Nat → Nat, (∀ t, j ≤ t → t < 5 → s' t = 3) → (∀ t, t < j → s' t = s t) → P (nI mc, nI md, nI cl, nI lc, st, rt, nI cu, lh, rd, re, oo, oa, ob, oc, lg, hn, (fun zz => nI (s' zz)), (fun zz => nI (rs zz)), (fun zz => nI (bd zz)), (fun zz => nI (d zz)), (fun zz => nI (p zz)), (fun zz => nI (n zz)), rg, tg)) → wX_init_135 P (nI mc) (nI md) (nI cl) (nI lc) st rt (nI cu) lh rd re (k + 1) (nI j) oo oa ob oc lg hn (fun zz => nI (s zz)) (fun zz => nI (rs zz)) (fun zz => nI (bd zz)) (fun zz => nI (d zz)) (fun zz => nI (p zz)) (fun zz => nI (n zz)) rg tg := by
  intro k
  induction k with
  | zero =>
    intro j s hj H
    exact br_t (nI_le (a := 5) (by omega) (by omega)) (H s (fun t a b => by omega) (fun t _ => rfl))
  | succ k ih =>
    intro j s hj H
    refine br_f (nI_ge (b := 5) (by omega) (by decide)) ⟨vp_in_nI (by omega) (by decide), nm_r (qc_st (x := 3) rfl rfl (by omega)) (nm_r (nI_1 j) (ih (j + 1) _ (by omega) (fun s' h1 h2 => H s' (fun t a b => ?_) (fun t a => ?_))))⟩
    · by_cases z : t = j
      · rw [z, h2 j (by omega), qc_us]
      · exact h1 t (by omega) b
    · rw [h2 t (by omega), qc_uo (by omega)]
end
theorem qc_cla (v : Int32) (M : Int32) (N : Nat) (hM : M.toInt = N) : (¬ 1 ≤ v) ∨ (1 ≤ v ∧ ¬ v ≤ M) ∨ ∃ j, 1 ≤ j ∧ j ≤ N ∧ v = nI j ∧ 1 ≤ v ∧ v ≤ M := by
  by_cases z1 : 1 ≤ v
  · by_cases z2 : v ≤ M
    · obtain ⟨j, hj, e⟩ := nI_of2 (x := v) (M := M) hM (fun w => absurd (Int32.lt_of_le_of_lt z1 w) (by decide)) z2
      refine .inr (.inr ⟨j, ?_, hj, e, z1, z2⟩)
      by_cases j0 : j = 0
      · rw [e, j0] at z1
        exact absurd z1 (by decide)
      · omega
    · exact .inr (.inl ⟨z1, z2⟩)
  · exact .inl z1
theorem i_vc0 (k0 : Int32) (k1 : Int32) : wpX_init (fun u => wpY_init (fun v => i_Rel 2 u v) k0 k1) k0 k1 := by
  have R : ∀ (mc md : Nat) (s : Nat → Nat), 1 ≤ mc → mc ≤ 4 → 1 ≤ md → md ≤ 6 → (∀ t, 0 ≤ t → t < 5 → s t = 3) →
      i_Rel 2 (nI mc, nI md, nI 0, nI 0, 0, 0, nI 0, 0, 0, 0, (fun _ => 0), (fun _ => 0), (fun _ => 0), (fun _ => 0), (fun _ => 0), (fun _ => 0), (fun zz => nI (s zz)), (fun _ => 0), (fun _ => 0), (fun _ => 0), (fun _ => 0), (fun _ => 0), (fun _ => 0), (fun _ => 0)) (nI mc, nI md, 0, 0, (-1), 0, nI 0, nI 0, (fun _ => 0), (fun _ => 0), (fun _ => 0), (fun _ => 0), (fun _ => 0), (fun _ => 0), (fun _ => 0), (fun _ => 0), (fun _ => 0), (fun _ => 0), (fun _ => 0), (fun _ => 0), (fun _ => 0), (fun _ => 0), (fun _ => 0)) := by
    intro mc md s m1 m4 d1 d6 hs
    exact ⟨mc, md, 0, 0, 0, 0, 0, 0, 0, fun _ => 0, fun _ => 0, fun _ => 0, fun _ => 0, fun _ => 0, fun _ => 0, fun _ => 0, fun _ => 0, fun _ => 0, s, fun _ => 0, fun _ => 0, fun _ => 0, fun _ => 0, fun _ => 0, fun _ => 0, fun _ => 0, fun _ => 0, [], rfl, rfl,
      ⟨⟨m1, m4⟩, ⟨d1, d6⟩, by omega, by omega, by omega, fun i hi => absurd hi (Nat.not_lt_zero i), fun _ => (by decide : 0 < 64), rfl⟩,
      .inr (.inl ⟨rfl, rfl, rfl⟩), ⟨fun c l z => (nomatch z), fun _ t t5 => hs t (Nat.zero_le t) t5⟩,
      trivial, List.nodup_nil, fun t ht => absurd ht List.not_mem_nil, fun _ _ _ => rfl, fun t t5 => .inl ⟨hs t (Nat.zero_le t) t5, rfl, rfl⟩⟩
  have X : ∀ (mc md : Nat), 1 ≤ mc → mc ≤ 4 → 1 ≤ md → md ≤ 6 → ∀ P : SX → Prop, (∀ s : Nat → Nat, (∀ t, 0 ≤ t → t < 5 → s t = 3) → P (nI mc, nI md, nI 0, nI 0, 0, 0, nI 0, 0, 0, 0, (fun _ => 0), (fun _ => 0), (fun _ => 0), (fun _ => 0), (fun _ => 0), (fun _ => 0), (fun zz => nI (s zz)), (fun _ => 0), (fun _ => 0), (fun _ => 0), (fun _ => 0), (fun _ => 0), (fun _ => 0), (fun _ => 0))) →
      ∃ n135 : Nat, wX_init_135 P (nI mc) (nI md) 0 0 0 0 0 0 0 0 n135 0 (fun _ => 0) (fun _ => 0) (fun _ => 0) (fun _ => 0) (fun _ => 0) (fun _ => 0) (fun _ => 0) (fun _ => 0) (fun _ => 0) (fun _ => 0) (fun _ => 0) (fun _ => 0) (fun _ => 0) (fun _ => 0) := by
    intro mc md m1 m4 d1 d6 P H
    exact ⟨6, qc_inl (mc := mc) (md := md) (cl := 0) (lc := 0) (cu := 0) (rs := fun _ => 0) (bd := fun _ => 0) (d := fun _ => 0) (p := fun _ => 0) (n := fun _ => 0) P 5 0 (fun _ => 0) rfl (fun s' h1 h2 => H s' h1)⟩
  unfold wpX_init
  rcases qc_cla k0 4 4 (by decide) with z0 | ⟨z0, y0⟩ | ⟨j0, a0, b0, rfl, z0, y0⟩ <;> rcases qc_cla k1 6 6 (by decide) with z1 | ⟨z1, y1⟩ | ⟨j1, a1, b1, rfl, z1, y1⟩
  · exact br_f z0 (br_f z1 (X 1 1 (by omega) (by omega) (by omega) (by omega) _ (fun s hs => br_f z0 (br_f z1 (R 1 1 s (by omega) (by omega) (by omega) (by omega) hs)))))
  · exact br_f z0 (br_t z1 (br_f y1 (X 1 6 (by omega) (by omega) (by omega) (by omega) _ (fun s hs => br_f z0 (br_t z1 (br_f y1 (R 1 6 s (by omega) (by omega) (by omega) (by omega) hs)))))))
  · exact br_f z0 (br_t z1 (br_t y1 (X 1 j1 (by omega) (by omega) (by omega) (by omega) _ (fun s hs => br_f z0 (br_t z1 (br_t y1 (R 1 j1 s (by omega) (by omega) (by omega) (by omega) hs)))))))
  · exact br_t z0 (br_f y0 (br_f z1 (X 4 1 (by omega) (by omega) (by omega) (by omega) _ (fun s hs => br_t z0 (br_f y0 (br_f z1 (R 4 1 s (by omega) (by omega) (by omega) (by omega) hs)))))))
  · exact br_t z0 (br_f y0 (br_t z1 (br_f y1 (X 4 6 (by omega) (by omega) (by omega) (by omega) _ (fun s hs => br_t z0 (br_f y0 (br_t z1 (br_f y1 (R 4 6 s (by omega) (by omega) (by omega) (by omega) hs)))))))))
  · exact br_t z0 (br_f y0 (br_t z1 (br_t y1 (X 4 j1 (by omega) (by omega) (by omega) (by omega) _ (fun s hs => br_t z0 (br_f y0 (br_t z1 (br_t y1 (R 4 j1 s (by omega) (by omega) (by omega) (by omega) hs)))))))))
  · exact br_t z0 (br_t y0 (br_f z1 (X j0 1 (by omega) (by omega) (by omega) (by omega) _ (fun s hs => br_t z0 (br_t y0 (br_f z1 (R j0 1 s (by omega) (by omega) (by omega) (by omega) hs)))))))
  · exact br_t z0 (br_t y0 (br_t z1 (br_f y1 (X j0 6 (by omega) (by omega) (by omega) (by omega) _ (fun s hs => br_t z0 (br_t y0 (br_t z1 (br_f y1 (R j0 6 s (by omega) (by omega) (by omega) (by omega) hs)))))))))
  · exact br_t z0 (br_t y0 (br_t z1 (br_t y1 (X j0 j1 (by omega) (by omega) (by omega) (by omega) _ (fun s hs => br_t z0 (br_t y0 (br_t z1 (br_t y1 (R j0 j1 s (by omega) (by omega) (by omega) (by omega) hs)))))))))
