section Law
variable {p : Program} {l : Launch} {e : Env} {s : State} {m : MethodId} {below : List Frame} {meth : Method} {c : Code} {b L : Nat} {xs : Nat → Int32} {D : va_G} {ad1 ad2 : Nat → Nat} {cA1 cA2 : Nat → ClassId} {H : Heap} {locs : List Loc} {cells slots : Nat} {Q : State → Prop} {ls : Array Slot} {i : Nat} {x h : AH}
set_option maxHeartbeats 4000000 in
set_option maxRecDepth 100000 in
theorem law_switch (J : LJ p s m c b L xs D ad1 ad2 cA1 cA2) (V : LV s D ad1 ad2 cA1 cA2 x h H locs) (hLI : LI x h) (hl : lv_has ls 4 [(0, .ref b), (1, .ref (ad1 0)), (2, .ref (ad2 0)), (3, .int (Int32.ofInt i))]) (hi : i + 5 ≤ L) (hL : L ≤ 2560) (hR : cells ≤ room_1.cells ∧ slots ≤ room_1.slots) (y : Int32)
    (kk : ∀ (x2 h2 : AH) (H1 : Heap) (locs1 : List Loc), LV s D ad1 ad2 cA1 cA2 x2 h2 H1 locs1 → LI x2 h2 → W p l e room_1 s m #[Value.ref b] below meth c H1 locs1 cells slots Q (F0 m 896 ls [])) :
    W p l e room_1 s m #[Value.ref b] below meth c H locs cells slots Q (F0 m 32 ls [.int y]) := by
  obtain ⟨hx, hb, hml, hown, htg⟩ := J.1
  have hd : decode code 32 = .ok (.tableswitch 864 0 23 #[112, 145, 198, 211, 264, 297, 330, 363, 396, 429, 462, 485, 508, 541, 584, 617, 640, 663, 706, 739, 762, 785, 808, 841], 112) := by decide +kernel
  by_cases ho : y.toInt < 0 ∨ 23 < y.toInt
  · exact lv_tableOut (tgt := 896) hx hb hd ho (by decide) (kk x h H locs V hLI)
  · have h1 : ¬ y.toInt < 0 := fun z => ho (Or.inl z)
    have h2 : ¬ 23 < y.toInt := fun z => ho (Or.inr z)
    have hc : y.toInt = 0 ∨ y.toInt = 1 ∨ y.toInt = 2 ∨ y.toInt = 3 ∨ y.toInt = 4 ∨ y.toInt = 5 ∨ y.toInt = 6 ∨ y.toInt = 7 ∨ y.toInt = 8 ∨ y.toInt = 9 ∨ y.toInt = 10 ∨ y.toInt = 11 ∨ y.toInt = 12 ∨ y.toInt = 13 ∨ y.toInt = 14 ∨ y.toInt = 15 ∨ y.toInt = 16 ∨ y.toInt = 17 ∨ y.toInt = 18 ∨ y.toInt = 19 ∨ y.toInt = 20 ∨ y.toInt = 21 ∨ y.toInt = 22 ∨ y.toInt = 23 := by omega
    rcases hc with hk | hk | hk | hk | hk | hk | hk | hk | hk | hk | hk | hk | hk | hk | hk | hk | hk | hk | hk | hk | hk | hk | hk | hk
    · refine lv_tableIn (off := 112) (tgt := 144) hx hb hd h1 h2 (by rw [hk]; rfl) (by decide) ?_
      exact law_case J V hLI hl hi hL hR (by decide) cd_hills vc_hills vm_hills ⟨Nat.le_of_ble_eq_true rfl, Nat.le_of_ble_eq_true rfl⟩ ⟨Nat.le_of_ble_eq_true rfl, Nat.le_of_ble_eq_true rfl⟩ rfl rfl (pr_hills hLI (tr _) (tr _)) kk
    · refine lv_tableIn (off := 145) (tgt := 177) hx hb hd h1 h2 (by rw [hk]; rfl) (by decide) ?_
      exact law_case J V hLI hl hi hL hR (by decide) cd_cell vc_cell vm_cell ⟨Nat.le_of_ble_eq_true rfl, Nat.le_of_ble_eq_true rfl⟩ ⟨Nat.le_of_ble_eq_true rfl, Nat.le_of_ble_eq_true rfl⟩ rfl rfl (pr_cell hLI (tr _) (tr _) (tr _) (tr _)) kk
    · refine lv_tableIn (off := 198) (tgt := 230) hx hb hd h1 h2 (by rw [hk]; rfl) (by decide) ?_
      exact law_case J V hLI hl hi hL hR (by decide) cd_world vc_world vm_world ⟨Nat.le_of_ble_eq_true rfl, Nat.le_of_ble_eq_true rfl⟩ ⟨Nat.le_of_ble_eq_true rfl, Nat.le_of_ble_eq_true rfl⟩ rfl rfl (pr_world hLI) kk
    · refine lv_tableIn (off := 211) (tgt := 243) hx hb hd h1 h2 (by rw [hk]; rfl) (by decide) ?_
      exact law_case J V hLI hl hi hL hR (by decide) cd_wind vc_wind vm_wind ⟨Nat.le_of_ble_eq_true rfl, Nat.le_of_ble_eq_true rfl⟩ ⟨Nat.le_of_ble_eq_true rfl, Nat.le_of_ble_eq_true rfl⟩ rfl rfl (pr_wind hLI (tr _) (tr _) (tr _) (tr _)) kk
    · refine lv_tableIn (off := 264) (tgt := 296) hx hb hd h1 h2 (by rw [hk]; rfl) (by decide) ?_
      exact law_case J V hLI hl hi hL hR (by decide) cd_light vc_light vm_light ⟨Nat.le_of_ble_eq_true rfl, Nat.le_of_ble_eq_true rfl⟩ ⟨Nat.le_of_ble_eq_true rfl, Nat.le_of_ble_eq_true rfl⟩ rfl rfl (pr_light hLI (tr _) (tr _)) kk
    · refine lv_tableIn (off := 297) (tgt := 329) hx hb hd h1 h2 (by rw [hk]; rfl) (by decide) ?_
      exact law_case J V hLI hl hi hL hR (by decide) cd_not vc_not vm_not ⟨Nat.le_of_ble_eq_true rfl, Nat.le_of_ble_eq_true rfl⟩ ⟨Nat.le_of_ble_eq_true rfl, Nat.le_of_ble_eq_true rfl⟩ rfl rfl (pr_not hLI (tr _) (tr _)) kk
    · refine lv_tableIn (off := 330) (tgt := 362) hx hb hd h1 h2 (by rw [hk]; rfl) (by decide) ?_
      exact law_case J V hLI hl hi hL hR (by decide) cd_drop vc_drop vm_drop ⟨Nat.le_of_ble_eq_true rfl, Nat.le_of_ble_eq_true rfl⟩ ⟨Nat.le_of_ble_eq_true rfl, Nat.le_of_ble_eq_true rfl⟩ rfl rfl (pr_drop hLI (tr _) (tr _)) kk
    · refine lv_tableIn (off := 363) (tgt := 395) hx hb hd h1 h2 (by rw [hk]; rfl) (by decide) ?_
      exact law_case J V hLI hl hi hL hR (by decide) cd_burns vc_burns vm_burns ⟨Nat.le_of_ble_eq_true rfl, Nat.le_of_ble_eq_true rfl⟩ ⟨Nat.le_of_ble_eq_true rfl, Nat.le_of_ble_eq_true rfl⟩ rfl rfl (pr_burns hLI (tr _) (tr _)) kk
    · refine lv_tableIn (off := 396) (tgt := 428) hx hb hd h1 h2 (by rw [hk]; rfl) (by decide) ?_
      exact law_case J V hLI hl hi hL hR (by decide) cd_burnt vc_burnt vm_burnt ⟨Nat.le_of_ble_eq_true rfl, Nat.le_of_ble_eq_true rfl⟩ ⟨Nat.le_of_ble_eq_true rfl, Nat.le_of_ble_eq_true rfl⟩ rfl rfl (pr_burnt hLI (tr _) (tr _)) kk
    · refine lv_tableIn (off := 429) (tgt := 461) hx hb hd h1 h2 (by rw [hk]; rfl) (by decide) ?_
      exact law_case J V hLI hl hi hL hR (by decide) cd_from vc_from vm_from ⟨Nat.le_of_ble_eq_true rfl, Nat.le_of_ble_eq_true rfl⟩ ⟨Nat.le_of_ble_eq_true rfl, Nat.le_of_ble_eq_true rfl⟩ rfl rfl (pr_from hLI (tr _) (tr _)) kk
    · refine lv_tableIn (off := 462) (tgt := 494) hx hb hd h1 h2 (by rw [hk]; rfl) (by decide) ?_
      exact law_case J V hLI hl hi hL hR (by decide) cd_safe vc_safe vm_safe ⟨Nat.le_of_ble_eq_true rfl, Nat.le_of_ble_eq_true rfl⟩ ⟨Nat.le_of_ble_eq_true rfl, Nat.le_of_ble_eq_true rfl⟩ rfl rfl (pr_safe hLI (tr _)) kk
    · refine lv_tableIn (off := 485) (tgt := 517) hx hb hd h1 h2 (by rw [hk]; rfl) (by decide) ?_
      exact law_case J V hLI hl hi hL hR (by decide) cd_crew vc_crew vm_crew ⟨Nat.le_of_ble_eq_true rfl, Nat.le_of_ble_eq_true rfl⟩ ⟨Nat.le_of_ble_eq_true rfl, Nat.le_of_ble_eq_true rfl⟩ rfl rfl (pr_crew hLI (tr _)) kk
    · refine lv_tableIn (off := 508) (tgt := 540) hx hb hd h1 h2 (by rw [hk]; rfl) (by decide) ?_
      exact law_case J V hLI hl hi hL hR (by decide) cd_out vc_out vm_out ⟨Nat.le_of_ble_eq_true rfl, Nat.le_of_ble_eq_true rfl⟩ ⟨Nat.le_of_ble_eq_true rfl, Nat.le_of_ble_eq_true rfl⟩ rfl rfl (pr_out hLI (tr _) (tr _)) kk
    · refine lv_tableIn (off := 541) (tgt := 573) hx hb hd h1 h2 (by rw [hk]; rfl) (by decide) ?_
      exact law_case J V hLI hl hi hL hR (by decide) cd_order vc_order vm_order ⟨Nat.le_of_ble_eq_true rfl, Nat.le_of_ble_eq_true rfl⟩ ⟨Nat.le_of_ble_eq_true rfl, Nat.le_of_ble_eq_true rfl⟩ rfl rfl (pr_order hLI (tr _) (tr _) (tr _)) kk
    · refine lv_tableIn (off := 584) (tgt := 616) hx hb hd h1 h2 (by rw [hk]; rfl) (by decide) ?_
      exact law_case J V hLI hl hi hL hR (by decide) cd_look vc_look vm_look ⟨Nat.le_of_ble_eq_true rfl, Nat.le_of_ble_eq_true rfl⟩ ⟨Nat.le_of_ble_eq_true rfl, Nat.le_of_ble_eq_true rfl⟩ rfl rfl (pr_look hLI (tr _) (tr _)) kk
    · refine lv_tableIn (off := 617) (tgt := 649) hx hb hd h1 h2 (by rw [hk]; rfl) (by decide) ?_
      exact law_case J V hLI hl hi hL hR (by decide) cd_road vc_road vm_road ⟨Nat.le_of_ble_eq_true rfl, Nat.le_of_ble_eq_true rfl⟩ ⟨Nat.le_of_ble_eq_true rfl, Nat.le_of_ble_eq_true rfl⟩ rfl rfl (pr_road hLI (tr _)) kk
    · refine lv_tableIn (off := 640) (tgt := 672) hx hb hd h1 h2 (by rw [hk]; rfl) (by decide) ?_
      exact law_case J V hLI hl hi hL hR (by decide) cd_exit vc_exit vm_exit ⟨Nat.le_of_ble_eq_true rfl, Nat.le_of_ble_eq_true rfl⟩ ⟨Nat.le_of_ble_eq_true rfl, Nat.le_of_ble_eq_true rfl⟩ rfl rfl (pr_exit hLI (tr _)) kk
    · refine lv_tableIn (off := 663) (tgt := 695) hx hb hd h1 h2 (by rw [hk]; rfl) (by decide) ?_
      exact law_case J V hLI hl hi hL hR (by decide) cd_village vc_village vm_village ⟨Nat.le_of_ble_eq_true rfl, Nat.le_of_ble_eq_true rfl⟩ ⟨Nat.le_of_ble_eq_true rfl, Nat.le_of_ble_eq_true rfl⟩ rfl rfl (pr_village hLI (tr _) (tr _) (tr _)) kk
    · refine lv_tableIn (off := 706) (tgt := 738) hx hb hd h1 h2 (by rw [hk]; rfl) (by decide) ?_
      exact law_case J V hLI hl hi hL hR (by decide) cd_way vc_way vm_way ⟨Nat.le_of_ble_eq_true rfl, Nat.le_of_ble_eq_true rfl⟩ ⟨Nat.le_of_ble_eq_true rfl, Nat.le_of_ble_eq_true rfl⟩ rfl rfl (pr_way hLI (tr _) (tr _)) kk
    · refine lv_tableIn (off := 739) (tgt := 771) hx hb hd h1 h2 (by rw [hk]; rfl) (by decide) ?_
      exact law_case J V hLI hl hi hL hR (by decide) cd_last vc_last vm_last ⟨Nat.le_of_ble_eq_true rfl, Nat.le_of_ble_eq_true rfl⟩ ⟨Nat.le_of_ble_eq_true rfl, Nat.le_of_ble_eq_true rfl⟩ rfl rfl (pr_last hLI (tr _)) kk
    · refine lv_tableIn (off := 762) (tgt := 794) hx hb hd h1 h2 (by rw [hk]; rfl) (by decide) ?_
      exact law_case J V hLI hl hi hL hR (by decide) cd_maybe vc_maybe vm_maybe ⟨Nat.le_of_ble_eq_true rfl, Nat.le_of_ble_eq_true rfl⟩ ⟨Nat.le_of_ble_eq_true rfl, Nat.le_of_ble_eq_true rfl⟩ rfl rfl (pr_maybe hLI (tr _)) kk
    · refine lv_tableIn (off := 785) (tgt := 817) hx hb hd h1 h2 (by rw [hk]; rfl) (by decide) ?_
      exact law_case J V hLI hl hi hL hR (by decide) cd_plan vc_plan vm_plan ⟨Nat.le_of_ble_eq_true rfl, Nat.le_of_ble_eq_true rfl⟩ ⟨Nat.le_of_ble_eq_true rfl, Nat.le_of_ble_eq_true rfl⟩ rfl rfl (pr_plan hLI (tr _)) kk
    · refine lv_tableIn (off := 808) (tgt := 840) hx hb hd h1 h2 (by rw [hk]; rfl) (by decide) ?_
      exact law_case J V hLI hl hi hL hR (by decide) cd_about vc_about vm_about ⟨Nat.le_of_ble_eq_true rfl, Nat.le_of_ble_eq_true rfl⟩ ⟨Nat.le_of_ble_eq_true rfl, Nat.le_of_ble_eq_true rfl⟩ rfl rfl (pr_about hLI (tr _) (tr _)) kk
    · refine lv_tableIn (off := 841) (tgt := 873) hx hb hd h1 h2 (by rw [hk]; rfl) (by decide) ?_
      exact law_case J V hLI hl hi hL hR (by decide) cd_count vc_count vm_count ⟨Nat.le_of_ble_eq_true rfl, Nat.le_of_ble_eq_true rfl⟩ ⟨Nat.le_of_ble_eq_true rfl, Nat.le_of_ble_eq_true rfl⟩ rfl rfl (pr_count hLI (tr _)) kk
end Law
