/-! the two shapes -/
def SCc : List CK := [.inr (.inl (8, [(3, 1), (3, 2), (3, 3), (3, 69), (3, 4), (3, 5), (3, 6), (3, 7), (3, 8), (0, 0)])), .inr (.inl (3, [(0, 0), (0, 0), (0, 0), (3, 9), (3, 10), (3, 11), (3, 12), (3, 13), (3, 14), (3, 15), (3, 16), (3, 17), (3, 18), (3, 19), (0, 0), (3, 20), (3, 21), (3, 22), (3, 23)])), .inr (.inr ([37, 41, 45, 49], 2)), .inr (.inr ([53, 57, 61, 65], 3)), .inr (.inl (1, [(3, 24), (3, 25)])), .inr (.inl (0, [(0, 0), (0, 0), (3, 26), (3, 27), (3, 28)])), .inr (.inl (5, [(0, 0), (3, 29), (3, 30), (3, 31)])), .inr (.inl (6, [(0, 0), (3, 32), (3, 33), (3, 34)])), .inr (.inl (4, [(0, 0), (3, 35), (3, 36)])), .inl (64, 0), .inl (64, 0), .inl (64, 0), .inl (64, 0), .inl (64, 0), .inl (64, 0), .inl (64, 1), .inl (64, 1), .inl (64, 1), .inl (512, 0), .inl (64, 0), .inl (64, 0), .inl (64, 0), .inl (40, 0), .inl (40, 0), .inl (64, 0), .inl (64, 0), .inl (6, 0), .inl (6, 0), .inl (6, 0), .inl (6, 0), .inl (6, 0), .inl (6, 0), .inl (65, 0), .inl (64, 0), .inl (64, 0), .inl (6, 0), .inl (6, 0), .inr (.inl (7, [(0, 0), (3, 38), (3, 39), (3, 40)])), .inl (8, 0), .inl (8, 0), .inl (8, 0), .inr (.inl (7, [(0, 0), (3, 42), (3, 43), (3, 44)])), .inl (8, 0), .inl (8, 0), .inl (8, 0), .inr (.inl (7, [(0, 0), (3, 46), (3, 47), (3, 48)])), .inl (8, 0), .inl (8, 0), .inl (8, 0), .inr (.inl (7, [(0, 0), (3, 50), (3, 51), (3, 52)])), .inl (8, 0), .inl (8, 0), .inl (8, 0), .inr (.inl (2, [(1, 0), (3, 54), (3, 55), (3, 56)])), .inl (64, 0), .inl (64, 0), .inl (64, 1), .inr (.inl (2, [(1, 0), (3, 58), (3, 59), (3, 60)])), .inl (64, 0), .inl (64, 0), .inl (64, 1), .inr (.inl (2, [(1, 0), (3, 62), (3, 63), (3, 64)])), .inl (64, 0), .inl (64, 0), .inl (64, 1), .inr (.inl (2, [(1, 0), (3, 66), (3, 67), (3, 68)])), .inl (64, 0), .inl (64, 0), .inl (64, 1), .inr (.inl (2, [(1, 0), (3, 70), (3, 71), (3, 72)])), .inl (64, 0), .inl (64, 0), .inl (64, 1)]
def SCs : List (String × List Int) := [("ROW_STEP", [-1, -1, 0, 1, 1, 1, 0, -1]), ("COLUMN_STEP", [0, 1, 1, 1, 0, -1, -1, -1]), ("PUSH_BY_TURNS", [6, 4, 0, -1, -2])]
def SCn : List Cond := [.fieldLinkNest RX3 82 "FireLines" "ROW_STEP" "[I" "FireLines", .fieldLinkNest RX3 85 "FireLines" "COLUMN_STEP" "[I" "FireLines", .fieldLinkNest RX7 41 "FireLines" "PUSH_BY_TURNS" "[I" "FireLines", .methodLinkNest RX3 88 yX8_isWithin "FireLines"]
def SC : SH := (SCc, [.int, .boolean, .object "FireLines$Winds", .object "FireLines$Fire"], SCs, SCn)
def SMc : List CK := [.inr (.inl (9, [(0, 0), (0, 0), (0, 0), (0, 0), (0, 0), (0, 0), (0, 0), (0, 0), (3, 1), (3, 2), (3, 3), (3, 4), (3, 5), (3, 6), (3, 7), (3, 8), (3, 9), (3, 10), (3, 11), (3, 12), (3, 13), (3, 14), (3, 15), (3, 16), (3, 17), (3, 18), (3, 19), (3, 20), (3, 21), (3, 22), (2, 0), (3, 23), (3, 24), (3, 25), (3, 26), (3, 27), (3, 28), (3, 29)])), .inl (64, 0), .inl (64, 0), .inl (64, 0), .inl (64, 0), .inl (64, 0), .inl (64, 0), .inl (64, 1), .inl (64, 1), .inl (64, 1), .inl (4, 0), .inl (32, 0), .inl (32, 0), .inl (32, 0), .inl (40, 0), .inl (40, 0), .inl (6, 0), .inl (6, 0), .inl (6, 0), .inl (6, 0), .inl (6, 0), .inl (6, 0), .inl (6, 0), .inl (64, 0), .inl (64, 0), .inl (64, 1), .inl (64, 1), .inl (64, 1), .inl (64, 0), .inl (64, 0)]
def SM : SH := (SMc, [.int, .boolean], [], [])
def ckOk (tys : List FieldType) (ck : CK) : Bool := match ck with
  | .inl (n, t) => decide (n < 2147483648) && ((t == 0 && tys[0]? == some .int) || (t == 1 && tys[1]? == some .boolean))
  | .inr (.inr (rs, t)) => decide (rs.length < 2147483648) && (match tys[t]? with | some (.object _) => true | _ => false)
  | .inr (.inl (ci, sl)) => match vwCl[ci]? with
    | some r => r.1 == clsName ci && sl.length == r.2.2 && (List.range sl.length).all (fun j => match sl[j]? with
      | some (0, _) => (r.2.1 j).2.2 == ("I", false)
      | some (1, _) => (r.2.1 j).2.2 == ("Z", false)
      | some (2, _) => (r.2.1 j).2.2 == ("J", false)
      | _ => true)
    | none => false
theorem shOk_of {S : SH} (h : S.1.all (ckOk S.2.1) = true) : shOk S := by
  have key : ∀ (k : Nat) (ck : CK), S.1[k]? = some ck → ckOk S.2.1 ck = true := fun k ck hk => List.all_eq_true.mp h ck (List.mem_of_getElem? hk)
  refine ⟨fun k n t hk => ?_, fun k rs t hk => ?_, fun k ci sl hk => ?_⟩
  · have q := key k _ hk
    simp only [ckOk, Bool.and_eq_true, Bool.or_eq_true, decide_eq_true_eq, beq_iff_eq] at q
    exact q
  · have q := key k _ hk
    simp only [ckOk, Bool.and_eq_true, decide_eq_true_eq] at q
    refine ⟨q.1, ?_⟩
    have q2 := q.2
    split at q2
    next nm e => exact ⟨nm, e⟩
    next => cases q2
  · have q := key k _ hk
    simp only [ckOk] at q
    split at q
    next r e =>
      simp only [Bool.and_eq_true, beq_iff_eq, List.all_eq_true, List.mem_range] at q
      refine ⟨r, e, q.1.1, q.1.2, fun j sk hj => ?_⟩
      have hl : j < sl.length := (List.getElem?_eq_some_iff.mp hj).1
      have q2 := q.2 j hl
      rw [hj] at q2
      obtain ⟨a, b⟩ := sk
      refine ⟨fun z => ?_, fun z => ?_, fun z => ?_⟩
      · dsimp only at z; subst z; simpa using q2
      · dsimp only at z; subst z; simpa using q2
      · dsimp only at z; subst z; simpa using q2
    next => cases q
theorem SC_ok : shOk SC := shOk_of (by decide +kernel)
theorem SM_ok : shOk SM := shOk_of (by decide +kernel)
theorem sco_0 : objK SC 0 = some 8 := rfl
theorem scs_0_0 : slotK SC 0 8 0 = some (3, 1) := rfl
theorem scs_0_1 : slotK SC 0 8 1 = some (3, 2) := rfl
theorem scs_0_2 : slotK SC 0 8 2 = some (3, 3) := rfl
theorem scs_0_3 : slotK SC 0 8 3 = some (3, 69) := rfl
theorem scs_0_4 : slotK SC 0 8 4 = some (3, 4) := rfl
theorem scs_0_5 : slotK SC 0 8 5 = some (3, 5) := rfl
theorem scs_0_6 : slotK SC 0 8 6 = some (3, 6) := rfl
theorem scs_0_7 : slotK SC 0 8 7 = some (3, 7) := rfl
theorem scs_0_8 : slotK SC 0 8 8 = some (3, 8) := rfl
theorem scs_0_9 : slotK SC 0 8 9 = some (0, 0) := rfl
theorem sco_1 : objK SC 1 = some 3 := rfl
theorem scs_1_0 : slotK SC 1 3 0 = some (0, 0) := rfl
theorem scs_1_1 : slotK SC 1 3 1 = some (0, 0) := rfl
theorem scs_1_2 : slotK SC 1 3 2 = some (0, 0) := rfl
theorem scs_1_3 : slotK SC 1 3 3 = some (3, 9) := rfl
theorem scs_1_4 : slotK SC 1 3 4 = some (3, 10) := rfl
theorem scs_1_5 : slotK SC 1 3 5 = some (3, 11) := rfl
theorem scs_1_6 : slotK SC 1 3 6 = some (3, 12) := rfl
theorem scs_1_7 : slotK SC 1 3 7 = some (3, 13) := rfl
theorem scs_1_8 : slotK SC 1 3 8 = some (3, 14) := rfl
theorem scs_1_9 : slotK SC 1 3 9 = some (3, 15) := rfl
theorem scs_1_10 : slotK SC 1 3 10 = some (3, 16) := rfl
theorem scs_1_11 : slotK SC 1 3 11 = some (3, 17) := rfl
theorem scs_1_12 : slotK SC 1 3 12 = some (3, 18) := rfl
theorem scs_1_13 : slotK SC 1 3 13 = some (3, 19) := rfl
theorem scs_1_14 : slotK SC 1 3 14 = some (0, 0) := rfl
theorem scs_1_15 : slotK SC 1 3 15 = some (3, 20) := rfl
theorem scs_1_16 : slotK SC 1 3 16 = some (3, 21) := rfl
theorem scs_1_17 : slotK SC 1 3 17 = some (3, 22) := rfl
theorem scs_1_18 : slotK SC 1 3 18 = some (3, 23) := rfl
theorem scr_2 : refK SC 2 = some [37, 41, 45, 49] := rfl
theorem scr_3 : refK SC 3 = some [53, 57, 61, 65] := rfl
theorem sco_4 : objK SC 4 = some 1 := rfl
theorem scs_4_0 : slotK SC 4 1 0 = some (3, 24) := rfl
theorem scs_4_1 : slotK SC 4 1 1 = some (3, 25) := rfl
theorem sco_5 : objK SC 5 = some 0 := rfl
theorem scs_5_0 : slotK SC 5 0 0 = some (0, 0) := rfl
theorem scs_5_1 : slotK SC 5 0 1 = some (0, 0) := rfl
theorem scs_5_2 : slotK SC 5 0 2 = some (3, 26) := rfl
theorem scs_5_3 : slotK SC 5 0 3 = some (3, 27) := rfl
theorem scs_5_4 : slotK SC 5 0 4 = some (3, 28) := rfl
theorem sco_6 : objK SC 6 = some 5 := rfl
theorem scs_6_0 : slotK SC 6 5 0 = some (0, 0) := rfl
theorem scs_6_1 : slotK SC 6 5 1 = some (3, 29) := rfl
theorem scs_6_2 : slotK SC 6 5 2 = some (3, 30) := rfl
theorem scs_6_3 : slotK SC 6 5 3 = some (3, 31) := rfl
theorem sco_7 : objK SC 7 = some 6 := rfl
theorem scs_7_0 : slotK SC 7 6 0 = some (0, 0) := rfl
theorem scs_7_1 : slotK SC 7 6 1 = some (3, 32) := rfl
theorem scs_7_2 : slotK SC 7 6 2 = some (3, 33) := rfl
theorem scs_7_3 : slotK SC 7 6 3 = some (3, 34) := rfl
theorem sco_8 : objK SC 8 = some 4 := rfl
theorem scs_8_0 : slotK SC 8 4 0 = some (0, 0) := rfl
theorem scs_8_1 : slotK SC 8 4 1 = some (3, 35) := rfl
theorem scs_8_2 : slotK SC 8 4 2 = some (3, 36) := rfl
theorem sca_9 : arrK SC 9 0 = some 64 := rfl
theorem sca_10 : arrK SC 10 0 = some 64 := rfl
theorem sca_11 : arrK SC 11 0 = some 64 := rfl
theorem sca_12 : arrK SC 12 0 = some 64 := rfl
theorem sca_13 : arrK SC 13 0 = some 64 := rfl
theorem sca_14 : arrK SC 14 0 = some 64 := rfl
theorem sca_15 : arrK SC 15 1 = some 64 := rfl
theorem sca_16 : arrK SC 16 1 = some 64 := rfl
theorem sca_17 : arrK SC 17 1 = some 64 := rfl
theorem sca_18 : arrK SC 18 0 = some 512 := rfl
theorem sca_19 : arrK SC 19 0 = some 64 := rfl
theorem sca_20 : arrK SC 20 0 = some 64 := rfl
theorem sca_21 : arrK SC 21 0 = some 64 := rfl
theorem sca_22 : arrK SC 22 0 = some 40 := rfl
theorem sca_23 : arrK SC 23 0 = some 40 := rfl
theorem sca_24 : arrK SC 24 0 = some 64 := rfl
theorem sca_25 : arrK SC 25 0 = some 64 := rfl
theorem sca_26 : arrK SC 26 0 = some 6 := rfl
theorem sca_27 : arrK SC 27 0 = some 6 := rfl
theorem sca_28 : arrK SC 28 0 = some 6 := rfl
theorem sca_29 : arrK SC 29 0 = some 6 := rfl
theorem sca_30 : arrK SC 30 0 = some 6 := rfl
theorem sca_31 : arrK SC 31 0 = some 6 := rfl
theorem sca_32 : arrK SC 32 0 = some 65 := rfl
theorem sca_33 : arrK SC 33 0 = some 64 := rfl
theorem sca_34 : arrK SC 34 0 = some 64 := rfl
theorem sca_35 : arrK SC 35 0 = some 6 := rfl
theorem sca_36 : arrK SC 36 0 = some 6 := rfl
theorem sco_37 : objK SC 37 = some 7 := rfl
theorem scs_37_0 : slotK SC 37 7 0 = some (0, 0) := rfl
theorem scs_37_1 : slotK SC 37 7 1 = some (3, 38) := rfl
theorem scs_37_2 : slotK SC 37 7 2 = some (3, 39) := rfl
theorem scs_37_3 : slotK SC 37 7 3 = some (3, 40) := rfl
theorem sca_38 : arrK SC 38 0 = some 8 := rfl
theorem sca_39 : arrK SC 39 0 = some 8 := rfl
theorem sca_40 : arrK SC 40 0 = some 8 := rfl
theorem sco_41 : objK SC 41 = some 7 := rfl
theorem scs_41_0 : slotK SC 41 7 0 = some (0, 0) := rfl
theorem scs_41_1 : slotK SC 41 7 1 = some (3, 42) := rfl
theorem scs_41_2 : slotK SC 41 7 2 = some (3, 43) := rfl
theorem scs_41_3 : slotK SC 41 7 3 = some (3, 44) := rfl
theorem sca_42 : arrK SC 42 0 = some 8 := rfl
theorem sca_43 : arrK SC 43 0 = some 8 := rfl
theorem sca_44 : arrK SC 44 0 = some 8 := rfl
theorem sco_45 : objK SC 45 = some 7 := rfl
theorem scs_45_0 : slotK SC 45 7 0 = some (0, 0) := rfl
theorem scs_45_1 : slotK SC 45 7 1 = some (3, 46) := rfl
theorem scs_45_2 : slotK SC 45 7 2 = some (3, 47) := rfl
theorem scs_45_3 : slotK SC 45 7 3 = some (3, 48) := rfl
theorem sca_46 : arrK SC 46 0 = some 8 := rfl
theorem sca_47 : arrK SC 47 0 = some 8 := rfl
theorem sca_48 : arrK SC 48 0 = some 8 := rfl
theorem sco_49 : objK SC 49 = some 7 := rfl
theorem scs_49_0 : slotK SC 49 7 0 = some (0, 0) := rfl
theorem scs_49_1 : slotK SC 49 7 1 = some (3, 50) := rfl
theorem scs_49_2 : slotK SC 49 7 2 = some (3, 51) := rfl
theorem scs_49_3 : slotK SC 49 7 3 = some (3, 52) := rfl
theorem sca_50 : arrK SC 50 0 = some 8 := rfl
theorem sca_51 : arrK SC 51 0 = some 8 := rfl
theorem sca_52 : arrK SC 52 0 = some 8 := rfl
theorem sco_53 : objK SC 53 = some 2 := rfl
theorem scs_53_0 : slotK SC 53 2 0 = some (1, 0) := rfl
theorem scs_53_1 : slotK SC 53 2 1 = some (3, 54) := rfl
theorem scs_53_2 : slotK SC 53 2 2 = some (3, 55) := rfl
theorem scs_53_3 : slotK SC 53 2 3 = some (3, 56) := rfl
theorem sca_54 : arrK SC 54 0 = some 64 := rfl
theorem sca_55 : arrK SC 55 0 = some 64 := rfl
theorem sca_56 : arrK SC 56 1 = some 64 := rfl
theorem sco_57 : objK SC 57 = some 2 := rfl
theorem scs_57_0 : slotK SC 57 2 0 = some (1, 0) := rfl
theorem scs_57_1 : slotK SC 57 2 1 = some (3, 58) := rfl
theorem scs_57_2 : slotK SC 57 2 2 = some (3, 59) := rfl
theorem scs_57_3 : slotK SC 57 2 3 = some (3, 60) := rfl
theorem sca_58 : arrK SC 58 0 = some 64 := rfl
theorem sca_59 : arrK SC 59 0 = some 64 := rfl
theorem sca_60 : arrK SC 60 1 = some 64 := rfl
theorem sco_61 : objK SC 61 = some 2 := rfl
theorem scs_61_0 : slotK SC 61 2 0 = some (1, 0) := rfl
theorem scs_61_1 : slotK SC 61 2 1 = some (3, 62) := rfl
theorem scs_61_2 : slotK SC 61 2 2 = some (3, 63) := rfl
theorem scs_61_3 : slotK SC 61 2 3 = some (3, 64) := rfl
theorem sca_62 : arrK SC 62 0 = some 64 := rfl
theorem sca_63 : arrK SC 63 0 = some 64 := rfl
theorem sca_64 : arrK SC 64 1 = some 64 := rfl
theorem sco_65 : objK SC 65 = some 2 := rfl
theorem scs_65_0 : slotK SC 65 2 0 = some (1, 0) := rfl
theorem scs_65_1 : slotK SC 65 2 1 = some (3, 66) := rfl
theorem scs_65_2 : slotK SC 65 2 2 = some (3, 67) := rfl
theorem scs_65_3 : slotK SC 65 2 3 = some (3, 68) := rfl
theorem sca_66 : arrK SC 66 0 = some 64 := rfl
theorem sca_67 : arrK SC 67 0 = some 64 := rfl
theorem sca_68 : arrK SC 68 1 = some 64 := rfl
theorem sco_69 : objK SC 69 = some 2 := rfl
theorem scs_69_0 : slotK SC 69 2 0 = some (1, 0) := rfl
theorem scs_69_1 : slotK SC 69 2 1 = some (3, 70) := rfl
theorem scs_69_2 : slotK SC 69 2 2 = some (3, 71) := rfl
theorem scs_69_3 : slotK SC 69 2 3 = some (3, 72) := rfl
theorem sca_70 : arrK SC 70 0 = some 64 := rfl
theorem sca_71 : arrK SC 71 0 = some 64 := rfl
theorem sca_72 : arrK SC 72 1 = some 64 := rfl
theorem smo_0 : objK SM 0 = some 9 := rfl
theorem sms_0_0 : slotK SM 0 9 0 = some (0, 0) := rfl
theorem sms_0_1 : slotK SM 0 9 1 = some (0, 0) := rfl
theorem sms_0_2 : slotK SM 0 9 2 = some (0, 0) := rfl
theorem sms_0_3 : slotK SM 0 9 3 = some (0, 0) := rfl
theorem sms_0_4 : slotK SM 0 9 4 = some (0, 0) := rfl
theorem sms_0_5 : slotK SM 0 9 5 = some (0, 0) := rfl
theorem sms_0_6 : slotK SM 0 9 6 = some (0, 0) := rfl
theorem sms_0_7 : slotK SM 0 9 7 = some (0, 0) := rfl
theorem sms_0_8 : slotK SM 0 9 8 = some (3, 1) := rfl
theorem sms_0_9 : slotK SM 0 9 9 = some (3, 2) := rfl
theorem sms_0_10 : slotK SM 0 9 10 = some (3, 3) := rfl
theorem sms_0_11 : slotK SM 0 9 11 = some (3, 4) := rfl
theorem sms_0_12 : slotK SM 0 9 12 = some (3, 5) := rfl
theorem sms_0_13 : slotK SM 0 9 13 = some (3, 6) := rfl
theorem sms_0_14 : slotK SM 0 9 14 = some (3, 7) := rfl
theorem sms_0_15 : slotK SM 0 9 15 = some (3, 8) := rfl
theorem sms_0_16 : slotK SM 0 9 16 = some (3, 9) := rfl
theorem sms_0_17 : slotK SM 0 9 17 = some (3, 10) := rfl
theorem sms_0_18 : slotK SM 0 9 18 = some (3, 11) := rfl
theorem sms_0_19 : slotK SM 0 9 19 = some (3, 12) := rfl
theorem sms_0_20 : slotK SM 0 9 20 = some (3, 13) := rfl
theorem sms_0_21 : slotK SM 0 9 21 = some (3, 14) := rfl
theorem sms_0_22 : slotK SM 0 9 22 = some (3, 15) := rfl
theorem sms_0_23 : slotK SM 0 9 23 = some (3, 16) := rfl
theorem sms_0_24 : slotK SM 0 9 24 = some (3, 17) := rfl
theorem sms_0_25 : slotK SM 0 9 25 = some (3, 18) := rfl
theorem sms_0_26 : slotK SM 0 9 26 = some (3, 19) := rfl
theorem sms_0_27 : slotK SM 0 9 27 = some (3, 20) := rfl
theorem sms_0_28 : slotK SM 0 9 28 = some (3, 21) := rfl
theorem sms_0_29 : slotK SM 0 9 29 = some (3, 22) := rfl
theorem sms_0_30 : slotK SM 0 9 30 = some (2, 0) := rfl
theorem sms_0_31 : slotK SM 0 9 31 = some (3, 23) := rfl
theorem sms_0_32 : slotK SM 0 9 32 = some (3, 24) := rfl
theorem sms_0_33 : slotK SM 0 9 33 = some (3, 25) := rfl
theorem sms_0_34 : slotK SM 0 9 34 = some (3, 26) := rfl
theorem sms_0_35 : slotK SM 0 9 35 = some (3, 27) := rfl
theorem sms_0_36 : slotK SM 0 9 36 = some (3, 28) := rfl
theorem sms_0_37 : slotK SM 0 9 37 = some (3, 29) := rfl
theorem sma_1 : arrK SM 1 0 = some 64 := rfl
theorem sma_2 : arrK SM 2 0 = some 64 := rfl
theorem sma_3 : arrK SM 3 0 = some 64 := rfl
theorem sma_4 : arrK SM 4 0 = some 64 := rfl
theorem sma_5 : arrK SM 5 0 = some 64 := rfl
theorem sma_6 : arrK SM 6 0 = some 64 := rfl
theorem sma_7 : arrK SM 7 1 = some 64 := rfl
theorem sma_8 : arrK SM 8 1 = some 64 := rfl
theorem sma_9 : arrK SM 9 1 = some 64 := rfl
theorem sma_10 : arrK SM 10 0 = some 4 := rfl
theorem sma_11 : arrK SM 11 0 = some 32 := rfl
theorem sma_12 : arrK SM 12 0 = some 32 := rfl
theorem sma_13 : arrK SM 13 0 = some 32 := rfl
theorem sma_14 : arrK SM 14 0 = some 40 := rfl
theorem sma_15 : arrK SM 15 0 = some 40 := rfl
theorem sma_16 : arrK SM 16 0 = some 6 := rfl
theorem sma_17 : arrK SM 17 0 = some 6 := rfl
theorem sma_18 : arrK SM 18 0 = some 6 := rfl
theorem sma_19 : arrK SM 19 0 = some 6 := rfl
theorem sma_20 : arrK SM 20 0 = some 6 := rfl
theorem sma_21 : arrK SM 21 0 = some 6 := rfl
theorem sma_22 : arrK SM 22 0 = some 6 := rfl
theorem sma_23 : arrK SM 23 0 = some 64 := rfl
theorem sma_24 : arrK SM 24 0 = some 64 := rfl
theorem sma_25 : arrK SM 25 1 = some 64 := rfl
theorem sma_26 : arrK SM 26 1 = some 64 := rfl
theorem sma_27 : arrK SM 27 1 = some 64 := rfl
theorem sma_28 : arrK SM 28 0 = some 64 := rfl
theorem sma_29 : arrK SM 29 0 = some 64 := rfl
theorem sc_st0 : arrK SC 1000 0 = none := rfl
theorem sc_st1 : arrK SC 1001 0 = none := rfl
theorem sc_st2 : arrK SC 1002 0 = none := rfl
theorem sc_sv0 : staK SC 1000 = some [-1, -1, 0, 1, 1, 1, 0, -1] := rfl
theorem sc_sv1 : staK SC 1001 = some [0, 1, 1, 1, 0, -1, -1, -1] := rfl
theorem sc_sv2 : staK SC 1002 = some [6, 4, 0, -1, -2] := rfl
theorem so_3_82 : sOf SC 3 82 = some 0 := by decide +kernel
theorem so_3_85 : sOf SC 3 85 = some 1 := by decide +kernel
theorem so_7_41 : sOf SC 7 41 = some 2 := by decide +kernel
theorem scF_0 {f : Nat} (hf : f < 5) : slotK SC (53 + 4 * f) 2 0 = some (1, 0) := by
  match f, hf with
  | 0, _ => rfl
  | 1, _ => rfl
  | 2, _ => rfl
  | 3, _ => rfl
  | 4, _ => rfl
  | n + 5, hf => omega
theorem scW_0 {w : Nat} (hw : w < 4) : slotK SC (37 + 4 * w) 7 0 = some (0, 0) := by
  match w, hw with
  | 0, _ => rfl
  | 1, _ => rfl
  | 2, _ => rfl
  | 3, _ => rfl
  | n + 4, hw => omega
theorem scF_1 {f : Nat} (hf : f < 5) : slotK SC (53 + 4 * f) 2 1 = some (3, 54 + 4 * f) := by
  match f, hf with
  | 0, _ => rfl
  | 1, _ => rfl
  | 2, _ => rfl
  | 3, _ => rfl
  | 4, _ => rfl
  | n + 5, hf => omega
theorem scFa_1 {f : Nat} (hf : f < 5) : arrK SC (54 + 4 * f) 0 = some 64 := by
  match f, hf with
  | 0, _ => rfl
  | 1, _ => rfl
  | 2, _ => rfl
  | 3, _ => rfl
  | 4, _ => rfl
  | n + 5, hf => omega
theorem scW_1 {w : Nat} (hw : w < 4) : slotK SC (37 + 4 * w) 7 1 = some (3, 38 + 4 * w) := by
  match w, hw with
  | 0, _ => rfl
  | 1, _ => rfl
  | 2, _ => rfl
  | 3, _ => rfl
  | n + 4, hw => omega
theorem scWa_1 {w : Nat} (hw : w < 4) : arrK SC (38 + 4 * w) 0 = some 8 := by
  match w, hw with
  | 0, _ => rfl
  | 1, _ => rfl
  | 2, _ => rfl
  | 3, _ => rfl
  | n + 4, hw => omega
theorem scF_2 {f : Nat} (hf : f < 5) : slotK SC (53 + 4 * f) 2 2 = some (3, 55 + 4 * f) := by
  match f, hf with
  | 0, _ => rfl
  | 1, _ => rfl
  | 2, _ => rfl
  | 3, _ => rfl
  | 4, _ => rfl
  | n + 5, hf => omega
theorem scFa_2 {f : Nat} (hf : f < 5) : arrK SC (55 + 4 * f) 0 = some 64 := by
  match f, hf with
  | 0, _ => rfl
  | 1, _ => rfl
  | 2, _ => rfl
  | 3, _ => rfl
  | 4, _ => rfl
  | n + 5, hf => omega
theorem scW_2 {w : Nat} (hw : w < 4) : slotK SC (37 + 4 * w) 7 2 = some (3, 39 + 4 * w) := by
  match w, hw with
  | 0, _ => rfl
  | 1, _ => rfl
  | 2, _ => rfl
  | 3, _ => rfl
  | n + 4, hw => omega
theorem scWa_2 {w : Nat} (hw : w < 4) : arrK SC (39 + 4 * w) 0 = some 8 := by
  match w, hw with
  | 0, _ => rfl
  | 1, _ => rfl
  | 2, _ => rfl
  | 3, _ => rfl
  | n + 4, hw => omega
theorem scF_3 {f : Nat} (hf : f < 5) : slotK SC (53 + 4 * f) 2 3 = some (3, 56 + 4 * f) := by
  match f, hf with
  | 0, _ => rfl
  | 1, _ => rfl
  | 2, _ => rfl
  | 3, _ => rfl
  | 4, _ => rfl
  | n + 5, hf => omega
theorem scFa_3 {f : Nat} (hf : f < 5) : arrK SC (56 + 4 * f) 1 = some 64 := by
  match f, hf with
  | 0, _ => rfl
  | 1, _ => rfl
  | 2, _ => rfl
  | 3, _ => rfl
  | 4, _ => rfl
  | n + 5, hf => omega
theorem scW_3 {w : Nat} (hw : w < 4) : slotK SC (37 + 4 * w) 7 3 = some (3, 40 + 4 * w) := by
  match w, hw with
  | 0, _ => rfl
  | 1, _ => rfl
  | 2, _ => rfl
  | 3, _ => rfl
  | n + 4, hw => omega
theorem scWa_3 {w : Nat} (hw : w < 4) : arrK SC (40 + 4 * w) 0 = some 8 := by
  match w, hw with
  | 0, _ => rfl
  | 1, _ => rfl
  | 2, _ => rfl
  | 3, _ => rfl
  | n + 4, hw => omega
theorem scFo {f : Nat} (hf : f < 5) : objK SC (53 + 4 * f) = some 2 := by
  match f, hf with
  | 0, _ => rfl
  | 1, _ => rfl
  | 2, _ => rfl
  | 3, _ => rfl
  | 4, _ => rfl
  | n + 5, hf => omega
theorem scWo {w : Nat} (hw : w < 4) : objK SC (37 + 4 * w) = some 7 := by
  match w, hw with
  | 0, _ => rfl
  | 1, _ => rfl
  | 2, _ => rfl
  | 3, _ => rfl
  | n + 4, hw => omega
