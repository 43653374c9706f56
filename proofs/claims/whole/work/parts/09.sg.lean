set_option maxHeartbeats 4000000 in
theorem stI_m {S : SH} {y : MI} {Q : Option AV → AH → Prop} {X Y : AX} (hm : ∀ pc ls st h, X pc ls st h → Y pc ls st h) {i : Instr} {n pc : Nat} {ls st : List AV} {h : AH} (hh : stI S y Q X i n pc ls st h) : stI S y Q Y i n pc ls st h := by
  cases i with
  | iconst v => exact ⟨hh.1, hm _ _ _ _ hh.2⟩
  | bipush v => exact ⟨hh.1, hh.2.1, hh.2.2.1, hm _ _ _ _ hh.2.2.2⟩
  | sipush v => exact ⟨hh.1, hh.2.1, hh.2.2.1, hm _ _ _ _ hh.2.2.2⟩
  | ldc k => exact ⟨hh.1, onS_m (fun _ q => hm _ _ _ _ q) hh.2⟩
  | ldc_w k => exact ⟨hh.1, onS_m (fun _ q => hm _ _ _ _ q) hh.2⟩
  | lconst v => exact ⟨hh.1, hm _ _ _ _ hh.2⟩
  | iload_n k => exact ⟨hh.1, onI_m (fun _ q => hm _ _ _ _ q) hh.2⟩
  | iload k => exact ⟨hh.1, onI_m (fun _ q => hm _ _ _ _ q) hh.2⟩
  | aload_n k => exact ⟨hh.1, onR_m (fun _ q => hm _ _ _ _ q) hh.2⟩
  | aload k => exact ⟨hh.1, onR_m (fun _ q => hm _ _ _ _ q) hh.2⟩
  | istore_n k => exact ⟨hh.1, hh.2.1, pop1_m (fun _ _ q => onI_m (fun _ q => hm _ _ _ _ q) q) hh.2.2⟩
  | istore k => exact ⟨hh.1, hh.2.1, pop1_m (fun _ _ q => onI_m (fun _ q => hm _ _ _ _ q) q) hh.2.2⟩
  | astore_n k => exact ⟨hh.1, hh.2.1, pop1_m (fun _ _ q => onR_m (fun _ q => hm _ _ _ _ q) q) hh.2.2⟩
  | astore k => exact ⟨hh.1, hh.2.1, pop1_m (fun _ _ q => onR_m (fun _ q => hm _ _ _ _ q) q) hh.2.2⟩
  | iinc k v => exact ⟨hh.1, hh.2.1, onI_m (fun _ q => hm _ _ _ _ q) hh.2.2⟩
  | iadd => exact ⟨hh.1, bin_m (fun _ _ _ q => hm _ _ _ _ q) hh.2⟩
  | isub => exact ⟨hh.1, bin_m (fun _ _ _ q => hm _ _ _ _ q) hh.2⟩
  | imul => exact ⟨hh.1, bin_m (fun _ _ _ q => hm _ _ _ _ q) hh.2⟩
  | ineg => exact ⟨hh.1, pop1_m (fun _ _ q => onI_m (fun _ q => hm _ _ _ _ q) q) hh.2⟩
  | idiv => exact ⟨hh.1, bin_m (fun _ _ _ q => ⟨q.1, q.2.1, q.2.2.1, hm _ _ _ _ q.2.2.2⟩) hh.2⟩
  | irem => exact ⟨hh.1, bin_m (fun _ _ _ q => ⟨q.1, q.2.1, q.2.2.1, hm _ _ _ _ q.2.2.2⟩) hh.2⟩
  | iand => exact ⟨hh.1, bin_m (fun _ _ _ q => hm _ _ _ _ q) hh.2⟩
  | ishl => exact ⟨hh.1, bin_m (fun _ _ _ q => hm _ _ _ _ q) hh.2⟩
  | ishr => exact ⟨hh.1, bin_m (fun _ _ _ q => hm _ _ _ _ q) hh.2⟩
  | iushr => exact ⟨hh.1, bin_m (fun _ _ _ q => hm _ _ _ _ q) hh.2⟩
  | land => exact ⟨hh.1, binL_m (fun _ _ _ q => hm _ _ _ _ q) hh.2⟩
  | lor => exact ⟨hh.1, binL_m (fun _ _ _ q => hm _ _ _ _ q) hh.2⟩
  | lshl => exact ⟨hh.1, binS_m (fun _ _ _ q => hm _ _ _ _ q) hh.2⟩
  | lshr => exact ⟨hh.1, binS_m (fun _ _ _ q => hm _ _ _ _ q) hh.2⟩
  | lcmp => exact ⟨hh.1, binL_m (fun _ _ _ q => hm _ _ _ _ q) hh.2⟩
  | dup => exact ⟨hh.1, pop1_m (fun _ _ q => ⟨q.1, hm _ _ _ _ q.2⟩) hh.2⟩
  | dup2 => exact ⟨hh.1, arrI_m (fun _ _ _ q => hm _ _ _ _ q) hh.2⟩
  | goto off => exact ⟨hh.1, hh.2.1, hm _ _ _ _ hh.2.2⟩
  | if_icmp c off => exact ⟨hh.1, bin_m (fun _ _ _ q => ⟨q.1, q.2.1, q.2.2.1, fun z => hm _ _ _ _ (q.2.2.2.1 z), fun z => hm _ _ _ _ (q.2.2.2.2 z)⟩) hh.2⟩
  | ifCond c off => exact ⟨hh.1, pop1_m (fun _ _ q => onI_m (fun _ q => ⟨q.1, q.2.1, fun z => hm _ _ _ _ (q.2.2.1 z), fun z => hm _ _ _ _ (q.2.2.2 z)⟩) q) hh.2⟩
  | tableswitch d lo hi offs => exact pop1_m (fun _ _ q => onI_m (fun _ q => ⟨q.1, fun z => ⟨(q.2.1 z).1, hm _ _ _ _ (q.2.1 z).2⟩, fun z => (q.2.2 z).elim fun off w => ⟨off, w.1, w.2.1, hm _ _ _ _ w.2.2⟩⟩) q) hh
  | getfield k => exact ⟨hh.1, pop1_m (fun _ _ q => onR_m (fun _ q => onS_m (fun _ q => onS_m (fun _ q => hm _ _ _ _ q) q) q) q) hh.2⟩
  | putfield k =>
    refine ⟨hh.1, pop1_m (fun _ _ q => pop1_m (fun _ _ q => onR_m (fun _ q => onS_m (fun _ q => onS_m (fun sk q => ?_) q) q) q) q) hh.2⟩
    obtain ⟨a, b⟩ := sk
    match a, q with
    | 0, q => exact onI_m (fun _ q => hm _ _ _ _ q) q
    | 1, q => exact onI_m (fun _ q => ⟨q.1, hm _ _ _ _ q.2⟩) q
    | 2, q => exact onL_m (fun _ q => hm _ _ _ _ q) q
    | _ + 3, q => exact q
  | getstatic k => exact ⟨hh.1, onS_m (fun _ q => hm _ _ _ _ q) hh.2⟩
  | iaload =>
    refine ⟨hh.1, arrI_m (fun i k t q => ?_) hh.2⟩
    revert q
    cases arrK S k 0 with
    | some len => exact fun q => ⟨q.1, hm _ _ _ _ q.2⟩
    | none => exact fun q => onS_m (fun _ q => ⟨q.1, hm _ _ _ _ q.2⟩) q
  | baload => exact ⟨hh.1, arrI_m (fun _ _ _ q => onS_m (fun _ q => ⟨q.1, hm _ _ _ _ q.2⟩) q) hh.2⟩
  | iastore => exact ⟨hh.1, arrW_m (fun _ _ _ _ q => onS_m (fun _ q => ⟨q.1, hm _ _ _ _ q.2⟩) q) hh.2⟩
  | bastore => exact ⟨hh.1, arrW_m (fun _ _ _ _ q => onS_m (fun _ q => ⟨q.1, q.2.1, hm _ _ _ _ q.2.2⟩) q) hh.2⟩
  | aaload => exact ⟨hh.1, arrI_m (fun _ _ _ q => onS_m (fun _ q => ⟨q.1, hm _ _ _ _ q.2⟩) q) hh.2⟩
  | arraylength => exact ⟨hh.1, pop1_m (fun _ _ q => onR_m (fun _ q => onS_m (fun _ q => hm _ _ _ _ q) q) q) hh.2⟩
  | invokevirtual k => exact ⟨hh.1, onS_m (fun _ q => ⟨q.1, onS_m (fun _ q => pop1_m (fun _ _ q => onR_m (fun _ q => ⟨q.1, q.2.1, q.2.2.1, q.2.2.2.elim fun R w => ⟨R, w.1, fun r h' z => hm _ _ _ _ (w.2 r h' z)⟩⟩) q) q) q.2⟩) hh.2⟩
  | invokestatic k =>
    refine ⟨hh.1, ?_⟩
    have h2 := hh.2
    revert h2
    cases ct y.1 k with
    | some e => exact fun q => ⟨q.1, onS_m (fun _ q => ⟨q.1, q.2.1, q.2.2.elim fun R w => ⟨R, w.1, fun r h' z => hm _ _ _ _ (w.2 r h' z)⟩⟩) q.2⟩
    | none =>
      cases mt y.1 k with
      | some kd =>
        match kd with
        | 0 => exact fun q => ⟨q.1, bin_m (fun _ _ _ q => ⟨q.1, q.2.1, q.2.2.1, hm _ _ _ _ q.2.2.2⟩) q.2⟩
        | 1 => exact fun q => ⟨q.1, bin_m (fun _ _ _ q => ⟨q.1, q.2.1, q.2.2.1, hm _ _ _ _ q.2.2.2⟩) q.2⟩
        | 2 => exact fun q => ⟨q.1, pop1_m (fun _ _ q => onI_m (fun _ q => ⟨q.1, q.2.1, hm _ _ _ _ q.2.2⟩) q) q.2⟩
        | _ + 3 => exact fun q => q
      | none => exact fun q => ⟨q.1, cpy5_m (fun _ _ _ _ _ _ q => ⟨q.1, onS_m (fun _ q => onS_m (fun _ q => ⟨q.1, q.2.1, q.2.2.1, q.2.2.2.1, q.2.2.2.2.1, hm _ _ _ _ q.2.2.2.2.2⟩) q) q.2⟩) q.2⟩
  | ireturn => exact hh
  | areturn => exact hh
  | return_ => exact hh
  | _ => exact hh
theorem stD_m {S : SH} {y : MI} {Q : Option AV → AH → Prop} {X Y : AX} (hm : ∀ pc ls st h, X pc ls st h → Y pc ls st h) {pc : Nat} {ls st : List AV} {h : AH} (hh : stD S y Q X pc ls st h) : stD S y Q Y pc ls st h := by
  unfold stD at *
  revert hh
  cases decode (yc y) pc with
  | ok q => exact fun hh => stI_m hm hh
  | error e => exact fun hh => hh
theorem SG_fold {S : SH} {y : MI} {Q : Option AV → AH → Prop} {pc : Nat} {ls st : List AV} {h : AH} (hh : stD S y Q (SG S y Q) pc ls st h) : SG S y Q pc ls st h :=
  fun X hX => hX _ _ _ _ (stD_m (fun _ _ _ _ q => q X hX) hh)
theorem SG_iff {S : SH} {y : MI} {Q : Option AV → AH → Prop} {pc : Nat} {ls st : List AV} {h : AH} : SG S y Q pc ls st h ↔ stD S y Q (SG S y Q) pc ls st h :=
  ⟨fun hh => hh (stD S y Q (SG S y Q)) (fun _ _ _ _ q => stD_m (fun _ _ _ _ w => SG_fold w) q), SG_fold⟩
/-- one step, known instruction -/
theorem SG_at {S : SH} {y : MI} {Q : Option AV → AH → Prop} {pc n : Nat} {i : Instr} (hd : decode (yc y) pc = .ok (i, n)) {ls st : List AV} {h : AH} : SG S y Q pc ls st h ↔ stI S y Q (SG S y Q) i n pc ls st h := by
  rw [SG_iff]
  unfold stD
  rw [hd]
theorem onI_x {v : AV} {f : Int → Prop} (h : onI v f) : ∃ x, v = ai x ∧ f x := by
  unfold onI at h; split at h
  next x => exact ⟨x, rfl, h⟩
  next => exact h.elim
theorem onR_x {v : AV} {f : Nat → Prop} (h : onR v f) : ∃ x, v = ar x ∧ f x := by
  unfold onR at h; split at h
  next x => exact ⟨x, rfl, h⟩
  next => exact h.elim
theorem onL_x {v : AV} {f : Int64 → Prop} (h : onL v f) : ∃ x, v = al x ∧ f x := by
  unfold onL at h; split at h
  next x => exact ⟨x, rfl, h⟩
  next => exact h.elim
theorem onS_x {α : Type} {o : Option α} {f : α → Prop} (h : onS o f) : ∃ x, o = some x ∧ f x := by
  unfold onS at h; split at h
  next x => exact ⟨x, rfl, h⟩
  next => exact h.elim
theorem pop1_x {st : List AV} {f : AV → List AV → Prop} (h : pop1 st f) : ∃ v t, st = v :: t ∧ f v t := by
  unfold pop1 at h; split at h
  next v t => exact ⟨v, t, rfl, h⟩
  next => exact h.elim
theorem bin_x {st : List AV} {f : Int → Int → List AV → Prop} (h : bin st f) : ∃ a b t, st = ai b :: ai a :: t ∧ f a b t := by
  unfold bin at h; split at h
  next b a t => exact ⟨a, b, t, rfl, h⟩
  next => exact h.elim
theorem binL_x {st : List AV} {f : Int64 → Int64 → List AV → Prop} (h : binL st f) : ∃ a b t, st = al b :: al a :: t ∧ f a b t := by
  unfold binL at h; split at h
  next b a t => exact ⟨a, b, t, rfl, h⟩
  next => exact h.elim
theorem binS_x {st : List AV} {f : Int64 → Int → List AV → Prop} (h : binS st f) : ∃ a b t, st = ai b :: al a :: t ∧ f a b t := by
  unfold binS at h; split at h
  next b a t => exact ⟨a, b, t, rfl, h⟩
  next => exact h.elim
theorem arrI_x {st : List AV} {f : Int → Nat → List AV → Prop} (h : arrI st f) : ∃ i k t, st = ai i :: ar k :: t ∧ f i k t := by
  unfold arrI at h; split at h
  next i k t => exact ⟨i, k, t, rfl, h⟩
  next => exact h.elim
theorem arrW_x {st : List AV} {f : Int → Int → Nat → List AV → Prop} (h : arrW st f) : ∃ x i k t, st = ai x :: ai i :: ar k :: t ∧ f x i k t := by
  unfold arrW at h; split at h
  next x i k t => exact ⟨x, i, k, t, rfl, h⟩
  next => exact h.elim
theorem cpy5_x {st : List AV} {f : Int → Int → Nat → Int → Nat → List AV → Prop} (h : cpy5 st f) : ∃ n dp k1 sp k0 t, st = ai n :: ai dp :: ar k1 :: ai sp :: ar k0 :: t ∧ f n dp k1 sp k0 t := by
  unfold cpy5 at h; split at h
  next n dp k1 sp k0 t => exact ⟨n, dp, k1, sp, k0, t, rfl, h⟩
  next => exact h.elim
set_option maxHeartbeats 4000000 in
theorem stI_ok {S : SH} (hS : shOk S) {y : MI} {Q : Option AV → AH → Prop} {i : Instr} {n pc : Nat} {ls st : List AV} {h : AH} (hd : decode (yc y) pc = .ok (i, n)) (hh : stI S y Q (WPx S y Q) i n pc ls st h) : WPx S y Q pc ls st h := by
  cases i with
  | iconst v => obtain ⟨rfl, q⟩ := hh; exact r_iconst hd q
  | bipush v => obtain ⟨rfl, q1, q2, q⟩ := hh; exact r_bipush hd q1 q2 q
  | sipush v => obtain ⟨rfl, q1, q2, q⟩ := hh; exact r_sipush hd q1 q2 q
  | ldc k => obtain ⟨rfl, q⟩ := hh; obtain ⟨v, hv, q⟩ := onS_x q; exact r_ldc hd hv q
  | ldc_w k => obtain ⟨rfl, q⟩ := hh; obtain ⟨v, hv, q⟩ := onS_x q; exact r_ldcw hd hv q
  | lconst v => obtain ⟨rfl, q⟩ := hh; exact r_lconst hd q
  | iload_n k => obtain ⟨rfl, q⟩ := hh; obtain ⟨v, hv, q⟩ := onI_x q; exact r_iload_n hd hv q
  | iload k => obtain ⟨rfl, q⟩ := hh; obtain ⟨v, hv, q⟩ := onI_x q; exact r_iload hd hv q
  | aload_n k => obtain ⟨rfl, q⟩ := hh; obtain ⟨v, hv, q⟩ := onR_x q; exact r_aload_n hd hv q
  | aload k => obtain ⟨rfl, q⟩ := hh; obtain ⟨v, hv, q⟩ := onR_x q; exact r_aload hd hv q
  | istore_n k => obtain ⟨rfl, hn, q⟩ := hh; obtain ⟨v, t, rfl, q⟩ := pop1_x q; obtain ⟨x, rfl, q⟩ := onI_x q; exact r_istore_n hd hn q
  | istore k => obtain ⟨rfl, hn, q⟩ := hh; obtain ⟨v, t, rfl, q⟩ := pop1_x q; obtain ⟨x, rfl, q⟩ := onI_x q; exact r_istore hd hn q
  | astore_n k => obtain ⟨rfl, hn, q⟩ := hh; obtain ⟨v, t, rfl, q⟩ := pop1_x q; obtain ⟨x, rfl, q⟩ := onR_x q; exact r_astore_n hd hn q
  | astore k => obtain ⟨rfl, hn, q⟩ := hh; obtain ⟨v, t, rfl, q⟩ := pop1_x q; obtain ⟨x, rfl, q⟩ := onR_x q; exact r_astore hd hn q
  | iinc k v => obtain ⟨rfl, hn, q⟩ := hh; obtain ⟨x, hx, q⟩ := onI_x q; exact r_iinc hd hx hn q
  | iadd => obtain ⟨rfl, q⟩ := hh; obtain ⟨a, b, t, rfl, q⟩ := bin_x q; exact r_iadd hd q
  | isub => obtain ⟨rfl, q⟩ := hh; obtain ⟨a, b, t, rfl, q⟩ := bin_x q; exact r_isub hd q
  | imul => obtain ⟨rfl, q⟩ := hh; obtain ⟨a, b, t, rfl, q⟩ := bin_x q; exact r_imul hd q
  | ineg => obtain ⟨rfl, q⟩ := hh; obtain ⟨v, t, rfl, q⟩ := pop1_x q; obtain ⟨x, rfl, q⟩ := onI_x q; exact r_ineg hd q
  | idiv => obtain ⟨rfl, q⟩ := hh; obtain ⟨a, b, t, rfl, q⟩ := bin_x q; exact r_idiv hd q.1 q.2.1 q.2.2.1 q.2.2.2
  | irem => obtain ⟨rfl, q⟩ := hh; obtain ⟨a, b, t, rfl, q⟩ := bin_x q; exact r_irem hd q.1 q.2.1 q.2.2.1 q.2.2.2
  | iand => obtain ⟨rfl, q⟩ := hh; obtain ⟨a, b, t, rfl, q⟩ := bin_x q; exact r_iand hd q
  | ishl => obtain ⟨rfl, q⟩ := hh; obtain ⟨a, b, t, rfl, q⟩ := bin_x q; exact r_ishl hd q
  | ishr => obtain ⟨rfl, q⟩ := hh; obtain ⟨a, b, t, rfl, q⟩ := bin_x q; exact r_ishr hd q
  | iushr => obtain ⟨rfl, q⟩ := hh; obtain ⟨a, b, t, rfl, q⟩ := bin_x q; exact r_iushr hd q
  | land => obtain ⟨rfl, q⟩ := hh; obtain ⟨a, b, t, rfl, q⟩ := binL_x q; exact r_land hd q
  | lor => obtain ⟨rfl, q⟩ := hh; obtain ⟨a, b, t, rfl, q⟩ := binL_x q; exact r_lor hd q
  | lshl => obtain ⟨rfl, q⟩ := hh; obtain ⟨a, b, t, rfl, q⟩ := binS_x q; exact r_lshl hd q
  | lshr => obtain ⟨rfl, q⟩ := hh; obtain ⟨a, b, t, rfl, q⟩ := binS_x q; exact r_lshr hd q
  | lcmp => obtain ⟨rfl, q⟩ := hh; obtain ⟨a, b, t, rfl, q⟩ := binL_x q; exact r_lcmp hd q
  | dup =>
    obtain ⟨rfl, q⟩ := hh
    obtain ⟨v, t, rfl, q1, q2⟩ := pop1_x q
    rcases v with x | k | z
    · exact r_dupI hd q2
    · exact r_dupR hd q2
    · exact q1.elim
  | dup2 => obtain ⟨rfl, q⟩ := hh; obtain ⟨a, b, t, rfl, q⟩ := arrI_x q; exact r_dup2 hd q
  | goto off => obtain ⟨rfl, q1, q⟩ := hh; exact r_goto hd q1 q
  | if_icmp c off => obtain ⟨rfl, q⟩ := hh; obtain ⟨a, b, t, rfl, q⟩ := bin_x q; exact r_icmp hd q.2.1 q.2.2.1 q.1 q.2.2.2.1 q.2.2.2.2
  | ifCond c off => obtain ⟨rfl, q⟩ := hh; obtain ⟨v, t, rfl, q⟩ := pop1_x q; obtain ⟨x, rfl, q⟩ := onI_x q; exact r_ifc hd q.2.1 q.1 q.2.2.1 q.2.2.2
  | tableswitch d lo hi offs => obtain ⟨v, t, rfl, q⟩ := pop1_x hh; obtain ⟨x, rfl, q⟩ := onI_x q; exact r_tsw hd q.1 q.2.1 q.2.2
  | getfield k =>
    obtain ⟨rfl, q⟩ := hh
    obtain ⟨v, t, rfl, q⟩ := pop1_x q
    obtain ⟨x, rfl, q⟩ := onR_x q
    obtain ⟨⟨ci, j⟩, hf, q⟩ := onS_x q
    obtain ⟨sk, hs, q⟩ := onS_x q
    exact r_getf hS hd hf hs q
  | putfield k =>
    obtain ⟨rfl, q⟩ := hh
    obtain ⟨v, t1, rfl, q1⟩ := pop1_x q
    obtain ⟨u, t, rfl, q2⟩ := pop1_x q1
    obtain ⟨x, rfl, q3⟩ := onR_x q2
    obtain ⟨⟨ci, j⟩, hf, q4⟩ := onS_x q3
    obtain ⟨⟨a, b⟩, hs, q⟩ := onS_x q4
    match a, hs, q with
    | 0, hs, q => obtain ⟨x, rfl, q⟩ := onI_x q; exact r_putf hS hd hf hs (Or.inl ⟨rfl, rfl⟩) q
    | 1, hs, q => obtain ⟨x, rfl, q1, q⟩ := onI_x q; exact r_putf hS hd hf hs (Or.inr (Or.inl ⟨rfl, rfl, q1⟩)) q
    | 2, hs, q => obtain ⟨x, rfl, q⟩ := onL_x q; exact r_putf hS hd hf hs (Or.inr (Or.inr ⟨rfl, by rw [Int64.ofInt_toInt]⟩)) q
    | _ + 3, hs, q => exact q.elim
  | getstatic k => obtain ⟨rfl, q⟩ := hh; obtain ⟨j, hj, q⟩ := onS_x q; exact r_gets hd hj q
  | iaload =>
    obtain ⟨rfl, q⟩ := hh
    obtain ⟨i, k, t, rfl, q1⟩ := arrI_x q
    cases ha : arrK S k 0 with
    | some len => rw [ha] at q1; exact r_iald hS hd ha q1.1.1 q1.1.2 q1.2
    | none =>
      rw [ha] at q1
      obtain ⟨vs, hv, q⟩ := onS_x q1
      exact r_sald hd hv q.1.2.2 q.1.1 q.1.2.1 q.2
  | baload => obtain ⟨rfl, q⟩ := hh; obtain ⟨i, k, t, rfl, q⟩ := arrI_x q; obtain ⟨len, ha, q⟩ := onS_x q; exact r_bald hS hd ha q.1.1 q.1.2 q.2
  | iastore => obtain ⟨rfl, q⟩ := hh; obtain ⟨x, i, k, t, rfl, q⟩ := arrW_x q; obtain ⟨len, ha, q⟩ := onS_x q; exact r_iast hS hd ha q.1.1 q.1.2 q.2
  | bastore => obtain ⟨rfl, q⟩ := hh; obtain ⟨x, i, k, t, rfl, q⟩ := arrW_x q; obtain ⟨len, ha, q⟩ := onS_x q; exact r_bast hS hd ha q.1.1 q.1.2 q.2.1 q.2.2
  | aaload => obtain ⟨rfl, q⟩ := hh; obtain ⟨i, k, t, rfl, q⟩ := arrI_x q; obtain ⟨rs, ha, q⟩ := onS_x q; exact r_aald hS hd ha q.1.1 q.1.2 q.2
  | arraylength => obtain ⟨rfl, q⟩ := hh; obtain ⟨v, t, rfl, q⟩ := pop1_x q; obtain ⟨x, rfl, q⟩ := onR_x q; obtain ⟨len, ha, q⟩ := onS_x q; exact r_alen hS hd ha q
  | invokevirtual k =>
    obtain ⟨rfl, q⟩ := hh
    obtain ⟨⟨kd, z, n⟩, hc, q0, q⟩ := onS_x q
    obtain ⟨⟨as, st2⟩, hp, q⟩ := onS_x q
    obtain ⟨v, rest, h2, q⟩ := pop1_x q
    obtain ⟨x, rfl, q1, q2, q3, R, q4, q5⟩ := onR_x q
    dsimp only at q0 h2 q2 q3 q4
    subst q0; subst h2
    exact r_invV hS hd hc hp q1 q2 q3 q4 q5
  | invokestatic k =>
    obtain ⟨rfl, q⟩ := hh
    cases hc : ct y.1 k with
    | some e =>
      rw [hc] at q
      obtain ⟨kd, z, n⟩ := e
      obtain ⟨q0, q⟩ := q
      obtain ⟨⟨as, st2⟩, hp, q1, q3, R, q4, q5⟩ := onS_x q
      rcases q0 with q0 | ⟨q0, q6⟩
      · dsimp only at q0; subst q0; exact r_invS hd hc hp q1 q3 q4 q5
      · dsimp only at q0; subst q0; exact r_invN hd hc q6 hp q1 q3 q4 q5
    | none =>
      rw [hc] at q
      dsimp only at q
      cases hmt : mt y.1 k with
      | some kd =>
        rw [hmt] at q
        match kd, hmt, q with
        | 0, hmt, q => obtain ⟨q0, q⟩ := q; obtain ⟨a, b, t, rfl, q⟩ := bin_x q; exact r_min hd hmt q0 q.1 q.2.1 q.2.2.1 q.2.2.2
        | 1, hmt, q => obtain ⟨q0, q⟩ := q; obtain ⟨a, b, t, rfl, q⟩ := bin_x q; exact r_max hd hmt q0 q.1 q.2.1 q.2.2.1 q.2.2.2
        | 2, hmt, q => obtain ⟨q0, q⟩ := q; obtain ⟨v, t, rfl, q⟩ := pop1_x q; obtain ⟨x, rfl, q⟩ := onI_x q; exact r_abs hd hmt q0 q.1 q.2.1 q.2.2
        | _ + 3, hmt, q => exact q.elim
      | none =>
        rw [hmt] at q
        obtain ⟨q0, q⟩ := q
        obtain ⟨n, dp, k1, sp, k0, t, rfl, q1, q⟩ := cpy5_x q
        obtain ⟨n0, a0, q⟩ := onS_x q
        obtain ⟨n1, a1, q⟩ := onS_x q
        exact r_copy hS hd q0 a0 a1 q.1 q.2.1 q.2.2.1 q.2.2.2.1 q.2.2.2.2.1 q1 q.2.2.2.2.2
  | ireturn =>
    obtain ⟨rfl, q⟩ := hh
    unfold retQ at q
    split at q
    next v e => exact r_iret hd e q
    next v e => exact r_zret hd e q.1 q.2
    next => exact q.elim
  | areturn =>
    obtain ⟨rfl, q⟩ := hh
    unfold aretQ at q
    split at q
    next v nm e => exact r_aret hd e q
    next => exact q.elim
  | return_ => obtain ⟨rfl, rfl, q1, q⟩ := hh; exact r_vret hd q1 q
  | _ => exact hh.elim
theorem SG_ok {S : SH} (hS : shOk S) {y : MI} {Q : Option AV → AH → Prop} {pc : Nat} {ls st : List AV} {h : AH} (hh : SG S y Q pc ls st h) : WPx S y Q pc ls st h := by
  refine hh (WPx S y Q) (fun pc ls st h q => ?_)
  unfold stD at q
  cases hd : decode (yc y) pc with
  | ok w => rw [hd] at q; exact stI_ok hS hd q
  | error e => rw [hd] at q; exact q.elim
def c1 (v : AV) : Bool := match v with
  | .inr (.inr _) => false
  | _ => true
def padL (n : Nat) (av : List AV) : List AV := av ++ List.replicate (n - av.length) au
theorem lget_app (av : List AV) (k i : Nat) : lget (av ++ List.replicate k au) i = lget av i := by
  induction av generalizing i with
  | nil =>
    have : ∀ k i, lget (List.replicate k au) i = au := by
      intro k
      induction k with
      | zero => intro i; rfl
      | succ k ih =>
        intro i
        cases i with
        | zero => rfl
        | succ i => exact ih i
    simpa [lget] using this k i
  | cons x t ih =>
    cases i with
    | zero => rfl
    | succ i => exact ih i
theorem args_mem (ad : Nat → Nat) : ∀ (av : List AV) (k i : Nat) (w : Value), av.all c1 = true → ((∃ x, lget av i = ai x ∧ w = .int (Int32.ofInt x)) ∨ ∃ q, lget av i = ar q ∧ w = .ref (ad q)) → (k + i, w) ∈ lv_args k (av.map (conc ad))
  | [], k, i, w, _, h => by
    rcases h with ⟨x, h, -⟩ | ⟨x, h, -⟩
    · simp [lget] at h
    · simp [lget] at h
  | v :: av, k, i, w, hc, h => by
    simp only [List.all_cons, Bool.and_eq_true] at hc
    have hcat : ¬ (conc ad v).category = 2 := by
      rcases v with x | q | z
      · simp [conc, Value.category]
      · simp [conc, Value.category]
      · simp [c1] at hc
    cases i with
    | zero =>
      have : conc ad v = w := by
        rcases h with ⟨x, h, rfl⟩ | ⟨x, h, rfl⟩
        · have h : v = ai x := h
          rw [h]; rfl
        · have h : v = ar x := h
          rw [h]; rfl
      simp only [List.map_cons, lv_args, this, Nat.add_zero]
      exact List.mem_cons_self
    | succ i =>
      simp only [List.map_cons, lv_args, hcat, if_false]
      have := args_mem ad av (k + 1) i w hc.2 h
      rw [show k + (i + 1) = k + 1 + i by omega]
      exact List.mem_cons_of_mem _ this
theorem sl_len (ad : Nat → Nat) : ∀ (av : List AV), av.all c1 = true → (lg_sl (av.map (conc ad))).length = av.length
  | [], _ => rfl
  | v :: av, hc => by
    simp only [List.all_cons, Bool.and_eq_true] at hc
    have hcat : ¬ (conc ad v).category = 2 := by
      rcases v with x | q | z
      · simp [conc, Value.category]
      · simp [conc, Value.category]
      · simp [c1] at hc
    have ih := sl_len ad av hc.2
    simp only [lg_sl, List.map_cons, List.flatMap_cons, hcat, if_false, List.length_append, List.length_cons, List.length_nil] at ih ⊢
    omega
/-- a method's contract out of the abstract run -/
theorem Ok_of {S : SH} (hS : shOk S) {y : MI} (hy : plainName (yn y).cls = true) {av : List AV} {h : AH} {R : Option AV → AH → Prop} (hc : av.all c1 = true) (hn : av.length ≤ yL y) (hh : SG S y R 0 (padL (yL y) av) [] h) : Ok S y av h R := by
  intro l D ad cA
  refine Met.ofW (cc := yc y) (maxL := yL y) (ret := yr y) hy rfl ?_
  intro p e s m args below meth c s₁ B hml hv
  obtain ⟨rfl, hP, hK, hI, hX⟩ := hv
  have hts := atoms_spec (ws := wsOf y) B.pre
  have hown : s.vm.findClass (clsName y.1) = some m.cls := findClass_of_methodNamed B.named
  have C : Cx S y p s m (av.map (conc ad)).toArray meth c D ad cA := ⟨B.exec, B.bytes, hml, B.returns, hown, fun w hw => hts w (List.mem_cons_of_mem _ hw), B.notSynchronized, hK, hI, hX⟩
  have hl := lv_entry (av.map (conc ad)) (n := yL y) (by rw [sl_len ad av hc]; exact hn)
  rw [lg_entry_eq]
  refine SG_ok hS hh p l e s m (av.map (conc ad)).toArray below meth c D ad cA s.heap [] _ C hP va_S.rf ⟨hl.1, hl.2.1, fun q hq => hl.2.2 q ?_⟩
  have hq := lvl_mem.mp hq
  unfold padL at hq
  rw [lget_app] at hq
  have := args_mem ad av 0 q.1 q.2 hc hq
  rw [Nat.zero_add] at this
  exact this
