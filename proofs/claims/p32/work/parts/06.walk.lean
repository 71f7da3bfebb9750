/-! ===== a walk by the engine is a walk of the machine ===== -/
def EnvOK (own : String) (fl : Nat → Option (Nat × Nat)) (sg : Nat → Option Nat) (kc : Nat → Option Int32) : Prop :=
  (∀ i ci k, fl i = some (ci, k) → flOK own i ci k) ∧ (∀ i j, sg i = some j → Cond.fieldLink own i RX5 (stn j) "[I" ∈ gT) ∧ ∀ i v, kc i = some v → Cond.constant own i v ∈ gT
theorem swT_at {x : Int32} {k : Int → Prop} : ∀ {offs : List Int} {lo : Int}, swT x lo offs k → ∀ (j : Nat) (o : Int), offs[j]? = some o → x.toInt = lo + j → k o
  | [], _, _, j, o, h, _ => by simp at h
  | a :: r, lo, hs, 0, o, h, hx => by
    simp at h
    subst h
    exact hs.1 (by simpa using hx)
  | a :: r, lo, hs, j + 1, o, h, hx => by
    rw [List.getElem?_cons_succ] at h
    exact swT_at hs.2 j o h (by rw [hx]; push_cast; omega)
theorem swL_at {x : Int32} {d : Int} {k : Int → Prop} : ∀ {ps : List (Int × Int)}, swL x d ps k → k (Op.lookupswitch.offset ps d x.toInt)
  | [], h => h
  | (a, o) :: r, h => by
    rw [Op.lookupswitch.offset_cons]
    by_cases e : a = x.toInt
    · rw [if_pos e]
      exact h.1 e
    · rw [if_neg e]
      exact swL_at (h.2 e)
theorem off_in {ps : List (Int × Int)} {d x : Int} {P : Int → Prop} (hd : P d) (h : ∀ o ∈ ps, P o.2) : P (Op.lookupswitch.offset ps d x) := by
  induction ps with
  | nil => exact hd
  | cons a r ih =>
    obtain ⟨a, o⟩ := a
    rw [Op.lookupswitch.offset_cons]
    split
    · exact h (a, o) List.mem_cons_self
    · exact ih (fun q hq => h q (List.mem_cons_of_mem _ hq))
theorem ldI_at {LL : LT} {i : Nat} {k : Int32 → Prop} (h : ldI LL i k) : ∃ x : Int32, LL[i]? = some (some (.int x)) ∧ k x := by
  unfold ldI at h
  split at h
  · rename_i x hx
    exact ⟨x, hx, h⟩
  · exact h.elim
theorem ldA_at {LL : LT} {i : Nat} {k : Nat → Prop} (h : ldA LL i k) : ∃ x : Nat, LL[i]? = some (some (.ref x)) ∧ k x := by
  unfold ldA at h
  split at h
  · rename_i x hx
    exact ⟨x, hx, h⟩
  · exact h.elim
section WLK
variable {p : Program} {l : Launch} {e : Env} {R : Room} {s : State} {m : MethodId} {args : Array Value} {below : List Frame} {meth : Method} {c : Code} {cells slots : Nat} {Q0 : State → Prop}
variable {dC : Nat → ClassId} {dI : Nat → Nat → Nat} {cy : Nat → ClassId} {L : List Nat} {K : KT} {R0 : DT} {sa : Nat → Nat} {cc : ByteArray} {own : String} {nL : Nat}
variable {rt : Option FieldType} {fl : Nat → Option (Nat × Nat)} {sg : Nat → Option Nat} {kc : Nat → Option Int32} {na rc : Nat → Nat} {cv cs : Nat → CT} {Q : QT}
theorem tgt_ok {pc : Nat} {off : Int} (h : 0 ≤ (pc : Int) + off) : (pc : Int) + off = (((pc : Int) + off).toNat : Int) := (Int.toNat_of_nonneg h).symm
set_option maxHeartbeats 4000000 in
theorem exI_sound (X : Cx p s m args c dC dI cy L K R0 sa cc own nL) (hE : EnvOK own fl sg kc) (hV : ∀ i, cOKV p l e R s m args below meth c cells slots Q0 dC dI cy L K cc nL i (na i) (rc i) (cv i)) (hSt : ∀ i, cOKS p l e R s m args below meth c cells slots Q0 dC dI cy L K cc nL i (na i) (cs i))
    (hret : ∀ pc ls v G D, decode cc pc = .ok (.ireturn, 1) → (∃ ty, rt = some ty ∧ narrow ty (.int v) = .int v) → Q (some (.int v)) G D → Wc p l e R s m args below meth c cells slots Q0 dC dI cy L K G D (F0 m pc ls [.int v]))
    (hretv : ∀ pc ls G D, decode cc pc = .ok (.return_, 1) → rt = none → Q none G D → Wc p l e R s m args below meth c cells slots Q0 dC dI cy L K G D (F0 m pc ls []))
    {go : Nat → UT} (hgo : ∀ pc LL st G D ls, lsOK ls nL LL → go pc LL st G D → Wc p l e R s m args below meth c cells slots Q0 dC dI cy L K G D (F0 m pc ls st))
    {pc len : Nat} {LL : LT} {st : List Value} {G : GT} {D : DT} {ls : Array Slot} {ins : Instr} (hdg : decode cc pc = .ok (ins, len)) (hl : lsOK ls nL LL) (h : exI rt fl sg kc na rc cv cs K R0 sa Q go pc LL st G D len ins) :
    Wc p l e R s m args below meth c cells slots Q0 dC dI cy L K G D (F0 m pc ls st) := by
  have hx := X.1.1
  have hb := X.1.2.1
  have hown := X.1.2.2.2.1
  have hts := X.1.2.2.2.2
  obtain ⟨hE1, hE2, hE3⟩ := hE
  cases ins
  case iconst n =>
    obtain ⟨rfl, h⟩ := h
    exact fun H locs hP hS => lv_iconst hx hb hdg rfl (hgo _ _ _ _ _ _ hl h H locs hP hS)
  case bipush n =>
    obtain ⟨rfl, h⟩ := h
    exact fun H locs hP hS => lv_bipush hx hb hdg rfl (hgo _ _ _ _ _ _ hl h H locs hP hS)
  case sipush n =>
    obtain ⟨rfl, h⟩ := h
    exact fun H locs hP hS => lv_sipush hx hb hdg rfl (hgo _ _ _ _ _ _ hl h H locs hP hS)
  case ldc i =>
    obtain ⟨rfl, h⟩ := h
    split at h
    · rename_i v hv
      exact fun H locs hP hS => lv_ldc hx hb hown (hts _ (hE3 i v hv)) hdg (hgo _ _ _ _ _ _ hl h H locs hP hS)
    · exact h.elim
  case iload_n k =>
    obtain ⟨rfl, h⟩ := h
    obtain ⟨x, h1, h2⟩ := ldI_at h
    exact fun H locs hP hS => lv_iload_n hx hb hdg rfl (hl.get h1) (hgo _ _ _ _ _ _ hl h2 H locs hP hS)
  case iload k =>
    obtain ⟨rfl, h⟩ := h
    obtain ⟨x, h1, h2⟩ := ldI_at h
    exact fun H locs hP hS => lv_iload hx hb hdg (hl.get h1) (hgo _ _ _ _ _ _ hl h2 H locs hP hS)
  case aload_n k =>
    obtain ⟨rfl, h⟩ := h
    obtain ⟨x, h1, h2⟩ := ldA_at h
    exact fun H locs hP hS => lv_aload_n hx hb hdg rfl (hl.get h1) (hgo _ _ _ _ _ _ hl h2 H locs hP hS)
  case aload k =>
    obtain ⟨rfl, h⟩ := h
    obtain ⟨x, h1, h2⟩ := ldA_at h
    exact fun H locs hP hS => lv_aload hx hb hdg (hl.get h1) (hgo _ _ _ _ _ _ hl h2 H locs hP hS)
  case istore_n k =>
    obtain ⟨rfl, hk, h⟩ := h
    obtain ⟨q1, q2, q, q3, q4⟩ := hl
    split at h
    · exact fun H locs hP hS => lv_istore_n hx hb hdg rfl q3 (by omega) rfl (fun ls' hl' => hgo _ _ _ _ _ _ (lsOK.set q1 q2 q4 hk rfl hl') h H locs hP hS)
    · exact h.elim
  case istore k =>
    obtain ⟨rfl, hk, h⟩ := h
    obtain ⟨q1, q2, q, q3, q4⟩ := hl
    split at h
    · exact fun H locs hP hS => lv_istore hx hb hdg q3 (by omega) rfl (fun ls' hl' => hgo _ _ _ _ _ _ (lsOK.set q1 q2 q4 hk rfl hl') h H locs hP hS)
    · exact h.elim
  case astore_n k =>
    obtain ⟨rfl, hk, h⟩ := h
    obtain ⟨q1, q2, q, q3, q4⟩ := hl
    split at h
    · exact fun H locs hP hS => lv_astore_n hx hb hdg rfl q3 (by omega) rfl (fun ls' hl' => hgo _ _ _ _ _ _ (lsOK.set q1 q2 q4 hk rfl hl') h H locs hP hS)
    · exact h.elim
  case astore k =>
    obtain ⟨rfl, hk, h⟩ := h
    obtain ⟨q1, q2, q, q3, q4⟩ := hl
    split at h
    · exact fun H locs hP hS => lv_astore hx hb hdg q3 (by omega) rfl (fun ls' hl' => hgo _ _ _ _ _ _ (lsOK.set q1 q2 q4 hk rfl hl') h H locs hP hS)
    · exact h.elim
  case iinc k n =>
    obtain ⟨rfl, h⟩ := h
    obtain ⟨x, h1, h2⟩ := ldI_at h
    obtain ⟨q1, q2, q, q3, q4⟩ := hl
    have hk : k < LL.length := (List.getElem?_eq_some_iff.mp h1).1
    obtain ⟨j, hj⟩ := List.getElem?_of_mem (q4 k _ h1)
    exact fun H locs hP hS => lv_iinc hx hb hdg q3 hj rfl (by omega) rfl (fun ls' hl' => hgo _ _ _ _ _ _ (lsOK.set q1 q2 q4 hk rfl hl') h2 H locs hP hS)
  case iadd =>
    obtain ⟨rfl, h⟩ := h
    split at h
    · exact fun H locs hP hS => lv_iadd hx hb hdg (hgo _ _ _ _ _ _ hl h H locs hP hS)
    · exact h.elim
  case isub =>
    obtain ⟨rfl, h⟩ := h
    split at h
    · exact fun H locs hP hS => lv_isub hx hb hdg (hgo _ _ _ _ _ _ hl h H locs hP hS)
    · exact h.elim
  case imul =>
    obtain ⟨rfl, h⟩ := h
    split at h
    · exact fun H locs hP hS => lv_imul hx hb hdg (hgo _ _ _ _ _ _ hl h H locs hP hS)
    · exact h.elim
  case iand =>
    obtain ⟨rfl, h⟩ := h
    split at h
    · exact fun H locs hP hS => lv_iand hx hb hdg (hgo _ _ _ _ _ _ hl h H locs hP hS)
    · exact h.elim
  case idiv =>
    obtain ⟨rfl, h⟩ := h
    split at h
    · exact fun H locs hP hS => lv_idiv hx hb hdg h.1 (hgo _ _ _ _ _ _ hl h.2 H locs hP hS)
    · exact h.elim
  case irem =>
    obtain ⟨rfl, h⟩ := h
    split at h
    · exact fun H locs hP hS => lv_irem hx hb hdg h.1 (hgo _ _ _ _ _ _ hl h.2 H locs hP hS)
    · exact h.elim
  case ineg =>
    obtain ⟨rfl, h⟩ := h
    split at h
    · exact fun H locs hP hS => lv_ineg hx hb hdg (hgo _ _ _ _ _ _ hl h H locs hP hS)
    · exact h.elim
  case i2c =>
    obtain ⟨rfl, h⟩ := h
    split at h
    · exact fun H locs hP hS => lv_i2c hx hb hdg (char_id h.1 h.2.1) (hgo _ _ _ _ _ _ hl h.2.2 H locs hP hS)
    · exact h.elim
  case dup =>
    obtain ⟨rfl, h⟩ := h
    split at h
    · exact fun H locs hP hS => lv_dup hx hb hdg (cat1_of h.1) (hgo _ _ _ _ _ _ hl h.2 H locs hP hS)
    · exact h.elim
  case dup2 =>
    obtain ⟨rfl, h⟩ := h
    split at h
    · exact fun H locs hP hS => lv_dup2_11 hx hb hdg (cat1_of h.1) (cat1_of h.2.1) (hgo _ _ _ _ _ _ hl h.2.2 H locs hP hS)
    · exact h.elim
  case goto off =>
    obtain ⟨rfl, ho, h⟩ := h
    exact fun H locs hP hS => lv_goto hx hb hdg (tgt_ok ho) (hgo _ _ _ _ _ _ hl h H locs hP hS)
  case ifCond cd off =>
    obtain ⟨rfl, ho, h⟩ := h
    split at h
    · have ht := tgt_ok ho
      cases cd
      · exact fun H locs hP hS => lv_if_eq hx hb hdg ht (fun q => hgo _ _ _ _ _ _ hl (h.1 q) H locs hP hS) (fun q => hgo _ _ _ _ _ _ hl (h.2 q) H locs hP hS)
      · exact fun H locs hP hS => lv_if_ne hx hb hdg ht (fun q => hgo _ _ _ _ _ _ hl (h.1 q) H locs hP hS) (fun q => hgo _ _ _ _ _ _ hl (h.2 (fun z => z q)) H locs hP hS)
      · exact fun H locs hP hS => lv_if_lt hx hb hdg ht (fun q => hgo _ _ _ _ _ _ hl (h.1 q) H locs hP hS) (fun q => hgo _ _ _ _ _ _ hl (h.2 q) H locs hP hS)
      · exact fun H locs hP hS => lv_if_ge hx hb hdg ht (fun q => hgo _ _ _ _ _ _ hl (h.1 q) H locs hP hS) (fun q => hgo _ _ _ _ _ _ hl (h.2 q) H locs hP hS)
      · exact fun H locs hP hS => lv_if_gt hx hb hdg ht (fun q => hgo _ _ _ _ _ _ hl (h.1 q) H locs hP hS) (fun q => hgo _ _ _ _ _ _ hl (h.2 q) H locs hP hS)
      · exact fun H locs hP hS => lv_if_le hx hb hdg ht (fun q => hgo _ _ _ _ _ _ hl (h.1 q) H locs hP hS) (fun q => hgo _ _ _ _ _ _ hl (h.2 q) H locs hP hS)
    · exact h.elim
  case if_icmp cd off =>
    obtain ⟨rfl, ho, h⟩ := h
    split at h
    · have ht := tgt_ok ho
      cases cd
      · exact fun H locs hP hS => lv_icmp_eq hx hb hdg ht (fun q => hgo _ _ _ _ _ _ hl (h.1 q) H locs hP hS) (fun q => hgo _ _ _ _ _ _ hl (h.2 q) H locs hP hS)
      · exact fun H locs hP hS => lv_icmp_ne hx hb hdg ht (fun q => hgo _ _ _ _ _ _ hl (h.1 q) H locs hP hS) (fun q => hgo _ _ _ _ _ _ hl (h.2 (fun z => z q)) H locs hP hS)
      · exact fun H locs hP hS => lv_icmp_lt hx hb hdg ht (fun q => hgo _ _ _ _ _ _ hl (h.1 q) H locs hP hS) (fun q => hgo _ _ _ _ _ _ hl (h.2 q) H locs hP hS)
      · exact fun H locs hP hS => lv_icmp_ge hx hb hdg ht (fun q => hgo _ _ _ _ _ _ hl (h.1 q) H locs hP hS) (fun q => hgo _ _ _ _ _ _ hl (h.2 q) H locs hP hS)
      · exact fun H locs hP hS => lv_icmp_gt hx hb hdg ht (fun q => hgo _ _ _ _ _ _ hl (h.1 q) H locs hP hS) (fun q => hgo _ _ _ _ _ _ hl (h.2 q) H locs hP hS)
      · exact fun H locs hP hS => lv_icmp_le hx hb hdg ht (fun q => hgo _ _ _ _ _ _ hl (h.1 q) H locs hP hS) (fun q => hgo _ _ _ _ _ _ hl (h.2 q) H locs hP hS)
    · exact h.elim
  case tableswitch d lo hi offs =>
    obtain ⟨h0, hd, ho, h⟩ := h
    split at h
    · rename_i x r
      intro H locs hP hS
      by_cases q : x.toInt < lo ∨ hi < x.toInt
      · exact lv_tableOut hx hb hdg q (tgt_ok hd) (hgo _ _ _ _ _ _ hl (h.2 q) H locs hP hS)
      · have q1 : ¬ x.toInt < lo := fun z => q (Or.inl z)
        have q2 : ¬ hi < x.toInt := fun z => q (Or.inr z)
        have hlt : (x.toInt - lo).toNat < offs.toList.length := by omega
        have hg : offs.toList[(x.toInt - lo).toNat]? = some offs.toList[(x.toInt - lo).toNat] := List.getElem?_eq_getElem hlt
        have hz := ho _ (List.mem_of_getElem? hg)
        refine lv_tableIn hx hb hdg q1 q2 (off := offs.toList[(x.toInt - lo).toNat]) (by rw [← Array.getElem?_toList]; exact hg) (tgt_ok hz) (hgo _ _ _ _ _ _ hl ?_ H locs hP hS)
        exact swT_at h.1 _ _ hg (by omega)
    · exact h.elim
  case lookupswitch d ps =>
    obtain ⟨h0, hd, ho, h⟩ := h
    split at h
    · rename_i x r
      intro H locs hP hS
      exact lv_lookup hx hb hdg h0 rfl (tgt_ok (off_in (P := fun o => 0 ≤ (pc : Int) + o) hd ho)) (hgo _ _ _ _ _ _ hl (swL_at h) H locs hP hS)
    · exact h.elim
  case getfield i =>
    obtain ⟨rfl, h⟩ := h
    split at h
    · split at h
      · rename_i ci k hf
        obtain ⟨h1, h2⟩ := h
        refine w_get X (hE1 _ _ _ hf) h1 hdg ?_
        split at h2
        · rename_i hI
          rw [if_pos hI]
          exact hgo _ _ _ _ _ _ hl h2
        · rename_i hI
          obtain ⟨b, hb1, hb2⟩ := h2
          rw [if_neg hI, hb1]
          exact hgo _ _ _ _ _ _ hl hb2
      · exact h.elim
    · exact h.elim
  case putfield i =>
    obtain ⟨rfl, h⟩ := h
    split at h
    · split at h
      · rename_i ci k hf
        exact w_put X (hE1 _ _ _ hf) h.1 h.2.1 hdg (hgo _ _ _ _ _ _ hl h.2.2)
      · exact h.elim
    · exact h.elim
  case getstatic i =>
    obtain ⟨rfl, h⟩ := h
    split at h
    · rename_i j hj
      exact w_gets X h.1 (hE2 _ _ hj) hdg (hgo _ _ _ _ _ _ hl h.2)
    · exact h.elim
  case iaload =>
    obtain ⟨rfl, h⟩ := h
    split at h
    · split at h
      · rename_i hk
        exact w_ro X hk h.1 hdg (hgo _ _ _ _ _ _ hl h.2)
      · exact w_iald X h.1 h.2.1 hdg (hgo _ _ _ _ _ _ hl h.2.2)
    · exact h.elim
  case baload =>
    obtain ⟨rfl, h⟩ := h
    split at h
    · exact w_bald X h.1 h.2.1 hdg (hgo _ _ _ _ _ _ hl h.2.2)
    · exact h.elim
  case aaload =>
    obtain ⟨rfl, h⟩ := h
    split at h
    · obtain ⟨h1, h2, h3, b, h4, h5⟩ := h
      refine w_aald X ⟨h1, h2⟩ h3 hdg ?_
      rw [h4]
      exact hgo _ _ _ _ _ _ hl h5
    · exact h.elim
  case iastore =>
    obtain ⟨rfl, h⟩ := h
    split at h
    · exact w_iast X h.1 h.2.1 hdg (hgo _ _ _ _ _ _ hl h.2.2)
    · exact h.elim
  case bastore =>
    obtain ⟨rfl, h⟩ := h
    split at h
    · exact w_bast X h.1 h.2.1 h.2.2.1 hdg (hgo _ _ _ _ _ _ hl h.2.2.2)
    · exact h.elim
  case aastore =>
    obtain ⟨rfl, h⟩ := h
    split at h
    · exact w_aast X h.1 h.2.1 h.2.2.1 hdg (hgo _ _ _ _ _ _ hl h.2.2.2)
    · exact h.elim
  case arraylength =>
    obtain ⟨rfl, h⟩ := h
    split at h
    · exact w_rolen X h.1 hdg (hgo _ _ _ _ _ _ hl h.2)
    · exact h.elim
  case invokevirtual i =>
    obtain ⟨rfl, hn, hc, h⟩ := h
    split at h
    · rename_i b As hA
      have hlen : (Value.ref b :: As).length = na i := by rw [← hA, List.length_reverse, List.length_take]; omega
      have he : st = (Value.ref b :: As).reverse ++ st.drop (na i) := by rw [← hA, List.reverse_reverse, List.take_append_drop]
      have key := hV i pc ls b As (st.drop (na i)) G D _ hdg hl.size hlen hc h.1 h.2 (fun r G' D' hq => hgo _ _ _ _ _ _ hl hq)
      rw [← he] at key
      exact key
    · exact h.elim
  case invokestatic i =>
    obtain ⟨rfl, hn, hc, h⟩ := h
    have hlen : (st.take (na i)).reverse.length = na i := by rw [List.length_reverse, List.length_take]; omega
    have he : st = (st.take (na i)).reverse.reverse ++ st.drop (na i) := by rw [List.reverse_reverse, List.take_append_drop]
    have key := hSt i pc ls _ (st.drop (na i)) G D _ hdg hl.size hlen hc h (fun r G' D' hq => hgo _ _ _ _ _ _ hl hq)
    rw [← he] at key
    exact key
  case ireturn =>
    obtain ⟨rfl, h⟩ := h
    split at h
    · exact hret _ _ _ _ _ hdg ⟨_, rfl, h.1⟩ h.2
    · exact h.elim
  case return_ =>
    obtain ⟨rfl, h⟩ := h
    split at h
    · exact hretv _ _ _ _ hdg rfl h
    · exact h.elim
  all_goals exact False.elim h
theorem stp_sound (X : Cx p s m args c dC dI cy L K R0 sa cc own nL) (hE : EnvOK own fl sg kc) (hV : ∀ i, cOKV p l e R s m args below meth c cells slots Q0 dC dI cy L K cc nL i (na i) (rc i) (cv i)) (hSt : ∀ i, cOKS p l e R s m args below meth c cells slots Q0 dC dI cy L K cc nL i (na i) (cs i))
    (hret : ∀ pc ls v G D, decode cc pc = .ok (.ireturn, 1) → (∃ ty, rt = some ty ∧ narrow ty (.int v) = .int v) → Q (some (.int v)) G D → Wc p l e R s m args below meth c cells slots Q0 dC dI cy L K G D (F0 m pc ls [.int v]))
    (hretv : ∀ pc ls G D, decode cc pc = .ok (.return_, 1) → rt = none → Q none G D → Wc p l e R s m args below meth c cells slots Q0 dC dI cy L K G D (F0 m pc ls []))
    {go : Nat → UT} (hgo : ∀ pc LL st G D ls, lsOK ls nL LL → go pc LL st G D → Wc p l e R s m args below meth c cells slots Q0 dC dI cy L K G D (F0 m pc ls st))
    {pc : Nat} {LL : LT} {st : List Value} {G : GT} {D : DT} {ls : Array Slot} (hl : lsOK ls nL LL) (h : stp rt fl sg kc na rc cv cs K R0 sa cc Q go pc LL st G D) :
    Wc p l e R s m args below meth c cells slots Q0 dC dI cy L K G D (F0 m pc ls st) := by
  unfold stp at h
  split at h
  · rename_i ins len hdg
    exact exI_sound X hE hV hSt hret hretv hgo hdg hl h
  · exact h.elim
theorem wp_sound (X : Cx p s m args c dC dI cy L K R0 sa cc own nL) (hE : EnvOK own fl sg kc) (hV : ∀ i, cOKV p l e R s m args below meth c cells slots Q0 dC dI cy L K cc nL i (na i) (rc i) (cv i)) (hSt : ∀ i, cOKS p l e R s m args below meth c cells slots Q0 dC dI cy L K cc nL i (na i) (cs i))
    (hret : ∀ pc ls v G D, decode cc pc = .ok (.ireturn, 1) → (∃ ty, rt = some ty ∧ narrow ty (.int v) = .int v) → Q (some (.int v)) G D → Wc p l e R s m args below meth c cells slots Q0 dC dI cy L K G D (F0 m pc ls [.int v]))
    (hretv : ∀ pc ls G D, decode cc pc = .ok (.return_, 1) → rt = none → Q none G D → Wc p l e R s m args below meth c cells slots Q0 dC dI cy L K G D (F0 m pc ls []))
    {ct : Nat → Option UT} (hct : ∀ pc C, ct pc = some C → ∀ LL st G D ls, lsOK ls nL LL → C LL st G D → Wc p l e R s m args below meth c cells slots Q0 dC dI cy L K G D (F0 m pc ls st)) :
    ∀ (n pc : Nat) (LL : LT) (st : List Value) (G : GT) (D : DT) (ls : Array Slot), lsOK ls nL LL → wp rt fl sg kc na rc cv cs K R0 sa cc ct Q n pc LL st G D → Wc p l e R s m args below meth c cells slots Q0 dC dI cy L K G D (F0 m pc ls st)
  | 0, _, _, _, _, _, _, _, h => False.elim h
  | n + 1, pc, LL, st, G, D, ls, hl, h => by
    unfold wp at h
    split at h
    · rename_i C hC
      exact hct _ _ hC _ _ _ _ _ hl h
    · exact stp_sound X hE hV hSt hret hretv (fun pc LL st G D ls hl h => wp_sound X hE hV hSt hret hretv hct n pc LL st G D ls hl h) hl h
/-- the cuts that a walk with measure n may come to -/
def cutB (hd : List Nat) (I : Nat → Nat → UT) (n : Nat) : Nat → Option UT := fun pc => if pc ∈ hd then some (fun LL st G D => ∃ k, k < n ∧ I k pc LL st G D) else none
def cutE (hd : List Nat) (I : Nat → Nat → UT) : Nat → Option UT := fun pc => if pc ∈ hd then some (fun LL st G D => ∃ k, I k pc LL st G D) else none
/-- a walk with loops: each head's assertion with measure k comes to heads with less, or to the end -/
theorem loop_sound (X : Cx p s m args c dC dI cy L K R0 sa cc own nL) (hE : EnvOK own fl sg kc) (hV : ∀ i, cOKV p l e R s m args below meth c cells slots Q0 dC dI cy L K cc nL i (na i) (rc i) (cv i)) (hSt : ∀ i, cOKS p l e R s m args below meth c cells slots Q0 dC dI cy L K cc nL i (na i) (cs i))
    (hret : ∀ pc ls v G D, decode cc pc = .ok (.ireturn, 1) → (∃ ty, rt = some ty ∧ narrow ty (.int v) = .int v) → Q (some (.int v)) G D → Wc p l e R s m args below meth c cells slots Q0 dC dI cy L K G D (F0 m pc ls [.int v]))
    (hretv : ∀ pc ls G D, decode cc pc = .ok (.return_, 1) → rt = none → Q none G D → Wc p l e R s m args below meth c cells slots Q0 dC dI cy L K G D (F0 m pc ls []))
    {hd : List Nat} {I : Nat → Nat → UT} {N : Nat} (hI : ∀ k pc, pc ∈ hd → ∀ LL st G D, I k pc LL st G D → stp rt fl sg kc na rc cv cs K R0 sa cc Q (wp rt fl sg kc na rc cv cs K R0 sa cc (cutB hd I k) Q N) pc LL st G D) :
    ∀ (k pc : Nat), pc ∈ hd → ∀ (LL : LT) (st : List Value) (G : GT) (D : DT) (ls : Array Slot), lsOK ls nL LL → I k pc LL st G D → Wc p l e R s m args below meth c cells slots Q0 dC dI cy L K G D (F0 m pc ls st) := by
  intro k
  induction k using Nat.strongRecOn with
  | _ k ih =>
    intro pc hpc LL st G D ls hl h
    refine stp_sound X hE hV hSt hret hretv (fun pc LL st G D ls hl h => wp_sound X hE hV hSt hret hretv ?_ N pc LL st G D ls hl h) hl (hI k pc hpc LL st G D h)
    intro pc' C hC LL st G D ls hl hCC
    unfold cutB at hC
    split at hC
    · rename_i hm
      cases hC
      obtain ⟨k', hk', hI'⟩ := hCC
      exact ih k' hk' pc' hm _ _ _ _ _ hl hI'
    · cases hC
end WLK
