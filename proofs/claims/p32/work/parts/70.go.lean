/-! ===== the law: its head, and a walk by blocks within it ===== -/
def R_law : String := "CliffSerialLaw"
def lw_P (b : Addr) (xs : List Int32) (args : Array Value) (s : State) : Prop := args = #[.ref b] ∧ s.IntsAt b xs ∧ xs.length ≤ 260 ∧ (Jvm.Cond.and given_1 narrow_1).before args s = true
def lw_Q (_ : Array Value) (s : State) (o : Outcome) (t : State) : Prop := o = .returned (some (.int 1)) ∧ Framed s o t [] 600000 7302250
def lw_Z (below : List Frame) (a : Array Value) (s : State) : State → Prop := fun t => ∃ o, t.status = .running ∧ Ended t below o ∧ lw_Q a s o t
/-- the law's own end, with 1 on the stack, nothing written that was there before, its room as the claim has it -/
theorem lw_ret {p : Program} {l : Launch} {e : Env} {s : State} {m : MethodId} {below : List Frame} {meth : Method} {c : Code} {b : Nat} (hx : p.tables.exec = Jvm.exec) (hb : c.code = code) (hr : meth.sig.returnType = ret) (hlocks : meth.locks = false) {pc : Nat} {H : Heap} {ls : Array Slot} (hdg : decode code pc = .ok (.ireturn, 1)) : W p l e room_1 s m #[Value.ref b] below meth c H [] 600000 7302250 (lw_Z below #[Value.ref b] s) (F0 m pc ls [.int 1]) := by
  intro T hT X
  obtain ⟨fs, hret, hrun, hended, hW, hframe⟩ := X.leave (v := some (.int 1)) (hlocks := hlocks) (fun h => by rw [hr] at h; cases h)
  have hmeth' : T.vm.method? m = some meth := X.method'
  refine ⟨T.setFrames fs, ?_, .returned (some (.int 1)), hrun, hended, rfl, ⟨_, rfl⟩, hW, hframe⟩
  jvm_step X.here [X.here.top, hx, hb, hdg, hmeth', hr, ret, narrow_b1]
  (try refine ⟨rfl, ?_⟩); (try refine ⟨rfl, ?_⟩)
  first | (intro acts; rw [hret _ acts rfl rfl rfl]) | rw [hret _ _ rfl rfl rfl]
  exact Steps.refl _
/-- what holds at the law's entry: the machine, the code, the tables' words (any of lw_tbl by 'hts w (by decide +kernel)'), the script of L ints xs at the cell b, what the Statement gives of the start (any of its parts by flat_of_before) -/
def lw_At (p : Program) (s : State) (m : MethodId) (meth : Method) (c : Code) (b L : Nat) (xs : Nat → Int32) : Prop :=
  p.tables.exec = Jvm.exec ∧ c.code = code ∧ meth.sig.returnType = ret ∧ c.maxLocals = 8 ∧ s.vm.findClass R_law = some m.cls ∧ (∀ w ∈ lw_tbl, w.before #[Value.ref b] s = true) ∧ va_X b L xs s s.heap ∧ b < s.heap.size ∧ meth.locks = false ∧ (Jvm.Cond.and given_1 narrow_1).before #[Value.ref b] s = true
section GOB
variable {p : Program} {l : Launch} {e : Env} {R : Room} {s : State} {m : MethodId} {args : Array Value} {below : List Frame} {meth : Method} {c : Code} {cells slots : Nat} {Q0 : State → Prop}
variable {dC : Nat → ClassId} {dI : Nat → Nat → Nat} {cy : Nat → ClassId} {L : List Nat} {K : KT} {R0 : DT} {sa : Nat → Nat} {cc : ByteArray} {own : String} {nL : Nat}
variable {rt : Option FieldType} {fl : Nat → Option (Nat × Nat)} {sg : Nat → Option Nat} {kc : Nat → Option Int32} {na rc : Nat → Nat} {cv cs : KT → DT → (Nat → Nat) → Nat → CT} {Q : QT}
theorem go_b (X : Cx p s m args c dC dI cy L K R0 sa cc own nL) (hE : EnvOK own fl sg kc) {bl : List (Nat × List (Instr × Nat))} (hbl : bl.all (fun b => okc cc b.2 b.1) = true) (hV : callsV l R own na rc cv) (hS : callsS l R own na cs) (hc : cells ≤ R.cells) (hs : slots ≤ R.slots)
    (hret : ∀ pc ls v G D, decode cc pc = .ok (.ireturn, 1) → (∃ ty, rt = some ty ∧ narrow ty (.int v) = .int v) → Q (some (.int v)) G D → Wc p l e R s m args below meth c cells slots Q0 dC dI cy L K G D (F0 m pc ls [.int v]))
    (hretv : ∀ pc ls G D, decode cc pc = .ok (.return_, 1) → rt = none → Q none G D → Wc p l e R s m args below meth c cells slots Q0 dC dI cy L K G D (F0 m pc ls []))
    {hd : List Nat} {I : Nat → Nat → UT} {N M : Nat} (hI : ∀ k pc, pc ∈ hd → ∀ LL st G D, I k pc LL st G D → wpl rt fl sg kc na rc (cv K R0 sa) (cs K R0 sa) K R0 sa Q (jmp rt fl sg kc na rc (cv K R0 sa) (cs K R0 sa) K R0 sa bl hd (fun pc LL st G D => ∃ k', k' < k ∧ I k' pc LL st G D) Q M) (lkb bl pc) pc LL st G D)
    {pc : Nat} {LL : LT} {st : List Value} {G : GT} {D : DT} (h0 : jmp rt fl sg kc na rc (cv K R0 sa) (cs K R0 sa) K R0 sa bl hd (fun pc LL st G D => ∃ k, I k pc LL st G D) Q N pc LL st G D) {ls : Array Slot} (hl : lsOK ls nL LL) : Wc p l e R s m args below meth c cells slots Q0 dC dI cy L K G D (F0 m pc ls st) := by
  have hVc := hV p e s m args below meth c cells slots Q0 dC dI cy L K R0 sa cc nL X hc hs
  have hSc := hS p e s m args below meth c cells slots Q0 dC dI cy L K R0 sa cc nL X hc hs
  have key : ∀ (k pc : Nat), pc ∈ hd → ∀ (LL : LT) (st : List Value) (G : GT) (D : DT) (ls : Array Slot), lsOK ls nL LL → I k pc LL st G D → Wc p l e R s m args below meth c cells slots Q0 dC dI cy L K G D (F0 m pc ls st) := by
    intro k
    induction k using Nat.strongRecOn with
    | _ k ih =>
      intro pc hpc LL st G D ls hl h
      refine wpl_sound X hE hVc hSc hret hretv (fun pc LL st G D ls hl h => jmp_sound X hE hVc hSc hret hretv hbl ?_ M pc LL st G D ls hl h) _ pc (lkb_ok hbl pc) LL st G D ls hl (hI k pc hpc LL st G D h)
      intro pc' hm LL st G D ls hl hCC
      obtain ⟨k', hk', hI'⟩ := hCC
      exact ih k' hk' pc' hm _ _ _ _ _ hl hI'
  refine jmp_sound X hE hVc hSc hret hretv hbl ?_ N pc LL st G D ls hl h0
  intro pc hm LL st G D ls hl hCC
  obtain ⟨k, hk⟩ := hCC
  exact key k pc hm LL st G D ls hl hk
end GOB
theorem lawV (l : Launch) : callsV l room_1 RL naL rcL (cAdd 9 t_X5_count (cAdd 41 t_X5_skip (cAdd 44 t_X5_insert (cAdd 54 t_X5_ask (cAdd 67 t_X5_undo (cAdd 74 t_X5_setNumber (cAdd 77 t_X5_setWeek (cAdd 90 t_X5_remove (cAdd 93 t_X5_change (cAdd 96 t_X5_take (cAdd 99 t_X5_restore cNone))))))))))) := (cvAdd (s_X5_count l) lkL_9 rfl rfl (by decide) (cvAdd (s_X5_skip l) lkL_41 rfl rfl (by decide) (cvAdd (s_X5_insert l) lkL_44 rfl rfl (by decide) (cvAdd (s_X5_ask l) lkL_54 rfl rfl (by decide) (cvAdd (s_X5_undo l) lkL_67 rfl rfl (by decide) (cvAdd (s_X5_setNumber l) lkL_74 rfl rfl (by decide) (cvAdd (s_X5_setWeek l) lkL_77 rfl rfl (by decide) (cvAdd (s_X5_remove l) lkL_90 rfl rfl (by decide) (cvAdd (s_X5_change l) lkL_93 rfl rfl (by decide) (cvAdd (s_X5_take l) lkL_96 rfl rfl (by decide) (cvAdd (s_X5_restore l) lkL_99 rfl rfl (by decide) cvNone)))))))))))
theorem lawS (l : Launch) : callsS l room_1 RL naL (cAdd 61 t_L_holds (cAdd 70 t_L_cell (cAdd 81 t_L_prints (cAdd 85 t_L_late cNone)))) := (csAdd (s_L_holds l) lkL_61 rfl (by decide) (csAdd (s_L_cell l) lkL_70 rfl (by decide) (csAdd (s_L_prints l) lkL_81 rfl (by decide) (csAdd (s_L_late l) lkL_85 rfl (by decide) csNone))))
