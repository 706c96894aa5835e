def NESTC : List (String × Nat × MethodName) := [(RX6, 11, yX2_init), (RX6, 30, yX5_init), (RX6, 47, yX0_init), (RX6, 58, yX3_init), (RX6, 59, yX4_init)]
def NWC (U : State) : Prop := va_AO "WoundEggs$Store" U ∧ va_AO "WoundEggs$Tape" U ∧ va_AOA .int U ∧ ∀ q ∈ NESTC, va_Nw (.methodLinkNest q.1 q.2.1 q.2.2 "WoundEggs") U
theorem va_AOA.moved {t : FieldType} {u U : State} (hvm : u.vm.Alike U.vm) (h : va_AOA t u) : va_AOA t U := by
  have h2 : (Cond.arrayOver (.array t)).before #[] (u.setVm U.vm) = true := by rw [Cond.arrayOver_setVmC hvm]; exact h
  show (Cond.arrayOver (.array t)).before #[] U = true
  unfold Cond.before Cond.holds at h2 ⊢
  simp only [Cond.value] at h2 ⊢
  exact h2
theorem NWC.moved {s U : State} (hW : s.WarmedH U.vm) (h : NWC s) : NWC U := ⟨h.1.moved hW.alike, h.2.1.moved hW.alike, h.2.2.1.moved hW.alike, fun q hq => va_Nw.warmM hW (h.2.2.2 q hq)⟩
theorem NWC.calling (U : State) (g : JFrame) (mk : MethodId) (a : Array Value) (h : NWC U) : NWC (U.calling g mk a) := ⟨va_AO.moved (u := U) (U := U.calling g mk a) (Vm.Alike.refl U.vm) h.1, va_AO.moved (u := U) (U := U.calling g mk a) (Vm.Alike.refl U.vm) h.2.1, va_AOA.moved (u := U) (U := U.calling g mk a) (Vm.Alike.refl U.vm) h.2.2.1, fun q hq => va_Nw.same rfl (u := U) (U := U.calling g mk a) rfl (h.2.2.2 q hq)⟩
theorem cr_ret {p : Program} {l : Launch} {e : Env} {R : Room} {s : State} {m : MethodId} {args : Array Value} {below : List Frame} {meth : Method} {c : Code} {H : Heap} {locs : List Loc} {cells slots : Nat} {cc : ByteArray} {pc : Nat} {ls : Array Slot} {E : WE} {h0 b : Nat} {e0 : va_E} {cs : List va_E} (hx : p.tables.exec = Jvm.exec) (hb : c.code = cc) (hr : meth.sig.returnType = none) (hlocks : meth.locks = false) (hC : CR E (fun q => q = h0 ∨ b ≤ q) h0 b e0 cs s.heap H locs) (hdg : decode cc pc = .ok (.return_, 1)) : W p l e R s m args below meth c H locs cells slots (MQ below (QC E h0 b e0 cs) args s cells slots (fun q => q = h0 ∨ b ≤ q)) (F0 m pc ls []) :=
  W.vret hx hb hr (fun t ht hWm => ⟨⟨rfl, by rw [ht]; exact hC.1, fun k x hk => by rw [ht]; exact hC.2.1 k x hk, by rw [ht]; exact hC.2.2.1⟩, hC.2.2.2.2.F ht⟩) hC.2.2.2.2.2.2 hdg hlocks
theorem q_ea31ed77 : Cond.methodLink RX1 3 objectInit ∈ BIG := bigm (by decide +kernel) rfl
theorem q_e68b0fb7 : Cond.instanceMethod objectInit ∈ BIG := bigm (by decide +kernel) rfl
theorem q_f29cc5b5 : Cond.code objectInit ⟨#[0xb1]⟩ 1 none ∈ BIG := bigm (by decide +kernel) rfl
theorem q_84bad242 : Cond.methodLink RX1 15 Lib.Math.max.name ∈ BIG := bigm (by decide +kernel) rfl
theorem q_245da9cf : Cond.classLink RX1 21 "[[I" ∈ BIG := bigm (by decide +kernel) rfl
theorem q_0460111a : Cond.arrayClass .int ∈ BIG := bigm (by decide +kernel) rfl
theorem q_93433e05 : Cond.methodLink RX2 3 objectInit ∈ BIG := bigm (by decide +kernel) rfl
theorem q_40b5b5c7 : Cond.classLink RX2 15 "[[I" ∈ BIG := bigm (by decide +kernel) rfl
theorem q_97a321a6 : Cond.classLink RX2 29 RX1 ∈ BIG := bigm (by decide +kernel) rfl
theorem q_6c5cdc15 : Cond.instantiable RX1 2 ∈ BIG := bigm (by decide +kernel) rfl
theorem q_deb26c41 : Cond.code yX1_init cX1_init 2 none ∈ BIG := bigm (by decide +kernel) rfl
theorem q_ff320477 : Cond.instanceMethod yX1_init ∈ BIG := bigm (by decide +kernel) rfl
theorem q_5f84f8ee : Cond.methodLink RX2 31 yX1_init ∈ BIG := bigm (by decide +kernel) rfl
theorem q_626ba941 : Cond.methodLink RX5 3 objectInit ∈ BIG := bigm (by decide +kernel) rfl
theorem q_0b5f1ea0 : Cond.arrayClass .byte ∈ BIG := bigm (by decide +kernel) rfl
theorem q_7902af97 : Cond.methodLink RX3 3 objectInit ∈ BIG := bigm (by decide +kernel) rfl
theorem q_2923c4e2 : Cond.methodLink RX0 3 objectInit ∈ BIG := bigm (by decide +kernel) rfl
theorem q_5553babd : Cond.methodLink RX4 3 objectInit ∈ BIG := bigm (by decide +kernel) rfl
theorem q_18c1a586 : Cond.arrayClass .long ∈ BIG := bigm (by decide +kernel) rfl
theorem q_83d8ee00 : Cond.methodLink RX6 3 objectInit ∈ BIG := bigm (by decide +kernel) rfl
theorem q_c27b49dc : Cond.classLink RX6 9 RX2 ∈ BIG := bigm (by decide +kernel) rfl
theorem q_2dd6ea4f : Cond.instantiable RX2 8 ∈ BIG := bigm (by decide +kernel) rfl
theorem q_8ede87a9 : Cond.code yX2_init cX2_init 1 none ∈ BIG := bigm (by decide +kernel) rfl
theorem q_b45a5f35 : Cond.instanceMethod yX2_init ∈ BIG := bigm (by decide +kernel) rfl
theorem q_d40cce06 : Cond.classLink RX6 28 RX5 ∈ BIG := bigm (by decide +kernel) rfl
theorem q_fee21220 : Cond.instantiable RX5 3 ∈ BIG := bigm (by decide +kernel) rfl
theorem q_8eef7f7a : Cond.code yX5_init cX5_init 1 none ∈ BIG := bigm (by decide +kernel) rfl
theorem q_055bdb82 : Cond.instanceMethod yX5_init ∈ BIG := bigm (by decide +kernel) rfl
theorem q_73a175dc : Cond.classLink RX6 35 RX3 ∈ BIG := bigm (by decide +kernel) rfl
theorem q_c5594c29 : Cond.classLink RX6 45 RX0 ∈ BIG := bigm (by decide +kernel) rfl
theorem q_98a5d644 : Cond.instantiable RX0 5 ∈ BIG := bigm (by decide +kernel) rfl
theorem q_8f8f8007 : Cond.code yX0_init cX0_init 1 none ∈ BIG := bigm (by decide +kernel) rfl
theorem q_203a6b26 : Cond.instanceMethod yX0_init ∈ BIG := bigm (by decide +kernel) rfl
theorem q_377c885b : Cond.classLink RX6 52 RX4 ∈ BIG := bigm (by decide +kernel) rfl
theorem q_68294a22 : Cond.instantiable RX3 6 ∈ BIG := bigm (by decide +kernel) rfl
theorem q_378d4b7c : Cond.code yX3_init cX3_init 1 none ∈ BIG := bigm (by decide +kernel) rfl
theorem q_44227f2d : Cond.instanceMethod yX3_init ∈ BIG := bigm (by decide +kernel) rfl
theorem q_3900f4a8 : Cond.instantiable RX4 3 ∈ BIG := bigm (by decide +kernel) rfl
theorem q_550b83d2 : Cond.code yX4_init cX4_init 1 none ∈ BIG := bigm (by decide +kernel) rfl
theorem q_2b51a235 : Cond.instanceMethod yX4_init ∈ BIG := bigm (by decide +kernel) rfl
theorem q_7de0a21b : Cond.methodLink RX7 3 objectInit ∈ BIG := bigm (by decide +kernel) rfl
theorem q_615d7162 : Cond.arrayClass .boolean ∈ BIG := bigm (by decide +kernel) rfl
def e_X1_init_6 (E : WE) (b : Nat) : va_E := .inr (1, [.ref (b + 0), .int (0 : Int32)])
def c_X1_init_6 (E : WE) (b : Nat) : List va_E := ([] ++ ((.inl (ecy E 4, 6, .inr (.inr (.inr (.inr (fun i => if i < 6 then some (b + 0 + 1 + i) else none))))) :: List.replicate 6 (.inl (ecy E 0, 3, .inl (fun _ => 0)))) : List va_E))
def e_X1_init_10 (E : WE) (b : Nat) : va_E := .inr (1, [.ref (b + 0), .int (0 : Int32)])
def c_X1_init_10 (E : WE) (b : Nat) : List va_E := ([] ++ ((.inl (ecy E 4, 10, .inr (.inr (.inr (.inr (fun i => if i < 10 then some (b + 0 + 1 + i) else none))))) :: List.replicate 10 (.inl (ecy E 0, 3, .inl (fun _ => 0)))) : List va_E))
def e_X1_init_8 (E : WE) (b : Nat) : va_E := .inr (1, [.ref (b + 0), .int (0 : Int32)])
def c_X1_init_8 (E : WE) (b : Nat) : List va_E := ([] ++ ((.inl (ecy E 4, 8, .inr (.inr (.inr (.inr (fun i => if i < 8 then some (b + 0 + 1 + i) else none))))) :: List.replicate 8 (.inl (ecy E 0, 3, .inl (fun _ => 0)))) : List va_E))
def e_X2_init (E : WE) (b : Nat) : va_E := .inr (2, [.int (0 : Int32), .ref (b + 0), .int (127 : Int32), .int (0 : Int32), .int (-1 : Int32), .ref (b + 7), .ref (b + 15), .ref (b + 27)])
def c_X2_init (E : WE) (b : Nat) : List va_E := (((([] ++ ((.inl (ecy E 4, 6, .inr (.inr (.inr (.inr (fun i => if i < 6 then some (b + 0 + 1 + i) else none))))) :: List.replicate 6 (.inl (ecy E 0, 14, .inl (fun _ => 0)))) : List va_E)) ++ ((e_X1_init_6 E (b + 8) :: c_X1_init_6 E (b + 8)) : List va_E)) ++ ((e_X1_init_10 E (b + 16) :: c_X1_init_10 E (b + 16)) : List va_E)) ++ ((e_X1_init_8 E (b + 28) :: c_X1_init_8 E (b + 28)) : List va_E))
def e_X5_init (E : WE) (b : Nat) : va_E := .inr (5, [.ref (b + 0), .int (0 : Int32), .int (0 : Int32)])
def c_X5_init (E : WE) (b : Nat) : List va_E := ([] ++ ([.inl (ecy E 3, 100, .inl (fun _ => (0 : Int32)))] : List va_E))
def e_X3_init (E : WE) (b : Nat) : va_E := .inr (3, [.int (0 : Int32), .int (0 : Int32), .ref (b + 0), .ref (b + 1), .ref (b + 2), .int (0 : Int32)])
def c_X3_init (E : WE) (b : Nat) : List va_E := ((([] ++ ([.inl (ecy E 0, 10, .inl (fun _ => (0 : Int32)))] : List va_E)) ++ ([.inl (ecy E 0, 10, .inl (fun _ => (0 : Int32)))] : List va_E)) ++ ([.inl (ecy E 0, 100, .inl (fun _ => (0 : Int32)))] : List va_E))
def e_X0_init (E : WE) (b : Nat) : va_E := .inr (0, [.ref (b + 0), .int (0 : Int32), .int (0 : Int32), .int (0 : Int32), .int (0 : Int32)])
def c_X0_init (E : WE) (b : Nat) : List va_E := ([] ++ ([.inl (ecy E 0, 20, .inl (fun _ => (0 : Int32)))] : List va_E))
def e_X4_init (E : WE) (b : Nat) : va_E := .inr (4, [.int (-1 : Int32), .int (0 : Int32), .ref (b + 0)])
def c_X4_init (E : WE) (b : Nat) : List va_E := ([] ++ ([.inl (ecy E 1, 60, .inr (.inl (fun _ => (0 : Int64))))] : List va_E))
def e_X6_init (E : WE) (b : Nat) : va_E := .inr (6, [.ref (b + 0), .ref (b + 38), .ref (b + 76), .int (0 : Int32), .ref (b + 114), .ref (b + 116), .int (0 : Int32), .ref (b + 117), .ref (b + 119)])
def c_X6_init (E : WE) (b : Nat) : List va_E := ((((((((((((((((((((((((((((((([] ++ ((e_X2_init E (b + 1) :: c_X2_init E (b + 1)) : List va_E)) ++ ((e_X2_init E (b + 39) :: c_X2_init E (b + 39)) : List va_E)) ++ ((e_X2_init E (b + 77) :: c_X2_init E (b + 77)) : List va_E)) ++ ((e_X5_init E (b + 115) :: c_X5_init E (b + 115)) : List va_E)) ++ ([.inl (ecy E 5, 6, .inr (.inr (.inr (.inr (fun _ => none)))))] : List va_E)) ++ ((e_X0_init E (b + 118) :: c_X0_init E (b + 118)) : List va_E)) ++ ([.inl (ecy E 6, 6, .inr (.inr (.inr (.inr (fun _ => none)))))] : List va_E)) ++ ((e_X3_init E (b + 121) :: c_X3_init E (b + 121)) : List va_E)).set 116 (.inl (ecy E 5, 6, .inr (.inr (.inr (.inr (va_up (fun _ => none) 0 (some (b + 120))))))))) ++ ((e_X3_init E (b + 125) :: c_X3_init E (b + 125)) : List va_E)).set 116 (.inl (ecy E 5, 6, .inr (.inr (.inr (.inr (va_up (va_up (fun _ => none) 0 (some (b + 120))) 1 (some (b + 124))))))))) ++ ((e_X3_init E (b + 129) :: c_X3_init E (b + 129)) : List va_E)).set 116 (.inl (ecy E 5, 6, .inr (.inr (.inr (.inr (va_up (va_up (va_up (fun _ => none) 0 (some (b + 120))) 1 (some (b + 124))) 2 (some (b + 128))))))))) ++ ((e_X3_init E (b + 133) :: c_X3_init E (b + 133)) : List va_E)).set 116 (.inl (ecy E 5, 6, .inr (.inr (.inr (.inr (va_up (va_up (va_up (va_up (fun _ => none) 0 (some (b + 120))) 1 (some (b + 124))) 2 (some (b + 128))) 3 (some (b + 132))))))))) ++ ((e_X3_init E (b + 137) :: c_X3_init E (b + 137)) : List va_E)).set 116 (.inl (ecy E 5, 6, .inr (.inr (.inr (.inr (va_up (va_up (va_up (va_up (va_up (fun _ => none) 0 (some (b + 120))) 1 (some (b + 124))) 2 (some (b + 128))) 3 (some (b + 132))) 4 (some (b + 136))))))))) ++ ((e_X3_init E (b + 141) :: c_X3_init E (b + 141)) : List va_E)).set 116 (.inl (ecy E 5, 6, .inr (.inr (.inr (.inr (va_up (va_up (va_up (va_up (va_up (va_up (fun _ => none) 0 (some (b + 120))) 1 (some (b + 124))) 2 (some (b + 128))) 3 (some (b + 132))) 4 (some (b + 136))) 5 (some (b + 140))))))))) ++ ((e_X4_init E (b + 145) :: c_X4_init E (b + 145)) : List va_E)).set 119 (.inl (ecy E 6, 6, .inr (.inr (.inr (.inr (va_up (fun _ => none) 0 (some (b + 144))))))))) ++ ((e_X4_init E (b + 147) :: c_X4_init E (b + 147)) : List va_E)).set 119 (.inl (ecy E 6, 6, .inr (.inr (.inr (.inr (va_up (va_up (fun _ => none) 0 (some (b + 144))) 1 (some (b + 146))))))))) ++ ((e_X4_init E (b + 149) :: c_X4_init E (b + 149)) : List va_E)).set 119 (.inl (ecy E 6, 6, .inr (.inr (.inr (.inr (va_up (va_up (va_up (fun _ => none) 0 (some (b + 144))) 1 (some (b + 146))) 2 (some (b + 148))))))))) ++ ((e_X4_init E (b + 151) :: c_X4_init E (b + 151)) : List va_E)).set 119 (.inl (ecy E 6, 6, .inr (.inr (.inr (.inr (va_up (va_up (va_up (va_up (fun _ => none) 0 (some (b + 144))) 1 (some (b + 146))) 2 (some (b + 148))) 3 (some (b + 150))))))))) ++ ((e_X4_init E (b + 153) :: c_X4_init E (b + 153)) : List va_E)).set 119 (.inl (ecy E 6, 6, .inr (.inr (.inr (.inr (va_up (va_up (va_up (va_up (va_up (fun _ => none) 0 (some (b + 144))) 1 (some (b + 146))) 2 (some (b + 148))) 3 (some (b + 150))) 4 (some (b + 152))))))))) ++ ((e_X4_init E (b + 155) :: c_X4_init E (b + 155)) : List va_E)).set 119 (.inl (ecy E 6, 6, .inr (.inr (.inr (.inr (va_up (va_up (va_up (va_up (va_up (va_up (fun _ => none) 0 (some (b + 144))) 1 (some (b + 146))) 2 (some (b + 148))) 3 (some (b + 150))) 4 (some (b + 152))) 5 (some (b + 154)))))))))
def e_X7_init (E : WE) (b : Nat) : va_E := .inr (7, [.int 0, .ref (b + 0), .ref (b + 1), .ref (b + 2), .ref (b + 3), .ref (b + 4), .ref (b + 5), .ref (b + 6), .ref (b + 7), .int (127 : Int32), .int 0, .int 0, .ref (b + 8), .int 0, .int 0, .int 0, .int 0, .int 0, .int (-1 : Int32), .ref (b + 9), .ref (b + 10), .ref (b + 11), .ref (b + 12), .ref (b + 13), .ref (b + 14), .int 0, .ref (b + 15), .int 0, .ref (b + 16), .ref (b + 17), .ref (b + 18), .int 0, .ref (b + 19), .ref (b + 20), .int 0, .ref (b + 21), .ref (b + 22), .int 0, .ref (b + 23), .int 0, .ref (b + 24), .ref (b + 25), .ref (b + 26), .ref (b + 27), .ref (b + 28)])
def c_X7_init (E : WE) (b : Nat) : List va_E := ((((((((((((((((((((((((((((((((((([] ++ ([.inl (ecy E 0, 6, .inl (fun _ => (0 : Int32)))] : List va_E)) ++ ([.inl (ecy E 0, 6, .inl (fun _ => (0 : Int32)))] : List va_E)) ++ ([.inl (ecy E 0, 6, .inl (fun _ => (0 : Int32)))] : List va_E)) ++ ([.inl (ecy E 0, 6, .inl (fun _ => (0 : Int32)))] : List va_E)) ++ ([.inl (ecy E 0, 6, .inl (fun _ => (0 : Int32)))] : List va_E)) ++ ([.inl (ecy E 0, 6, .inl (fun _ => (0 : Int32)))] : List va_E)) ++ ([.inl (ecy E 0, 6, .inl (fun _ => (0 : Int32)))] : List va_E)) ++ ([.inl (ecy E 0, 24, .inl (fun _ => (0 : Int32)))] : List va_E)) ++ ([.inl (ecy E 0, 100, .inl (fun _ => (0 : Int32)))] : List va_E)) ++ ([.inl (ecy E 0, 6, .inl (fun _ => (0 : Int32)))] : List va_E)) ++ ([.inl (ecy E 0, 61, .inl (fun _ => (0 : Int32)))] : List va_E)) ++ ([.inl (ecy E 0, 61, .inl (fun _ => (0 : Int32)))] : List va_E)) ++ ([.inl (ecy E 0, 61, .inl (fun _ => (0 : Int32)))] : List va_E)) ++ ([.inl (ecy E 0, 61, .inl (fun _ => (0 : Int32)))] : List va_E)) ++ ([.inl (ecy E 0, 800, .inl (fun _ => (0 : Int32)))] : List va_E)) ++ ([.inl (ecy E 2, 110, .inl (fun _ => (0 : Int32)))] : List va_E)) ++ ([.inl (ecy E 0, 6, .inl (fun _ => (0 : Int32)))] : List va_E)) ++ ([.inl (ecy E 0, 6, .inl (fun _ => (0 : Int32)))] : List va_E)) ++ ([.inl (ecy E 0, 6, .inl (fun _ => (0 : Int32)))] : List va_E)) ++ ([.inl (ecy E 0, 10, .inl (fun _ => (0 : Int32)))] : List va_E)) ++ ([.inl (ecy E 0, 10, .inl (fun _ => (0 : Int32)))] : List va_E)) ++ ([.inl (ecy E 0, 8, .inl (fun _ => (0 : Int32)))] : List va_E)) ++ ([.inl (ecy E 0, 8, .inl (fun _ => (0 : Int32)))] : List va_E)) ++ ([.inl (ecy E 0, 20, .inl (fun _ => (0 : Int32)))] : List va_E)) ++ ([.inl (ecy E 0, 126, .inl (fun _ => (0 : Int32)))] : List va_E)) ++ ([.inl (ecy E 0, 126, .inl (fun _ => (0 : Int32)))] : List va_E)) ++ ([.inl (ecy E 0, 6, .inl (fun _ => (0 : Int32)))] : List va_E)) ++ ([.inl (ecy E 0, 6, .inl (fun _ => (0 : Int32)))] : List va_E)) ++ ([.inl (ecy E 1, 360, .inr (.inl (fun _ => (0 : Int64))))] : List va_E)).set 26 (.inl (ecy E 0, 6, .inl (upd (fun _ => (0 : Int32)) 0 (-1 : Int32))))).set 26 (.inl (ecy E 0, 6, .inl (upd (upd (fun _ => (0 : Int32)) 0 (-1 : Int32)) 1 (-1 : Int32))))).set 26 (.inl (ecy E 0, 6, .inl (upd (upd (upd (fun _ => (0 : Int32)) 0 (-1 : Int32)) 1 (-1 : Int32)) 2 (-1 : Int32))))).set 26 (.inl (ecy E 0, 6, .inl (upd (upd (upd (upd (fun _ => (0 : Int32)) 0 (-1 : Int32)) 1 (-1 : Int32)) 2 (-1 : Int32)) 3 (-1 : Int32))))).set 26 (.inl (ecy E 0, 6, .inl (upd (upd (upd (upd (upd (fun _ => (0 : Int32)) 0 (-1 : Int32)) 1 (-1 : Int32)) 2 (-1 : Int32)) 3 (-1 : Int32)) 4 (-1 : Int32))))).set 26 (.inl (ecy E 0, 6, .inl (upd (upd (upd (upd (upd (upd (fun _ => (0 : Int32)) 0 (-1 : Int32)) 1 (-1 : Int32)) 2 (-1 : Int32)) 3 (-1 : Int32)) 4 (-1 : Int32)) 5 (-1 : Int32)))))
set_option maxHeartbeats 16000000 in
set_option maxRecDepth 100000 in
theorem kc_X1_init_6 (l : Launch) (E : WE) (h0 b : Nat) : Met l yX1_init (.code yX1_init cX1_init 2 none :: BIG) ({ frames := 1, cells := 7, slots := 24, locals := 40 }) (PC E h0 b (.inr (1, [.null, .int 0])) [.ref h0, .int (6 : Int32)] NWC) (QC E h0 b (e_X1_init_6 E b) (c_X1_init_6 E b)) 7 24 (fun q => q = h0 ∨ b ≤ q) := by
  refine Met.ofW (cc := cX1_init) (maxL := 2) (ret := none) (by decide) rfl ?_
  intro p e s m args below meth c s₁ B hml hv
  obtain ⟨rfl, h1, h2, h3, hK, hN⟩ := hv
  have hx := B.exec
  have hb := B.bytes
  have hr := B.returns
  have hB : ∀ w ∈ BIG, w.before _ s = true := fun w h => atoms_spec (ws := (.code yX1_init cX1_init 2 none :: BIG)) B.pre w (List.mem_cons_of_mem _ h)
  have hown : s.vm.findClass RX1 = some m.cls := findClass_of_methodNamed B.named
  have hlocks := B.notSynchronized
  have hin : meth.name = "<init>" := (name_of_methodNamed B.named B.method).1
  have hC := CR.start (E := E) h1 h2 h3 (fun q => q = h0 ∨ b ≤ q)
  have hl := lv_entry ([.ref h0, .int (6 : Int32)]) (n := 2) (Nat.le_of_ble_eq_true rfl)
  rw [lg_entry_eq]
  generalize (lg_sl ([.ref h0, .int (6 : Int32)]) ++ List.replicate (2 - (lg_sl ([.ref h0, .int (6 : Int32)])).length) Slot.unset).toArray = ls at hl ⊢
  have hl : lv_has ls 2 [(0, .ref h0), (1, .int (6 : Int32))] := hl
  refine lv_aload_n hx hb dX1_init_0 rfl (lv_at hl 0 rfl) ?_
  refine W.objInit hx hb hown (hB _ q_ea31ed77) (hB _ q_e68b0fb7) (hB _ q_f29cc5b5) rfl (by rw [hml]; exact hl.1) rfl dX1_init_1 (Nat.le_of_ble_eq_true rfl) (Nat.le_of_ble_eq_true rfl) ?_
  refine W.eq (g2 := F0 m 4 ls []) rfl ?_
  refine lv_aload_n hx hb dX1_init_4 rfl (lv_at hl 0 rfl) ?_
  refine lv_iconst (v := (0 : Int32)) hx hb dX1_init_5 (by decide) ?_
  refine cr_put (v := .int (0 : Int32)) (ty := .int) (fs := [.null, .int 0]) hx hb hB hown hK hC (Or.inl rfl) rfl in_RX1 tyX1 tyX1_ok nmX1 1 (by decide) q_800ddf75 rfl (by decide +kernel) rfl rfl (Nat.le_of_ble_eq_true rfl) dX1_init_6 (fun H locs hC => ?_)
  have hC : CR E (fun q => q = h0 ∨ b ≤ q) h0 b (.inr (1, [.null, .int (0 : Int32)])) [] s.heap H locs := hC
  refine lv_aload_n hx hb dX1_init_9 rfl (lv_at hl 0 rfl) ?_
  refine lv_iload_n hx hb dX1_init_10 rfl (lv_at hl 1 rfl) ?_
  refine lv_iconst (v := (0 : Int32)) hx hb dX1_init_11 (by decide) ?_
  refine va_mmax hx hb (hml.trans hl.1.symm) hown (hB _ q_84bad242) (hB _ q_8b9497d0) (hB _ q_544deca7) (hB _ q_7292adb7) (Nat.le_of_ble_eq_true rfl) (Nat.le_of_ble_eq_true rfl) (Nat.le_of_ble_eq_true rfl) (Nat.le_of_ble_eq_true rfl) dX1_init_12 ?_
  refine lv_top' (y := (6 : Int32)) (by decide) ?_
  refine lv_iconst (v := (3 : Int32)) hx hb dX1_init_15 (by decide) ?_
  refine cr_mna (N' := 6) (K' := 3) (a := b + 0) hx hb hB hown hK hC q_245da9cf hN.2.2.1 q_0460111a (by decide) (by decide) (by decide) (by decide) (by decide) (by decide) (by decide) (rfl) (Nat.le_of_ble_eq_true rfl) (Nat.le_of_ble_eq_true rfl) dX1_init_16 (fun H hC => ?_)
  refine W.widen (k := 7) (n := 24) (Nat.le_of_ble_eq_true rfl) (Nat.le_of_ble_eq_true rfl) ?_
  obtain ⟨cs1, ec1⟩ : ∃ z : List va_E, z = [] ++ ((.inl (ecy E 4, 6, .inr (.inr (.inr (.inr (fun i => if i < 6 then some (b + 0 + 1 + i) else none))))) :: List.replicate 6 (.inl (ecy E 0, 3, .inl (fun _ => 0)))) : List va_E) := ⟨_, rfl⟩
  rw [← ec1] at hC
  have nc1 : cs1.length = 7 := by rw [ec1, List.length_append]; rfl
  refine cr_putF (v := .ref (b + 0)) (ty := .array (.array .int)) (fs := [.null, .int (0 : Int32)]) hx hb hB hown hK hC (Or.inl rfl) rfl in_RX1 tyX1 tyX1_ok nmX1 0 (by decide) q_f9e8bfda rfl hin rfl (by decide +kernel) rfl rfl (Nat.le_of_ble_eq_true rfl) dX1_init_20 (fun H locs hC => ?_)
  have hC : CR E (fun q => q = h0 ∨ b ≤ q) h0 b (.inr (1, [.ref (b + 0), .int (0 : Int32)])) cs1 s.heap H locs := hC
  have hC : CR E (fun q => q = h0 ∨ b ≤ q) h0 b (e_X1_init_6 E b) (c_X1_init_6 E b) s.heap H locs := by
    have h : cs1 = c_X1_init_6 E b := by rw [ec1]; rfl
    rw [← h]; exact hC
  exact cr_ret hx hb hr hlocks hC dX1_init_23
set_option maxHeartbeats 16000000 in
set_option maxRecDepth 100000 in
theorem kc_X1_init_10 (l : Launch) (E : WE) (h0 b : Nat) : Met l yX1_init (.code yX1_init cX1_init 2 none :: BIG) ({ frames := 1, cells := 11, slots := 40, locals := 40 }) (PC E h0 b (.inr (1, [.null, .int 0])) [.ref h0, .int (10 : Int32)] NWC) (QC E h0 b (e_X1_init_10 E b) (c_X1_init_10 E b)) 11 40 (fun q => q = h0 ∨ b ≤ q) := by
  refine Met.ofW (cc := cX1_init) (maxL := 2) (ret := none) (by decide) rfl ?_
  intro p e s m args below meth c s₁ B hml hv
  obtain ⟨rfl, h1, h2, h3, hK, hN⟩ := hv
  have hx := B.exec
  have hb := B.bytes
  have hr := B.returns
  have hB : ∀ w ∈ BIG, w.before _ s = true := fun w h => atoms_spec (ws := (.code yX1_init cX1_init 2 none :: BIG)) B.pre w (List.mem_cons_of_mem _ h)
  have hown : s.vm.findClass RX1 = some m.cls := findClass_of_methodNamed B.named
  have hlocks := B.notSynchronized
  have hin : meth.name = "<init>" := (name_of_methodNamed B.named B.method).1
  have hC := CR.start (E := E) h1 h2 h3 (fun q => q = h0 ∨ b ≤ q)
  have hl := lv_entry ([.ref h0, .int (10 : Int32)]) (n := 2) (Nat.le_of_ble_eq_true rfl)
  rw [lg_entry_eq]
  generalize (lg_sl ([.ref h0, .int (10 : Int32)]) ++ List.replicate (2 - (lg_sl ([.ref h0, .int (10 : Int32)])).length) Slot.unset).toArray = ls at hl ⊢
  have hl : lv_has ls 2 [(0, .ref h0), (1, .int (10 : Int32))] := hl
  refine lv_aload_n hx hb dX1_init_0 rfl (lv_at hl 0 rfl) ?_
  refine W.objInit hx hb hown (hB _ q_ea31ed77) (hB _ q_e68b0fb7) (hB _ q_f29cc5b5) rfl (by rw [hml]; exact hl.1) rfl dX1_init_1 (Nat.le_of_ble_eq_true rfl) (Nat.le_of_ble_eq_true rfl) ?_
  refine W.eq (g2 := F0 m 4 ls []) rfl ?_
  refine lv_aload_n hx hb dX1_init_4 rfl (lv_at hl 0 rfl) ?_
  refine lv_iconst (v := (0 : Int32)) hx hb dX1_init_5 (by decide) ?_
  refine cr_put (v := .int (0 : Int32)) (ty := .int) (fs := [.null, .int 0]) hx hb hB hown hK hC (Or.inl rfl) rfl in_RX1 tyX1 tyX1_ok nmX1 1 (by decide) q_800ddf75 rfl (by decide +kernel) rfl rfl (Nat.le_of_ble_eq_true rfl) dX1_init_6 (fun H locs hC => ?_)
  have hC : CR E (fun q => q = h0 ∨ b ≤ q) h0 b (.inr (1, [.null, .int (0 : Int32)])) [] s.heap H locs := hC
  refine lv_aload_n hx hb dX1_init_9 rfl (lv_at hl 0 rfl) ?_
  refine lv_iload_n hx hb dX1_init_10 rfl (lv_at hl 1 rfl) ?_
  refine lv_iconst (v := (0 : Int32)) hx hb dX1_init_11 (by decide) ?_
  refine va_mmax hx hb (hml.trans hl.1.symm) hown (hB _ q_84bad242) (hB _ q_8b9497d0) (hB _ q_544deca7) (hB _ q_7292adb7) (Nat.le_of_ble_eq_true rfl) (Nat.le_of_ble_eq_true rfl) (Nat.le_of_ble_eq_true rfl) (Nat.le_of_ble_eq_true rfl) dX1_init_12 ?_
  refine lv_top' (y := (10 : Int32)) (by decide) ?_
  refine lv_iconst (v := (3 : Int32)) hx hb dX1_init_15 (by decide) ?_
  refine cr_mna (N' := 10) (K' := 3) (a := b + 0) hx hb hB hown hK hC q_245da9cf hN.2.2.1 q_0460111a (by decide) (by decide) (by decide) (by decide) (by decide) (by decide) (by decide) (rfl) (Nat.le_of_ble_eq_true rfl) (Nat.le_of_ble_eq_true rfl) dX1_init_16 (fun H hC => ?_)
  refine W.widen (k := 11) (n := 40) (Nat.le_of_ble_eq_true rfl) (Nat.le_of_ble_eq_true rfl) ?_
  obtain ⟨cs1, ec1⟩ : ∃ z : List va_E, z = [] ++ ((.inl (ecy E 4, 10, .inr (.inr (.inr (.inr (fun i => if i < 10 then some (b + 0 + 1 + i) else none))))) :: List.replicate 10 (.inl (ecy E 0, 3, .inl (fun _ => 0)))) : List va_E) := ⟨_, rfl⟩
  rw [← ec1] at hC
  have nc1 : cs1.length = 11 := by rw [ec1, List.length_append]; rfl
  refine cr_putF (v := .ref (b + 0)) (ty := .array (.array .int)) (fs := [.null, .int (0 : Int32)]) hx hb hB hown hK hC (Or.inl rfl) rfl in_RX1 tyX1 tyX1_ok nmX1 0 (by decide) q_f9e8bfda rfl hin rfl (by decide +kernel) rfl rfl (Nat.le_of_ble_eq_true rfl) dX1_init_20 (fun H locs hC => ?_)
  have hC : CR E (fun q => q = h0 ∨ b ≤ q) h0 b (.inr (1, [.ref (b + 0), .int (0 : Int32)])) cs1 s.heap H locs := hC
  have hC : CR E (fun q => q = h0 ∨ b ≤ q) h0 b (e_X1_init_10 E b) (c_X1_init_10 E b) s.heap H locs := by
    have h : cs1 = c_X1_init_10 E b := by rw [ec1]; rfl
    rw [← h]; exact hC
  exact cr_ret hx hb hr hlocks hC dX1_init_23
set_option maxHeartbeats 16000000 in
set_option maxRecDepth 100000 in
theorem kc_X1_init_8 (l : Launch) (E : WE) (h0 b : Nat) : Met l yX1_init (.code yX1_init cX1_init 2 none :: BIG) ({ frames := 1, cells := 9, slots := 32, locals := 40 }) (PC E h0 b (.inr (1, [.null, .int 0])) [.ref h0, .int (8 : Int32)] NWC) (QC E h0 b (e_X1_init_8 E b) (c_X1_init_8 E b)) 9 32 (fun q => q = h0 ∨ b ≤ q) := by
  refine Met.ofW (cc := cX1_init) (maxL := 2) (ret := none) (by decide) rfl ?_
  intro p e s m args below meth c s₁ B hml hv
  obtain ⟨rfl, h1, h2, h3, hK, hN⟩ := hv
  have hx := B.exec
  have hb := B.bytes
  have hr := B.returns
  have hB : ∀ w ∈ BIG, w.before _ s = true := fun w h => atoms_spec (ws := (.code yX1_init cX1_init 2 none :: BIG)) B.pre w (List.mem_cons_of_mem _ h)
  have hown : s.vm.findClass RX1 = some m.cls := findClass_of_methodNamed B.named
  have hlocks := B.notSynchronized
  have hin : meth.name = "<init>" := (name_of_methodNamed B.named B.method).1
  have hC := CR.start (E := E) h1 h2 h3 (fun q => q = h0 ∨ b ≤ q)
  have hl := lv_entry ([.ref h0, .int (8 : Int32)]) (n := 2) (Nat.le_of_ble_eq_true rfl)
  rw [lg_entry_eq]
  generalize (lg_sl ([.ref h0, .int (8 : Int32)]) ++ List.replicate (2 - (lg_sl ([.ref h0, .int (8 : Int32)])).length) Slot.unset).toArray = ls at hl ⊢
  have hl : lv_has ls 2 [(0, .ref h0), (1, .int (8 : Int32))] := hl
  refine lv_aload_n hx hb dX1_init_0 rfl (lv_at hl 0 rfl) ?_
  refine W.objInit hx hb hown (hB _ q_ea31ed77) (hB _ q_e68b0fb7) (hB _ q_f29cc5b5) rfl (by rw [hml]; exact hl.1) rfl dX1_init_1 (Nat.le_of_ble_eq_true rfl) (Nat.le_of_ble_eq_true rfl) ?_
  refine W.eq (g2 := F0 m 4 ls []) rfl ?_
  refine lv_aload_n hx hb dX1_init_4 rfl (lv_at hl 0 rfl) ?_
  refine lv_iconst (v := (0 : Int32)) hx hb dX1_init_5 (by decide) ?_
  refine cr_put (v := .int (0 : Int32)) (ty := .int) (fs := [.null, .int 0]) hx hb hB hown hK hC (Or.inl rfl) rfl in_RX1 tyX1 tyX1_ok nmX1 1 (by decide) q_800ddf75 rfl (by decide +kernel) rfl rfl (Nat.le_of_ble_eq_true rfl) dX1_init_6 (fun H locs hC => ?_)
  have hC : CR E (fun q => q = h0 ∨ b ≤ q) h0 b (.inr (1, [.null, .int (0 : Int32)])) [] s.heap H locs := hC
  refine lv_aload_n hx hb dX1_init_9 rfl (lv_at hl 0 rfl) ?_
  refine lv_iload_n hx hb dX1_init_10 rfl (lv_at hl 1 rfl) ?_
  refine lv_iconst (v := (0 : Int32)) hx hb dX1_init_11 (by decide) ?_
  refine va_mmax hx hb (hml.trans hl.1.symm) hown (hB _ q_84bad242) (hB _ q_8b9497d0) (hB _ q_544deca7) (hB _ q_7292adb7) (Nat.le_of_ble_eq_true rfl) (Nat.le_of_ble_eq_true rfl) (Nat.le_of_ble_eq_true rfl) (Nat.le_of_ble_eq_true rfl) dX1_init_12 ?_
  refine lv_top' (y := (8 : Int32)) (by decide) ?_
  refine lv_iconst (v := (3 : Int32)) hx hb dX1_init_15 (by decide) ?_
  refine cr_mna (N' := 8) (K' := 3) (a := b + 0) hx hb hB hown hK hC q_245da9cf hN.2.2.1 q_0460111a (by decide) (by decide) (by decide) (by decide) (by decide) (by decide) (by decide) (rfl) (Nat.le_of_ble_eq_true rfl) (Nat.le_of_ble_eq_true rfl) dX1_init_16 (fun H hC => ?_)
  refine W.widen (k := 9) (n := 32) (Nat.le_of_ble_eq_true rfl) (Nat.le_of_ble_eq_true rfl) ?_
  obtain ⟨cs1, ec1⟩ : ∃ z : List va_E, z = [] ++ ((.inl (ecy E 4, 8, .inr (.inr (.inr (.inr (fun i => if i < 8 then some (b + 0 + 1 + i) else none))))) :: List.replicate 8 (.inl (ecy E 0, 3, .inl (fun _ => 0)))) : List va_E) := ⟨_, rfl⟩
  rw [← ec1] at hC
  have nc1 : cs1.length = 9 := by rw [ec1, List.length_append]; rfl
  refine cr_putF (v := .ref (b + 0)) (ty := .array (.array .int)) (fs := [.null, .int (0 : Int32)]) hx hb hB hown hK hC (Or.inl rfl) rfl in_RX1 tyX1 tyX1_ok nmX1 0 (by decide) q_f9e8bfda rfl hin rfl (by decide +kernel) rfl rfl (Nat.le_of_ble_eq_true rfl) dX1_init_20 (fun H locs hC => ?_)
  have hC : CR E (fun q => q = h0 ∨ b ≤ q) h0 b (.inr (1, [.ref (b + 0), .int (0 : Int32)])) cs1 s.heap H locs := hC
  have hC : CR E (fun q => q = h0 ∨ b ≤ q) h0 b (e_X1_init_8 E b) (c_X1_init_8 E b) s.heap H locs := by
    have h : cs1 = c_X1_init_8 E b := by rw [ec1]; rfl
    rw [← h]; exact hC
  exact cr_ret hx hb hr hlocks hC dX1_init_23
set_option maxHeartbeats 16000000 in
set_option maxRecDepth 100000 in
theorem kc_X2_init (l : Launch) (E : WE) (h0 b : Nat) : Met l yX2_init (.code yX2_init cX2_init 1 none :: BIG) ({ frames := 2, cells := 37, slots := 192, locals := 61 }) (PC E h0 b (.inr (2, [.int 0, .null, .int 0, .int 0, .int 0, .null, .null, .null])) [.ref h0] NWC) (QC E h0 b (e_X2_init E b) (c_X2_init E b)) 37 192 (fun q => q = h0 ∨ b ≤ q) := by
  refine Met.ofW (cc := cX2_init) (maxL := 1) (ret := none) (by decide) rfl ?_
  intro p e s m args below meth c s₁ B hml hv
  obtain ⟨rfl, h1, h2, h3, hK, hN⟩ := hv
  have hx := B.exec
  have hb := B.bytes
  have hr := B.returns
  have hB : ∀ w ∈ BIG, w.before _ s = true := fun w h => atoms_spec (ws := (.code yX2_init cX2_init 1 none :: BIG)) B.pre w (List.mem_cons_of_mem _ h)
  have hown : s.vm.findClass RX2 = some m.cls := findClass_of_methodNamed B.named
  have hlocks := B.notSynchronized
  have hin : meth.name = "<init>" := (name_of_methodNamed B.named B.method).1
  have hC := CR.start (E := E) h1 h2 h3 (fun q => q = h0 ∨ b ≤ q)
  have hl := lv_entry ([.ref h0]) (n := 1) (Nat.le_of_ble_eq_true rfl)
  rw [lg_entry_eq]
  generalize (lg_sl ([.ref h0]) ++ List.replicate (1 - (lg_sl ([.ref h0])).length) Slot.unset).toArray = ls at hl ⊢
  have hl : lv_has ls 1 [(0, .ref h0)] := hl
  refine lv_aload_n hx hb dX2_init_0 rfl (lv_at hl 0 rfl) ?_
  refine W.objInit hx hb hown (hB _ q_93433e05) (hB _ q_e68b0fb7) (hB _ q_f29cc5b5) rfl (by rw [hml]; exact hl.1) rfl dX2_init_1 (Nat.le_of_ble_eq_true rfl) (Nat.le_of_ble_eq_true rfl) ?_
  refine W.eq (g2 := F0 m 4 ls []) rfl ?_
  refine lv_aload_n hx hb dX2_init_4 rfl (lv_at hl 0 rfl) ?_
  refine lv_iconst (v := (0 : Int32)) hx hb dX2_init_5 (by decide) ?_
  refine cr_put (v := .int (0 : Int32)) (ty := .int) (fs := [.int 0, .null, .int 0, .int 0, .int 0, .null, .null, .null]) hx hb hB hown hK hC (Or.inl rfl) rfl in_RX2 tyX2 tyX2_ok nmX2 0 (by decide) q_ad06f6a9 rfl (by decide +kernel) rfl rfl (Nat.le_of_ble_eq_true rfl) dX2_init_6 (fun H locs hC => ?_)
  have hC : CR E (fun q => q = h0 ∨ b ≤ q) h0 b (.inr (2, [.int (0 : Int32), .null, .int 0, .int 0, .int 0, .null, .null, .null])) [] s.heap H locs := hC
  refine lv_aload_n hx hb dX2_init_9 rfl (lv_at hl 0 rfl) ?_
  refine lv_bipush (v := (6 : Int32)) hx hb dX2_init_10 (by decide) ?_
  refine lv_bipush (v := (14 : Int32)) hx hb dX2_init_12 (by decide) ?_
  refine cr_mna (N' := 6) (K' := 14) (a := b + 0) hx hb hB hown hK hC q_40b5b5c7 hN.2.2.1 q_0460111a (by decide) (by decide) (by decide) (by decide) (by decide) (by decide) (by decide) (rfl) (Nat.le_of_ble_eq_true rfl) (Nat.le_of_ble_eq_true rfl) dX2_init_14 (fun H hC => ?_)
  refine W.widen (k := 7) (n := 90) (Nat.le_of_ble_eq_true rfl) (Nat.le_of_ble_eq_true rfl) ?_
  obtain ⟨cs1, ec1⟩ : ∃ z : List va_E, z = [] ++ ((.inl (ecy E 4, 6, .inr (.inr (.inr (.inr (fun i => if i < 6 then some (b + 0 + 1 + i) else none))))) :: List.replicate 6 (.inl (ecy E 0, 14, .inl (fun _ => 0)))) : List va_E) := ⟨_, rfl⟩
  rw [← ec1] at hC
  have nc1 : cs1.length = 7 := by rw [ec1, List.length_append]; rfl
  refine cr_putF (v := .ref (b + 0)) (ty := .array (.array .int)) (fs := [.int (0 : Int32), .null, .int 0, .int 0, .int 0, .null, .null, .null]) hx hb hB hown hK hC (Or.inl rfl) rfl in_RX2 tyX2 tyX2_ok nmX2 1 (by decide) q_50cd1cdc rfl hin rfl (by decide +kernel) rfl rfl (Nat.le_of_ble_eq_true rfl) dX2_init_18 (fun H locs hC => ?_)
  have hC : CR E (fun q => q = h0 ∨ b ≤ q) h0 b (.inr (2, [.int (0 : Int32), .ref (b + 0), .int 0, .int 0, .int 0, .null, .null, .null])) cs1 s.heap H locs := hC
  refine lv_aload_n hx hb dX2_init_21 rfl (lv_at hl 0 rfl) ?_
  refine lv_bipush (v := (127 : Int32)) hx hb dX2_init_22 (by decide) ?_
  refine cr_put (v := .int (127 : Int32)) (ty := .int) (fs := [.int (0 : Int32), .ref (b + 0), .int 0, .int 0, .int 0, .null, .null, .null]) hx hb hB hown hK hC (Or.inl rfl) rfl in_RX2 tyX2 tyX2_ok nmX2 2 (by decide) q_c381d1c9 rfl (by decide +kernel) rfl rfl (Nat.le_of_ble_eq_true rfl) dX2_init_24 (fun H locs hC => ?_)
  have hC : CR E (fun q => q = h0 ∨ b ≤ q) h0 b (.inr (2, [.int (0 : Int32), .ref (b + 0), .int (127 : Int32), .int 0, .int 0, .null, .null, .null])) cs1 s.heap H locs := hC
  refine lv_aload_n hx hb dX2_init_27 rfl (lv_at hl 0 rfl) ?_
  refine lv_iconst (v := (0 : Int32)) hx hb dX2_init_28 (by decide) ?_
  refine cr_put (v := .int (0 : Int32)) (ty := .int) (fs := [.int (0 : Int32), .ref (b + 0), .int (127 : Int32), .int 0, .int 0, .null, .null, .null]) hx hb hB hown hK hC (Or.inl rfl) rfl in_RX2 tyX2 tyX2_ok nmX2 3 (by decide) q_408c0ee6 rfl (by decide +kernel) rfl rfl (Nat.le_of_ble_eq_true rfl) dX2_init_29 (fun H locs hC => ?_)
  have hC : CR E (fun q => q = h0 ∨ b ≤ q) h0 b (.inr (2, [.int (0 : Int32), .ref (b + 0), .int (127 : Int32), .int (0 : Int32), .int 0, .null, .null, .null])) cs1 s.heap H locs := hC
  refine lv_aload_n hx hb dX2_init_32 rfl (lv_at hl 0 rfl) ?_
  refine lv_iconst (v := (-1 : Int32)) hx hb dX2_init_33 (by decide) ?_
  refine cr_put (v := .int (-1 : Int32)) (ty := .int) (fs := [.int (0 : Int32), .ref (b + 0), .int (127 : Int32), .int (0 : Int32), .int 0, .null, .null, .null]) hx hb hB hown hK hC (Or.inl rfl) rfl in_RX2 tyX2 tyX2_ok nmX2 4 (by decide) q_4e8ca1d1 rfl (by decide +kernel) rfl rfl (Nat.le_of_ble_eq_true rfl) dX2_init_34 (fun H locs hC => ?_)
  have hC : CR E (fun q => q = h0 ∨ b ≤ q) h0 b (.inr (2, [.int (0 : Int32), .ref (b + 0), .int (127 : Int32), .int (0 : Int32), .int (-1 : Int32), .null, .null, .null])) cs1 s.heap H locs := hC
  refine lv_aload_n hx hb dX2_init_37 rfl (lv_at hl 0 rfl) ?_
  refine cr_new (ci := 1) (fs := [.null, .int 0]) (C := RX1) (T := TX1) (N := 2) (a := b + 7) hx hb hB hown hK hC in_RX1 tyX1 tyX1_ok q_97a321a6 q_6c5cdc15 q_cf66e99d rfl (fun j hj => by rcases (show j = 0 ∨ j = 1 by omega) with rfl | rfl <;> rfl) (by rw [nc1]) (Nat.le_of_ble_eq_true rfl) (Nat.le_of_ble_eq_true rfl) dX2_init_38 (fun H hC => ?_)
  refine W.widen (k := 8) (n := 92) (Nat.le_of_ble_eq_true rfl) (Nat.le_of_ble_eq_true rfl) ?_
  refine lv_dup hx hb dX2_init_41 rfl ?_
  refine lv_bipush (v := (6 : Int32)) hx hb dX2_init_42 (by decide) ?_
  refine cr_callv (a := (b + 7)) (b1 := (b + 8)) (va_runI (own := RX2) (As := [.int (6 : Int32)]) (rest := [.ref (b + 7), .ref h0]) ⟨hx, hb, hml, hown, hB⟩ (kc_X1_init_6 l E (b + 7) (b + 8)) (cwI 1 hB (big_code q_deb26c41) rfl rfl rfl (hB _ q_cf66e99d) (hB _ q_5f84f8ee) (hB _ q_ff320477) rfl ⟨by decide +kernel, by decide +kernel, by decide +kernel⟩ ⟨Nat.le_of_ble_eq_true rfl, Nat.le_of_ble_eq_true rfl⟩) ⟨PC.blind E (b + 7) (b + 8) _ _ NWC.calling, fun U hU hWm => ⟨rfl, by rw [hU]; have h := hC.2.1 7 _ (by rw [List.getElem?_append_right (by rw [nc1]; exact Nat.le_refl _)]; rw [nc1]; rfl); exact h, by rw [hU, hC.2.2.1, List.length_append, List.length_singleton, nc1], by omega, hK.moved hWm.alike, hN.moved hWm⟩⟩ rfl rfl hl.1 rfl (lv_room (Nat.le_of_ble_eq_true rfl)) dX2_init_44 ⟨Nat.le_of_ble_eq_true rfl, Nat.le_of_ble_eq_true rfl⟩) (fun _ h => h) hC (fun q h => Or.inr h) (by rw [nc1]) rfl (fun H locs hC => ?_)
  refine W.widen (k := 15) (n := 116) (Nat.le_of_ble_eq_true rfl) (Nat.le_of_ble_eq_true rfl) ?_
  obtain ⟨cs2, ec2⟩ : ∃ z : List va_E, z = cs1 ++ ((e_X1_init_6 E (b + 8) :: c_X1_init_6 E (b + 8)) : List va_E) := ⟨_, rfl⟩
  rw [← ec2] at hC
  have nc2 : cs2.length = 15 := by rw [ec2, List.length_append, nc1]; rfl
  have o2 : cs2[7]? = some (e_X1_init_6 E (b + 8)) := by rw [ec2, List.getElem?_append_right (by rw [nc1]; decide), nc1]; rfl
  refine cr_putF (v := .ref (b + 7)) (ty := .object RX1) (fs := [.int (0 : Int32), .ref (b + 0), .int (127 : Int32), .int (0 : Int32), .int (-1 : Int32), .null, .null, .null]) hx hb hB hown hK hC (Or.inl rfl) rfl in_RX2 tyX2 tyX2_ok nmX2 5 (by decide) q_9b63aa80 rfl hin rfl (by decide +kernel) rfl rfl (Nat.le_of_ble_eq_true rfl) dX2_init_47 (fun H locs hC => ?_)
  have hC : CR E (fun q => q = h0 ∨ b ≤ q) h0 b (.inr (2, [.int (0 : Int32), .ref (b + 0), .int (127 : Int32), .int (0 : Int32), .int (-1 : Int32), .ref (b + 7), .null, .null])) cs2 s.heap H locs := hC
  refine lv_aload_n hx hb dX2_init_50 rfl (lv_at hl 0 rfl) ?_
  refine cr_new (ci := 1) (fs := [.null, .int 0]) (C := RX1) (T := TX1) (N := 2) (a := b + 15) hx hb hB hown hK hC in_RX1 tyX1 tyX1_ok q_97a321a6 q_6c5cdc15 q_cf66e99d rfl (fun j hj => by rcases (show j = 0 ∨ j = 1 by omega) with rfl | rfl <;> rfl) (by rw [nc2]) (Nat.le_of_ble_eq_true rfl) (Nat.le_of_ble_eq_true rfl) dX2_init_51 (fun H hC => ?_)
  refine W.widen (k := 16) (n := 118) (Nat.le_of_ble_eq_true rfl) (Nat.le_of_ble_eq_true rfl) ?_
  refine lv_dup hx hb dX2_init_54 rfl ?_
  refine lv_bipush (v := (10 : Int32)) hx hb dX2_init_55 (by decide) ?_
  refine cr_callv (a := (b + 15)) (b1 := (b + 16)) (va_runI (own := RX2) (As := [.int (10 : Int32)]) (rest := [.ref (b + 15), .ref h0]) ⟨hx, hb, hml, hown, hB⟩ (kc_X1_init_10 l E (b + 15) (b + 16)) (cwI 1 hB (big_code q_deb26c41) rfl rfl rfl (hB _ q_cf66e99d) (hB _ q_5f84f8ee) (hB _ q_ff320477) rfl ⟨by decide +kernel, by decide +kernel, by decide +kernel⟩ ⟨Nat.le_of_ble_eq_true rfl, Nat.le_of_ble_eq_true rfl⟩) ⟨PC.blind E (b + 15) (b + 16) _ _ NWC.calling, fun U hU hWm => ⟨rfl, by rw [hU]; have h := hC.2.1 15 _ (by rw [List.getElem?_append_right (by rw [nc2]; exact Nat.le_refl _)]; rw [nc2]; rfl); exact h, by rw [hU, hC.2.2.1, List.length_append, List.length_singleton, nc2], by omega, hK.moved hWm.alike, hN.moved hWm⟩⟩ rfl rfl hl.1 rfl (lv_room (Nat.le_of_ble_eq_true rfl)) dX2_init_57 ⟨Nat.le_of_ble_eq_true rfl, Nat.le_of_ble_eq_true rfl⟩) (fun _ h => h) hC (fun q h => Or.inr h) (by rw [nc2]) rfl (fun H locs hC => ?_)
  refine W.widen (k := 27) (n := 158) (Nat.le_of_ble_eq_true rfl) (Nat.le_of_ble_eq_true rfl) ?_
  obtain ⟨cs3, ec3⟩ : ∃ z : List va_E, z = cs2 ++ ((e_X1_init_10 E (b + 16) :: c_X1_init_10 E (b + 16)) : List va_E) := ⟨_, rfl⟩
  rw [← ec3] at hC
  have nc3 : cs3.length = 27 := by rw [ec3, List.length_append, nc2]; rfl
  have o3 : cs3[15]? = some (e_X1_init_10 E (b + 16)) := by rw [ec3, List.getElem?_append_right (by rw [nc2]; decide), nc2]; rfl
  refine cr_putF (v := .ref (b + 15)) (ty := .object RX1) (fs := [.int (0 : Int32), .ref (b + 0), .int (127 : Int32), .int (0 : Int32), .int (-1 : Int32), .ref (b + 7), .null, .null]) hx hb hB hown hK hC (Or.inl rfl) rfl in_RX2 tyX2 tyX2_ok nmX2 6 (by decide) q_faa41027 rfl hin rfl (by decide +kernel) rfl rfl (Nat.le_of_ble_eq_true rfl) dX2_init_60 (fun H locs hC => ?_)
  have hC : CR E (fun q => q = h0 ∨ b ≤ q) h0 b (.inr (2, [.int (0 : Int32), .ref (b + 0), .int (127 : Int32), .int (0 : Int32), .int (-1 : Int32), .ref (b + 7), .ref (b + 15), .null])) cs3 s.heap H locs := hC
  refine lv_aload_n hx hb dX2_init_63 rfl (lv_at hl 0 rfl) ?_
  refine cr_new (ci := 1) (fs := [.null, .int 0]) (C := RX1) (T := TX1) (N := 2) (a := b + 27) hx hb hB hown hK hC in_RX1 tyX1 tyX1_ok q_97a321a6 q_6c5cdc15 q_cf66e99d rfl (fun j hj => by rcases (show j = 0 ∨ j = 1 by omega) with rfl | rfl <;> rfl) (by rw [nc3]) (Nat.le_of_ble_eq_true rfl) (Nat.le_of_ble_eq_true rfl) dX2_init_64 (fun H hC => ?_)
  refine W.widen (k := 28) (n := 160) (Nat.le_of_ble_eq_true rfl) (Nat.le_of_ble_eq_true rfl) ?_
  refine lv_dup hx hb dX2_init_67 rfl ?_
  refine lv_bipush (v := (8 : Int32)) hx hb dX2_init_68 (by decide) ?_
  refine cr_callv (a := (b + 27)) (b1 := (b + 28)) (va_runI (own := RX2) (As := [.int (8 : Int32)]) (rest := [.ref (b + 27), .ref h0]) ⟨hx, hb, hml, hown, hB⟩ (kc_X1_init_8 l E (b + 27) (b + 28)) (cwI 1 hB (big_code q_deb26c41) rfl rfl rfl (hB _ q_cf66e99d) (hB _ q_5f84f8ee) (hB _ q_ff320477) rfl ⟨by decide +kernel, by decide +kernel, by decide +kernel⟩ ⟨Nat.le_of_ble_eq_true rfl, Nat.le_of_ble_eq_true rfl⟩) ⟨PC.blind E (b + 27) (b + 28) _ _ NWC.calling, fun U hU hWm => ⟨rfl, by rw [hU]; have h := hC.2.1 27 _ (by rw [List.getElem?_append_right (by rw [nc3]; exact Nat.le_refl _)]; rw [nc3]; rfl); exact h, by rw [hU, hC.2.2.1, List.length_append, List.length_singleton, nc3], by omega, hK.moved hWm.alike, hN.moved hWm⟩⟩ rfl rfl hl.1 rfl (lv_room (Nat.le_of_ble_eq_true rfl)) dX2_init_70 ⟨Nat.le_of_ble_eq_true rfl, Nat.le_of_ble_eq_true rfl⟩) (fun _ h => h) hC (fun q h => Or.inr h) (by rw [nc3]) rfl (fun H locs hC => ?_)
  refine W.widen (k := 37) (n := 192) (Nat.le_of_ble_eq_true rfl) (Nat.le_of_ble_eq_true rfl) ?_
  obtain ⟨cs4, ec4⟩ : ∃ z : List va_E, z = cs3 ++ ((e_X1_init_8 E (b + 28) :: c_X1_init_8 E (b + 28)) : List va_E) := ⟨_, rfl⟩
  rw [← ec4] at hC
  have nc4 : cs4.length = 37 := by rw [ec4, List.length_append, nc3]; rfl
  have o4 : cs4[27]? = some (e_X1_init_8 E (b + 28)) := by rw [ec4, List.getElem?_append_right (by rw [nc3]; decide), nc3]; rfl
  refine cr_putF (v := .ref (b + 27)) (ty := .object RX1) (fs := [.int (0 : Int32), .ref (b + 0), .int (127 : Int32), .int (0 : Int32), .int (-1 : Int32), .ref (b + 7), .ref (b + 15), .null]) hx hb hB hown hK hC (Or.inl rfl) rfl in_RX2 tyX2 tyX2_ok nmX2 7 (by decide) q_77492df2 rfl hin rfl (by decide +kernel) rfl rfl (Nat.le_of_ble_eq_true rfl) dX2_init_73 (fun H locs hC => ?_)
  have hC : CR E (fun q => q = h0 ∨ b ≤ q) h0 b (.inr (2, [.int (0 : Int32), .ref (b + 0), .int (127 : Int32), .int (0 : Int32), .int (-1 : Int32), .ref (b + 7), .ref (b + 15), .ref (b + 27)])) cs4 s.heap H locs := hC
  have hC : CR E (fun q => q = h0 ∨ b ≤ q) h0 b (e_X2_init E b) (c_X2_init E b) s.heap H locs := by
    have h : cs4 = c_X2_init E b := by rw [ec4, ec3, ec2, ec1]; rfl
    rw [← h]; exact hC
  exact cr_ret hx hb hr hlocks hC dX2_init_76
set_option maxHeartbeats 16000000 in
set_option maxRecDepth 100000 in
theorem kc_X5_init (l : Launch) (E : WE) (h0 b : Nat) : Met l yX5_init (.code yX5_init cX5_init 1 none :: BIG) ({ frames := 1, cells := 1, slots := 100, locals := 12 }) (PC E h0 b (.inr (5, [.null, .int 0, .int 0])) [.ref h0] NWC) (QC E h0 b (e_X5_init E b) (c_X5_init E b)) 1 100 (fun q => q = h0 ∨ b ≤ q) := by
  refine Met.ofW (cc := cX5_init) (maxL := 1) (ret := none) (by decide) rfl ?_
  intro p e s m args below meth c s₁ B hml hv
  obtain ⟨rfl, h1, h2, h3, hK, hN⟩ := hv
  have hx := B.exec
  have hb := B.bytes
  have hr := B.returns
  have hB : ∀ w ∈ BIG, w.before _ s = true := fun w h => atoms_spec (ws := (.code yX5_init cX5_init 1 none :: BIG)) B.pre w (List.mem_cons_of_mem _ h)
  have hown : s.vm.findClass RX5 = some m.cls := findClass_of_methodNamed B.named
  have hlocks := B.notSynchronized
  have hin : meth.name = "<init>" := (name_of_methodNamed B.named B.method).1
  have hC := CR.start (E := E) h1 h2 h3 (fun q => q = h0 ∨ b ≤ q)
  have hl := lv_entry ([.ref h0]) (n := 1) (Nat.le_of_ble_eq_true rfl)
  rw [lg_entry_eq]
  generalize (lg_sl ([.ref h0]) ++ List.replicate (1 - (lg_sl ([.ref h0])).length) Slot.unset).toArray = ls at hl ⊢
  have hl : lv_has ls 1 [(0, .ref h0)] := hl
  refine lv_aload_n hx hb dX5_init_0 rfl (lv_at hl 0 rfl) ?_
  refine W.objInit hx hb hown (hB _ q_626ba941) (hB _ q_e68b0fb7) (hB _ q_f29cc5b5) rfl (by rw [hml]; exact hl.1) rfl dX5_init_1 (Nat.le_of_ble_eq_true rfl) (Nat.le_of_ble_eq_true rfl) ?_
  refine W.eq (g2 := F0 m 4 ls []) rfl ?_
  refine lv_aload_n hx hb dX5_init_4 rfl (lv_at hl 0 rfl) ?_
  refine lv_bipush (v := (100 : Int32)) hx hb dX5_init_5 (by decide) ?_
  refine cr_newa (atype := .byte) (ty := .byte) (t := 3) (N' := 100) (a0 := (100, .inl (fun _ => (0 : Int32)))) (a := b + 0) hx hb hB hK hC rfl q_0b5f1ea0 rfl (fun _ _ => rfl) (fun _ => rfl) (by decide) (by decide) (by decide) (rfl) (Nat.le_of_ble_eq_true rfl) (Nat.le_of_ble_eq_true rfl) dX5_init_7 (fun H hC => ?_)
  refine W.widen (k := 1) (n := 100) (Nat.le_of_ble_eq_true rfl) (Nat.le_of_ble_eq_true rfl) ?_
  obtain ⟨cs1, ec1⟩ : ∃ z : List va_E, z = [] ++ ([.inl (ecy E 3, 100, .inl (fun _ => (0 : Int32)))] : List va_E) := ⟨_, rfl⟩
  rw [← ec1] at hC
  have nc1 : cs1.length = 1 := by rw [ec1, List.length_append]; rfl
  refine cr_putF (v := .ref (b + 0)) (ty := .array .byte) (fs := [.null, .int 0, .int 0]) hx hb hB hown hK hC (Or.inl rfl) rfl in_RX5 tyX5 tyX5_ok nmX5 0 (by decide) q_73dde203 rfl hin rfl (by decide +kernel) rfl rfl (Nat.le_of_ble_eq_true rfl) dX5_init_9 (fun H locs hC => ?_)
  have hC : CR E (fun q => q = h0 ∨ b ≤ q) h0 b (.inr (5, [.ref (b + 0), .int 0, .int 0])) cs1 s.heap H locs := hC
  refine lv_aload_n hx hb dX5_init_12 rfl (lv_at hl 0 rfl) ?_
  refine lv_iconst (v := (0 : Int32)) hx hb dX5_init_13 (by decide) ?_
  refine cr_put (v := .int (0 : Int32)) (ty := .int) (fs := [.ref (b + 0), .int 0, .int 0]) hx hb hB hown hK hC (Or.inl rfl) rfl in_RX5 tyX5 tyX5_ok nmX5 1 (by decide) q_b52af82c rfl (by decide +kernel) rfl rfl (Nat.le_of_ble_eq_true rfl) dX5_init_14 (fun H locs hC => ?_)
  have hC : CR E (fun q => q = h0 ∨ b ≤ q) h0 b (.inr (5, [.ref (b + 0), .int (0 : Int32), .int 0])) cs1 s.heap H locs := hC
  refine lv_aload_n hx hb dX5_init_17 rfl (lv_at hl 0 rfl) ?_
  refine lv_iconst (v := (0 : Int32)) hx hb dX5_init_18 (by decide) ?_
  refine cr_put (v := .int (0 : Int32)) (ty := .int) (fs := [.ref (b + 0), .int (0 : Int32), .int 0]) hx hb hB hown hK hC (Or.inl rfl) rfl in_RX5 tyX5 tyX5_ok nmX5 2 (by decide) q_750b9516 rfl (by decide +kernel) rfl rfl (Nat.le_of_ble_eq_true rfl) dX5_init_19 (fun H locs hC => ?_)
  have hC : CR E (fun q => q = h0 ∨ b ≤ q) h0 b (.inr (5, [.ref (b + 0), .int (0 : Int32), .int (0 : Int32)])) cs1 s.heap H locs := hC
  have hC : CR E (fun q => q = h0 ∨ b ≤ q) h0 b (e_X5_init E b) (c_X5_init E b) s.heap H locs := by
    have h : cs1 = c_X5_init E b := by rw [ec1]; rfl
    rw [← h]; exact hC
  exact cr_ret hx hb hr hlocks hC dX5_init_22
set_option maxHeartbeats 16000000 in
set_option maxRecDepth 100000 in
theorem kc_X3_init (l : Launch) (E : WE) (h0 b : Nat) : Met l yX3_init (.code yX3_init cX3_init 1 none :: BIG) ({ frames := 1, cells := 3, slots := 120, locals := 12 }) (PC E h0 b (.inr (3, [.int 0, .int 0, .null, .null, .null, .int 0])) [.ref h0] NWC) (QC E h0 b (e_X3_init E b) (c_X3_init E b)) 3 120 (fun q => q = h0 ∨ b ≤ q) := by
  refine Met.ofW (cc := cX3_init) (maxL := 1) (ret := none) (by decide) rfl ?_
  intro p e s m args below meth c s₁ B hml hv
  obtain ⟨rfl, h1, h2, h3, hK, hN⟩ := hv
  have hx := B.exec
  have hb := B.bytes
  have hr := B.returns
  have hB : ∀ w ∈ BIG, w.before _ s = true := fun w h => atoms_spec (ws := (.code yX3_init cX3_init 1 none :: BIG)) B.pre w (List.mem_cons_of_mem _ h)
  have hown : s.vm.findClass RX3 = some m.cls := findClass_of_methodNamed B.named
  have hlocks := B.notSynchronized
  have hin : meth.name = "<init>" := (name_of_methodNamed B.named B.method).1
  have hC := CR.start (E := E) h1 h2 h3 (fun q => q = h0 ∨ b ≤ q)
  have hl := lv_entry ([.ref h0]) (n := 1) (Nat.le_of_ble_eq_true rfl)
  rw [lg_entry_eq]
  generalize (lg_sl ([.ref h0]) ++ List.replicate (1 - (lg_sl ([.ref h0])).length) Slot.unset).toArray = ls at hl ⊢
  have hl : lv_has ls 1 [(0, .ref h0)] := hl
  refine lv_aload_n hx hb dX3_init_0 rfl (lv_at hl 0 rfl) ?_
  refine W.objInit hx hb hown (hB _ q_7902af97) (hB _ q_e68b0fb7) (hB _ q_f29cc5b5) rfl (by rw [hml]; exact hl.1) rfl dX3_init_1 (Nat.le_of_ble_eq_true rfl) (Nat.le_of_ble_eq_true rfl) ?_
  refine W.eq (g2 := F0 m 4 ls []) rfl ?_
  refine lv_aload_n hx hb dX3_init_4 rfl (lv_at hl 0 rfl) ?_
  refine lv_iconst (v := (0 : Int32)) hx hb dX3_init_5 (by decide) ?_
  refine cr_put (v := .int (0 : Int32)) (ty := .int) (fs := [.int 0, .int 0, .null, .null, .null, .int 0]) hx hb hB hown hK hC (Or.inl rfl) rfl in_RX3 tyX3 tyX3_ok nmX3 0 (by decide) q_6b388f05 rfl (by decide +kernel) rfl rfl (Nat.le_of_ble_eq_true rfl) dX3_init_6 (fun H locs hC => ?_)
  have hC : CR E (fun q => q = h0 ∨ b ≤ q) h0 b (.inr (3, [.int (0 : Int32), .int 0, .null, .null, .null, .int 0])) [] s.heap H locs := hC
  refine lv_aload_n hx hb dX3_init_9 rfl (lv_at hl 0 rfl) ?_
  refine lv_iconst (v := (0 : Int32)) hx hb dX3_init_10 (by decide) ?_
  refine cr_put (v := .int (0 : Int32)) (ty := .int) (fs := [.int (0 : Int32), .int 0, .null, .null, .null, .int 0]) hx hb hB hown hK hC (Or.inl rfl) rfl in_RX3 tyX3 tyX3_ok nmX3 1 (by decide) q_d5661172 rfl (by decide +kernel) rfl rfl (Nat.le_of_ble_eq_true rfl) dX3_init_11 (fun H locs hC => ?_)
  have hC : CR E (fun q => q = h0 ∨ b ≤ q) h0 b (.inr (3, [.int (0 : Int32), .int (0 : Int32), .null, .null, .null, .int 0])) [] s.heap H locs := hC
  refine lv_aload_n hx hb dX3_init_14 rfl (lv_at hl 0 rfl) ?_
  refine lv_bipush (v := (10 : Int32)) hx hb dX3_init_15 (by decide) ?_
  refine cr_newa (atype := .int) (ty := .int) (t := 0) (N' := 10) (a0 := (10, .inl (fun _ => (0 : Int32)))) (a := b + 0) hx hb hB hK hC rfl q_0460111a rfl (fun _ _ => rfl) (fun _ => rfl) (by decide) (by decide) (by decide) (rfl) (Nat.le_of_ble_eq_true rfl) (Nat.le_of_ble_eq_true rfl) dX3_init_17 (fun H hC => ?_)
  refine W.widen (k := 1) (n := 10) (Nat.le_of_ble_eq_true rfl) (Nat.le_of_ble_eq_true rfl) ?_
  obtain ⟨cs1, ec1⟩ : ∃ z : List va_E, z = [] ++ ([.inl (ecy E 0, 10, .inl (fun _ => (0 : Int32)))] : List va_E) := ⟨_, rfl⟩
  rw [← ec1] at hC
  have nc1 : cs1.length = 1 := by rw [ec1, List.length_append]; rfl
  refine cr_putF (v := .ref (b + 0)) (ty := .array .int) (fs := [.int (0 : Int32), .int (0 : Int32), .null, .null, .null, .int 0]) hx hb hB hown hK hC (Or.inl rfl) rfl in_RX3 tyX3 tyX3_ok nmX3 2 (by decide) q_7365135c rfl hin rfl (by decide +kernel) rfl rfl (Nat.le_of_ble_eq_true rfl) dX3_init_19 (fun H locs hC => ?_)
  have hC : CR E (fun q => q = h0 ∨ b ≤ q) h0 b (.inr (3, [.int (0 : Int32), .int (0 : Int32), .ref (b + 0), .null, .null, .int 0])) cs1 s.heap H locs := hC
  refine lv_aload_n hx hb dX3_init_22 rfl (lv_at hl 0 rfl) ?_
  refine lv_bipush (v := (10 : Int32)) hx hb dX3_init_23 (by decide) ?_
  refine cr_newa (atype := .int) (ty := .int) (t := 0) (N' := 10) (a0 := (10, .inl (fun _ => (0 : Int32)))) (a := b + 1) hx hb hB hK hC rfl q_0460111a rfl (fun _ _ => rfl) (fun _ => rfl) (by decide) (by decide) (by decide) (by rw [nc1]) (Nat.le_of_ble_eq_true rfl) (Nat.le_of_ble_eq_true rfl) dX3_init_25 (fun H hC => ?_)
  refine W.widen (k := 2) (n := 20) (Nat.le_of_ble_eq_true rfl) (Nat.le_of_ble_eq_true rfl) ?_
  obtain ⟨cs2, ec2⟩ : ∃ z : List va_E, z = cs1 ++ ([.inl (ecy E 0, 10, .inl (fun _ => (0 : Int32)))] : List va_E) := ⟨_, rfl⟩
  rw [← ec2] at hC
  have nc2 : cs2.length = 2 := by rw [ec2, List.length_append, nc1]; rfl
  refine cr_putF (v := .ref (b + 1)) (ty := .array .int) (fs := [.int (0 : Int32), .int (0 : Int32), .ref (b + 0), .null, .null, .int 0]) hx hb hB hown hK hC (Or.inl rfl) rfl in_RX3 tyX3 tyX3_ok nmX3 3 (by decide) q_45d0f25f rfl hin rfl (by decide +kernel) rfl rfl (Nat.le_of_ble_eq_true rfl) dX3_init_27 (fun H locs hC => ?_)
  have hC : CR E (fun q => q = h0 ∨ b ≤ q) h0 b (.inr (3, [.int (0 : Int32), .int (0 : Int32), .ref (b + 0), .ref (b + 1), .null, .int 0])) cs2 s.heap H locs := hC
  refine lv_aload_n hx hb dX3_init_30 rfl (lv_at hl 0 rfl) ?_
  refine lv_bipush (v := (100 : Int32)) hx hb dX3_init_31 (by decide) ?_
  refine cr_newa (atype := .int) (ty := .int) (t := 0) (N' := 100) (a0 := (100, .inl (fun _ => (0 : Int32)))) (a := b + 2) hx hb hB hK hC rfl q_0460111a rfl (fun _ _ => rfl) (fun _ => rfl) (by decide) (by decide) (by decide) (by rw [nc2]) (Nat.le_of_ble_eq_true rfl) (Nat.le_of_ble_eq_true rfl) dX3_init_33 (fun H hC => ?_)
  refine W.widen (k := 3) (n := 120) (Nat.le_of_ble_eq_true rfl) (Nat.le_of_ble_eq_true rfl) ?_
  obtain ⟨cs3, ec3⟩ : ∃ z : List va_E, z = cs2 ++ ([.inl (ecy E 0, 100, .inl (fun _ => (0 : Int32)))] : List va_E) := ⟨_, rfl⟩
  rw [← ec3] at hC
  have nc3 : cs3.length = 3 := by rw [ec3, List.length_append, nc2]; rfl
  refine cr_putF (v := .ref (b + 2)) (ty := .array .int) (fs := [.int (0 : Int32), .int (0 : Int32), .ref (b + 0), .ref (b + 1), .null, .int 0]) hx hb hB hown hK hC (Or.inl rfl) rfl in_RX3 tyX3 tyX3_ok nmX3 4 (by decide) q_4716df7a rfl hin rfl (by decide +kernel) rfl rfl (Nat.le_of_ble_eq_true rfl) dX3_init_35 (fun H locs hC => ?_)
  have hC : CR E (fun q => q = h0 ∨ b ≤ q) h0 b (.inr (3, [.int (0 : Int32), .int (0 : Int32), .ref (b + 0), .ref (b + 1), .ref (b + 2), .int 0])) cs3 s.heap H locs := hC
  refine lv_aload_n hx hb dX3_init_38 rfl (lv_at hl 0 rfl) ?_
  refine lv_iconst (v := (0 : Int32)) hx hb dX3_init_39 (by decide) ?_
  refine cr_put (v := .int (0 : Int32)) (ty := .int) (fs := [.int (0 : Int32), .int (0 : Int32), .ref (b + 0), .ref (b + 1), .ref (b + 2), .int 0]) hx hb hB hown hK hC (Or.inl rfl) rfl in_RX3 tyX3 tyX3_ok nmX3 5 (by decide) q_6e8ef0b6 rfl (by decide +kernel) rfl rfl (Nat.le_of_ble_eq_true rfl) dX3_init_40 (fun H locs hC => ?_)
  have hC : CR E (fun q => q = h0 ∨ b ≤ q) h0 b (.inr (3, [.int (0 : Int32), .int (0 : Int32), .ref (b + 0), .ref (b + 1), .ref (b + 2), .int (0 : Int32)])) cs3 s.heap H locs := hC
  have hC : CR E (fun q => q = h0 ∨ b ≤ q) h0 b (e_X3_init E b) (c_X3_init E b) s.heap H locs := by
    have h : cs3 = c_X3_init E b := by rw [ec3, ec2, ec1]; rfl
    rw [← h]; exact hC
  exact cr_ret hx hb hr hlocks hC dX3_init_43
set_option maxHeartbeats 16000000 in
set_option maxRecDepth 100000 in
theorem kc_X0_init (l : Launch) (E : WE) (h0 b : Nat) : Met l yX0_init (.code yX0_init cX0_init 1 none :: BIG) ({ frames := 1, cells := 1, slots := 20, locals := 12 }) (PC E h0 b (.inr (0, [.null, .int 0, .int 0, .int 0, .int 0])) [.ref h0] NWC) (QC E h0 b (e_X0_init E b) (c_X0_init E b)) 1 20 (fun q => q = h0 ∨ b ≤ q) := by
  refine Met.ofW (cc := cX0_init) (maxL := 1) (ret := none) (by decide) rfl ?_
  intro p e s m args below meth c s₁ B hml hv
  obtain ⟨rfl, h1, h2, h3, hK, hN⟩ := hv
  have hx := B.exec
  have hb := B.bytes
  have hr := B.returns
  have hB : ∀ w ∈ BIG, w.before _ s = true := fun w h => atoms_spec (ws := (.code yX0_init cX0_init 1 none :: BIG)) B.pre w (List.mem_cons_of_mem _ h)
  have hown : s.vm.findClass RX0 = some m.cls := findClass_of_methodNamed B.named
  have hlocks := B.notSynchronized
  have hin : meth.name = "<init>" := (name_of_methodNamed B.named B.method).1
  have hC := CR.start (E := E) h1 h2 h3 (fun q => q = h0 ∨ b ≤ q)
  have hl := lv_entry ([.ref h0]) (n := 1) (Nat.le_of_ble_eq_true rfl)
  rw [lg_entry_eq]
  generalize (lg_sl ([.ref h0]) ++ List.replicate (1 - (lg_sl ([.ref h0])).length) Slot.unset).toArray = ls at hl ⊢
  have hl : lv_has ls 1 [(0, .ref h0)] := hl
  refine lv_aload_n hx hb dX0_init_0 rfl (lv_at hl 0 rfl) ?_
  refine W.objInit hx hb hown (hB _ q_2923c4e2) (hB _ q_e68b0fb7) (hB _ q_f29cc5b5) rfl (by rw [hml]; exact hl.1) rfl dX0_init_1 (Nat.le_of_ble_eq_true rfl) (Nat.le_of_ble_eq_true rfl) ?_
  refine W.eq (g2 := F0 m 4 ls []) rfl ?_
  refine lv_aload_n hx hb dX0_init_4 rfl (lv_at hl 0 rfl) ?_
  refine lv_bipush (v := (20 : Int32)) hx hb dX0_init_5 (by decide) ?_
  refine cr_newa (atype := .int) (ty := .int) (t := 0) (N' := 20) (a0 := (20, .inl (fun _ => (0 : Int32)))) (a := b + 0) hx hb hB hK hC rfl q_0460111a rfl (fun _ _ => rfl) (fun _ => rfl) (by decide) (by decide) (by decide) (rfl) (Nat.le_of_ble_eq_true rfl) (Nat.le_of_ble_eq_true rfl) dX0_init_7 (fun H hC => ?_)
  refine W.widen (k := 1) (n := 20) (Nat.le_of_ble_eq_true rfl) (Nat.le_of_ble_eq_true rfl) ?_
  obtain ⟨cs1, ec1⟩ : ∃ z : List va_E, z = [] ++ ([.inl (ecy E 0, 20, .inl (fun _ => (0 : Int32)))] : List va_E) := ⟨_, rfl⟩
  rw [← ec1] at hC
  have nc1 : cs1.length = 1 := by rw [ec1, List.length_append]; rfl
  refine cr_putF (v := .ref (b + 0)) (ty := .array .int) (fs := [.null, .int 0, .int 0, .int 0, .int 0]) hx hb hB hown hK hC (Or.inl rfl) rfl in_RX0 tyX0 tyX0_ok nmX0 0 (by decide) q_ddb25549 rfl hin rfl (by decide +kernel) rfl rfl (Nat.le_of_ble_eq_true rfl) dX0_init_9 (fun H locs hC => ?_)
  have hC : CR E (fun q => q = h0 ∨ b ≤ q) h0 b (.inr (0, [.ref (b + 0), .int 0, .int 0, .int 0, .int 0])) cs1 s.heap H locs := hC
  refine lv_aload_n hx hb dX0_init_12 rfl (lv_at hl 0 rfl) ?_
  refine lv_iconst (v := (0 : Int32)) hx hb dX0_init_13 (by decide) ?_
  refine cr_put (v := .int (0 : Int32)) (ty := .int) (fs := [.ref (b + 0), .int 0, .int 0, .int 0, .int 0]) hx hb hB hown hK hC (Or.inl rfl) rfl in_RX0 tyX0 tyX0_ok nmX0 1 (by decide) q_ee6462f2 rfl (by decide +kernel) rfl rfl (Nat.le_of_ble_eq_true rfl) dX0_init_14 (fun H locs hC => ?_)
  have hC : CR E (fun q => q = h0 ∨ b ≤ q) h0 b (.inr (0, [.ref (b + 0), .int (0 : Int32), .int 0, .int 0, .int 0])) cs1 s.heap H locs := hC
  refine lv_aload_n hx hb dX0_init_17 rfl (lv_at hl 0 rfl) ?_
  refine lv_iconst (v := (0 : Int32)) hx hb dX0_init_18 (by decide) ?_
  refine cr_put (v := .int (0 : Int32)) (ty := .int) (fs := [.ref (b + 0), .int (0 : Int32), .int 0, .int 0, .int 0]) hx hb hB hown hK hC (Or.inl rfl) rfl in_RX0 tyX0 tyX0_ok nmX0 2 (by decide) q_4db0ef94 rfl (by decide +kernel) rfl rfl (Nat.le_of_ble_eq_true rfl) dX0_init_19 (fun H locs hC => ?_)
  have hC : CR E (fun q => q = h0 ∨ b ≤ q) h0 b (.inr (0, [.ref (b + 0), .int (0 : Int32), .int (0 : Int32), .int 0, .int 0])) cs1 s.heap H locs := hC
  refine lv_aload_n hx hb dX0_init_22 rfl (lv_at hl 0 rfl) ?_
  refine lv_iconst (v := (0 : Int32)) hx hb dX0_init_23 (by decide) ?_
  refine cr_put (v := .int (0 : Int32)) (ty := .int) (fs := [.ref (b + 0), .int (0 : Int32), .int (0 : Int32), .int 0, .int 0]) hx hb hB hown hK hC (Or.inl rfl) rfl in_RX0 tyX0 tyX0_ok nmX0 3 (by decide) q_0aaa3d84 rfl (by decide +kernel) rfl rfl (Nat.le_of_ble_eq_true rfl) dX0_init_24 (fun H locs hC => ?_)
  have hC : CR E (fun q => q = h0 ∨ b ≤ q) h0 b (.inr (0, [.ref (b + 0), .int (0 : Int32), .int (0 : Int32), .int (0 : Int32), .int 0])) cs1 s.heap H locs := hC
  refine lv_aload_n hx hb dX0_init_27 rfl (lv_at hl 0 rfl) ?_
  refine lv_iconst (v := (0 : Int32)) hx hb dX0_init_28 (by decide) ?_
  refine cr_put (v := .int (0 : Int32)) (ty := .int) (fs := [.ref (b + 0), .int (0 : Int32), .int (0 : Int32), .int (0 : Int32), .int 0]) hx hb hB hown hK hC (Or.inl rfl) rfl in_RX0 tyX0 tyX0_ok nmX0 4 (by decide) q_2a950cfd rfl (by decide +kernel) rfl rfl (Nat.le_of_ble_eq_true rfl) dX0_init_29 (fun H locs hC => ?_)
  have hC : CR E (fun q => q = h0 ∨ b ≤ q) h0 b (.inr (0, [.ref (b + 0), .int (0 : Int32), .int (0 : Int32), .int (0 : Int32), .int (0 : Int32)])) cs1 s.heap H locs := hC
  have hC : CR E (fun q => q = h0 ∨ b ≤ q) h0 b (e_X0_init E b) (c_X0_init E b) s.heap H locs := by
    have h : cs1 = c_X0_init E b := by rw [ec1]; rfl
    rw [← h]; exact hC
  exact cr_ret hx hb hr hlocks hC dX0_init_32
set_option maxHeartbeats 16000000 in
set_option maxRecDepth 100000 in
theorem kc_X4_init (l : Launch) (E : WE) (h0 b : Nat) : Met l yX4_init (.code yX4_init cX4_init 1 none :: BIG) ({ frames := 1, cells := 1, slots := 60, locals := 12 }) (PC E h0 b (.inr (4, [.int 0, .int 0, .null])) [.ref h0] NWC) (QC E h0 b (e_X4_init E b) (c_X4_init E b)) 1 60 (fun q => q = h0 ∨ b ≤ q) := by
  refine Met.ofW (cc := cX4_init) (maxL := 1) (ret := none) (by decide) rfl ?_
  intro p e s m args below meth c s₁ B hml hv
  obtain ⟨rfl, h1, h2, h3, hK, hN⟩ := hv
  have hx := B.exec
  have hb := B.bytes
  have hr := B.returns
  have hB : ∀ w ∈ BIG, w.before _ s = true := fun w h => atoms_spec (ws := (.code yX4_init cX4_init 1 none :: BIG)) B.pre w (List.mem_cons_of_mem _ h)
  have hown : s.vm.findClass RX4 = some m.cls := findClass_of_methodNamed B.named
  have hlocks := B.notSynchronized
  have hin : meth.name = "<init>" := (name_of_methodNamed B.named B.method).1
  have hC := CR.start (E := E) h1 h2 h3 (fun q => q = h0 ∨ b ≤ q)
  have hl := lv_entry ([.ref h0]) (n := 1) (Nat.le_of_ble_eq_true rfl)
  rw [lg_entry_eq]
  generalize (lg_sl ([.ref h0]) ++ List.replicate (1 - (lg_sl ([.ref h0])).length) Slot.unset).toArray = ls at hl ⊢
  have hl : lv_has ls 1 [(0, .ref h0)] := hl
  refine lv_aload_n hx hb dX4_init_0 rfl (lv_at hl 0 rfl) ?_
  refine W.objInit hx hb hown (hB _ q_5553babd) (hB _ q_e68b0fb7) (hB _ q_f29cc5b5) rfl (by rw [hml]; exact hl.1) rfl dX4_init_1 (Nat.le_of_ble_eq_true rfl) (Nat.le_of_ble_eq_true rfl) ?_
  refine W.eq (g2 := F0 m 4 ls []) rfl ?_
  refine lv_aload_n hx hb dX4_init_4 rfl (lv_at hl 0 rfl) ?_
  refine lv_iconst (v := (-1 : Int32)) hx hb dX4_init_5 (by decide) ?_
  refine cr_put (v := .int (-1 : Int32)) (ty := .int) (fs := [.int 0, .int 0, .null]) hx hb hB hown hK hC (Or.inl rfl) rfl in_RX4 tyX4 tyX4_ok nmX4 0 (by decide) q_6f5ebe40 rfl (by decide +kernel) rfl rfl (Nat.le_of_ble_eq_true rfl) dX4_init_6 (fun H locs hC => ?_)
  have hC : CR E (fun q => q = h0 ∨ b ≤ q) h0 b (.inr (4, [.int (-1 : Int32), .int 0, .null])) [] s.heap H locs := hC
  refine lv_aload_n hx hb dX4_init_9 rfl (lv_at hl 0 rfl) ?_
  refine lv_iconst (v := (0 : Int32)) hx hb dX4_init_10 (by decide) ?_
  refine cr_put (v := .int (0 : Int32)) (ty := .int) (fs := [.int (-1 : Int32), .int 0, .null]) hx hb hB hown hK hC (Or.inl rfl) rfl in_RX4 tyX4 tyX4_ok nmX4 1 (by decide) q_f0d01fe9 rfl (by decide +kernel) rfl rfl (Nat.le_of_ble_eq_true rfl) dX4_init_11 (fun H locs hC => ?_)
  have hC : CR E (fun q => q = h0 ∨ b ≤ q) h0 b (.inr (4, [.int (-1 : Int32), .int (0 : Int32), .null])) [] s.heap H locs := hC
  refine lv_aload_n hx hb dX4_init_14 rfl (lv_at hl 0 rfl) ?_
  refine lv_bipush (v := (60 : Int32)) hx hb dX4_init_15 (by decide) ?_
  refine cr_newa (atype := .long) (ty := .long) (t := 1) (N' := 60) (a0 := (60, .inr (.inl (fun _ => (0 : Int64))))) (a := b + 0) hx hb hB hK hC rfl q_18c1a586 rfl (fun _ _ => rfl) (fun _ => rfl) (by decide) (by decide) (by decide) (rfl) (Nat.le_of_ble_eq_true rfl) (Nat.le_of_ble_eq_true rfl) dX4_init_17 (fun H hC => ?_)
  refine W.widen (k := 1) (n := 60) (Nat.le_of_ble_eq_true rfl) (Nat.le_of_ble_eq_true rfl) ?_
  obtain ⟨cs1, ec1⟩ : ∃ z : List va_E, z = [] ++ ([.inl (ecy E 1, 60, .inr (.inl (fun _ => (0 : Int64))))] : List va_E) := ⟨_, rfl⟩
  rw [← ec1] at hC
  have nc1 : cs1.length = 1 := by rw [ec1, List.length_append]; rfl
  refine cr_putF (v := .ref (b + 0)) (ty := .array .long) (fs := [.int (-1 : Int32), .int (0 : Int32), .null]) hx hb hB hown hK hC (Or.inl rfl) rfl in_RX4 tyX4 tyX4_ok nmX4 2 (by decide) q_8bf5921d rfl hin rfl (by decide +kernel) rfl rfl (Nat.le_of_ble_eq_true rfl) dX4_init_19 (fun H locs hC => ?_)
  have hC : CR E (fun q => q = h0 ∨ b ≤ q) h0 b (.inr (4, [.int (-1 : Int32), .int (0 : Int32), .ref (b + 0)])) cs1 s.heap H locs := hC
  have hC : CR E (fun q => q = h0 ∨ b ≤ q) h0 b (e_X4_init E b) (c_X4_init E b) s.heap H locs := by
    have h : cs1 = c_X4_init E b := by rw [ec1]; rfl
    rw [← h]; exact hC
  exact cr_ret hx hb hr hlocks hC dX4_init_22
