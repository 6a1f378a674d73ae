section
-- ===== PART A: goes FIRST, ahead of the names: the tables' words, and 'selects' of the private methods out of them =====
/-- a private method of a class that the tables say can be made, by its rows of tables_1 -/
def lw_okq (q : MethodName × Nat) : Prop := (q.1.cls ≠ "java/lang/invoke/MethodHandle" ∧ q.1.cls ≠ "java/lang/invoke/VarHandle") ∧ Cond.instantiable q.1.cls q.2 ∈ tables_1 ∧ Cond.privateMethod q.1 ∈ tables_1 ∧ Cond.instanceMethod q.1 ∈ tables_1
theorem lw_p0 : lw_okq (⟨"StoneBeds", "draw", "(IIII)I"⟩, 11) := ⟨⟨by decide +kernel, by decide +kernel⟩, List.mem_of_getElem? (i := 11) (by decide +kernel), List.mem_of_getElem? (i := 205) (by decide +kernel), List.mem_of_getElem? (i := 206) (by decide +kernel)⟩
theorem lw_p1 : lw_okq (⟨"StoneBeds", "partOf", "(I)LStoneBeds$Part;"⟩, 11) := ⟨⟨by decide +kernel, by decide +kernel⟩, List.mem_of_getElem? (i := 11) (by decide +kernel), List.mem_of_getElem? (i := 209) (by decide +kernel), List.mem_of_getElem? (i := 210) (by decide +kernel)⟩
theorem lw_p2 : lw_okq (⟨"StoneBeds", "givePacker", "(III)V"⟩, 11) := ⟨⟨by decide +kernel, by decide +kernel⟩, List.mem_of_getElem? (i := 11) (by decide +kernel), List.mem_of_getElem? (i := 228) (by decide +kernel), List.mem_of_getElem? (i := 229) (by decide +kernel)⟩
theorem lw_p3 : lw_okq (⟨"StoneBeds$Packer", "packs", "(III)Z"⟩, 4) := ⟨⟨by decide +kernel, by decide +kernel⟩, List.mem_of_getElem? (i := 52) (by decide +kernel), List.mem_of_getElem? (i := 248) (by decide +kernel), List.mem_of_getElem? (i := 249) (by decide +kernel)⟩
theorem lw_p4 : lw_okq (⟨"StoneBeds$Packer", "packsOn", "(IIII)Z"⟩, 4) := ⟨⟨by decide +kernel, by decide +kernel⟩, List.mem_of_getElem? (i := 52) (by decide +kernel), List.mem_of_getElem? (i := 252) (by decide +kernel), List.mem_of_getElem? (i := 253) (by decide +kernel)⟩
theorem lw_p5 : lw_okq (⟨"StoneBeds", "bedOf", "(I)LStoneBeds$Bed;"⟩, 11) := ⟨⟨by decide +kernel, by decide +kernel⟩, List.mem_of_getElem? (i := 11) (by decide +kernel), List.mem_of_getElem? (i := 261) (by decide +kernel), List.mem_of_getElem? (i := 262) (by decide +kernel)⟩
theorem lw_p6 : lw_okq (⟨"StoneBeds", "areParts", "(II)Z"⟩, 11) := ⟨⟨by decide +kernel, by decide +kernel⟩, List.mem_of_getElem? (i := 11) (by decide +kernel), List.mem_of_getElem? (i := 265) (by decide +kernel), List.mem_of_getElem? (i := 266) (by decide +kernel)⟩
theorem lw_p7 : lw_okq (⟨"StoneBeds", "areDrawnAndFit", "(II)Z"⟩, 11) := ⟨⟨by decide +kernel, by decide +kernel⟩, List.mem_of_getElem? (i := 11) (by decide +kernel), List.mem_of_getElem? (i := 272) (by decide +kernel), List.mem_of_getElem? (i := 273) (by decide +kernel)⟩
theorem lw_p8 : lw_okq (⟨"StoneBeds", "stackOf", "(I)LStoneBeds$Pile;"⟩, 11) := ⟨⟨by decide +kernel, by decide +kernel⟩, List.mem_of_getElem? (i := 11) (by decide +kernel), List.mem_of_getElem? (i := 316) (by decide +kernel), List.mem_of_getElem? (i := 317) (by decide +kernel)⟩
theorem lw_p9 : lw_okq (⟨"StoneBeds", "strikeTops", "(LStoneBeds$Pile;)V"⟩, 11) := ⟨⟨by decide +kernel, by decide +kernel⟩, List.mem_of_getElem? (i := 11) (by decide +kernel), List.mem_of_getElem? (i := 345) (by decide +kernel), List.mem_of_getElem? (i := 346) (by decide +kernel)⟩
theorem lw_p10 : lw_okq (⟨"StoneBeds", "countWhere", "(I)I"⟩, 11) := ⟨⟨by decide +kernel, by decide +kernel⟩, List.mem_of_getElem? (i := 11) (by decide +kernel), List.mem_of_getElem? (i := 364) (by decide +kernel), List.mem_of_getElem? (i := 365) (by decide +kernel)⟩
theorem lw_p11 : lw_okq (⟨"StoneBeds$Digger", "pileOf", "(I)LStoneBeds$Pile;"⟩, 4) := ⟨⟨by decide +kernel, by decide +kernel⟩, List.mem_of_getElem? (i := 71) (by decide +kernel), List.mem_of_getElem? (i := 372) (by decide +kernel), List.mem_of_getElem? (i := 373) (by decide +kernel)⟩
theorem lw_p12 : lw_okq (⟨"StoneBeds$Digger", "mustMove", "()I"⟩, 4) := ⟨⟨by decide +kernel, by decide +kernel⟩, List.mem_of_getElem? (i := 71) (by decide +kernel), List.mem_of_getElem? (i := 386) (by decide +kernel), List.mem_of_getElem? (i := 387) (by decide +kernel)⟩
theorem lw_p13 : lw_okq (⟨"StoneBeds$Digger", "reaches", "(II)Z"⟩, 4) := ⟨⟨by decide +kernel, by decide +kernel⟩, List.mem_of_getElem? (i := 71) (by decide +kernel), List.mem_of_getElem? (i := 390) (by decide +kernel), List.mem_of_getElem? (i := 391) (by decide +kernel)⟩
theorem lw_p14 : lw_okq (⟨"StoneBeds$Digger", "pileWith", "(I)I"⟩, 4) := ⟨⟨by decide +kernel, by decide +kernel⟩, List.mem_of_getElem? (i := 71) (by decide +kernel), List.mem_of_getElem? (i := 394) (by decide +kernel), List.mem_of_getElem? (i := 395) (by decide +kernel)⟩
theorem lw_p15 : lw_okq (⟨"StoneBeds$Digger", "isTop", "(II)Z"⟩, 4) := ⟨⟨by decide +kernel, by decide +kernel⟩, List.mem_of_getElem? (i := 71) (by decide +kernel), List.mem_of_getElem? (i := 398) (by decide +kernel), List.mem_of_getElem? (i := 399) (by decide +kernel)⟩
def lw_privs_1 : List (MethodName × Nat) := [(⟨"StoneBeds", "draw", "(IIII)I"⟩, 11), (⟨"StoneBeds", "partOf", "(I)LStoneBeds$Part;"⟩, 11), (⟨"StoneBeds", "givePacker", "(III)V"⟩, 11), (⟨"StoneBeds$Packer", "packs", "(III)Z"⟩, 4), (⟨"StoneBeds$Packer", "packsOn", "(IIII)Z"⟩, 4), (⟨"StoneBeds", "bedOf", "(I)LStoneBeds$Bed;"⟩, 11), (⟨"StoneBeds", "areParts", "(II)Z"⟩, 11), (⟨"StoneBeds", "areDrawnAndFit", "(II)Z"⟩, 11), (⟨"StoneBeds", "stackOf", "(I)LStoneBeds$Pile;"⟩, 11), (⟨"StoneBeds", "strikeTops", "(LStoneBeds$Pile;)V"⟩, 11), (⟨"StoneBeds", "countWhere", "(I)I"⟩, 11), (⟨"StoneBeds$Digger", "pileOf", "(I)LStoneBeds$Pile;"⟩, 4), (⟨"StoneBeds$Digger", "mustMove", "()I"⟩, 4), (⟨"StoneBeds$Digger", "reaches", "(II)Z"⟩, 4), (⟨"StoneBeds$Digger", "pileWith", "(I)I"⟩, 4), (⟨"StoneBeds$Digger", "isTop", "(II)Z"⟩, 4)]
theorem lw_r1 : ∀ q ∈ lw_privs_1, lw_okq q := List.forall_mem_cons.mpr ⟨lw_p0, List.forall_mem_cons.mpr ⟨lw_p1, List.forall_mem_cons.mpr ⟨lw_p2, List.forall_mem_cons.mpr ⟨lw_p3, List.forall_mem_cons.mpr ⟨lw_p4, List.forall_mem_cons.mpr ⟨lw_p5, List.forall_mem_cons.mpr ⟨lw_p6, List.forall_mem_cons.mpr ⟨lw_p7, List.forall_mem_cons.mpr ⟨lw_p8, List.forall_mem_cons.mpr ⟨lw_p9, List.forall_mem_cons.mpr ⟨lw_p10, List.forall_mem_cons.mpr ⟨lw_p11, List.forall_mem_cons.mpr ⟨lw_p12, List.forall_mem_cons.mpr ⟨lw_p13, List.forall_mem_cons.mpr ⟨lw_p14, List.forall_mem_cons.mpr ⟨lw_p15, fun _ h => absurd h List.not_mem_nil⟩⟩⟩⟩⟩⟩⟩⟩⟩⟩⟩⟩⟩⟩⟩⟩
theorem lw_p16 : lw_okq (⟨"StoneBeds$Digger", "digs", "(III)Z"⟩, 4) := ⟨⟨by decide +kernel, by decide +kernel⟩, List.mem_of_getElem? (i := 71) (by decide +kernel), List.mem_of_getElem? (i := 404) (by decide +kernel), List.mem_of_getElem? (i := 405) (by decide +kernel)⟩
theorem lw_p17 : lw_okq (⟨"StoneBeds$Lorry", "frontShare", "()I"⟩, 5) := ⟨⟨by decide +kernel, by decide +kernel⟩, List.mem_of_getElem? (i := 25) (by decide +kernel), List.mem_of_getElem? (i := 421) (by decide +kernel), List.mem_of_getElem? (i := 422) (by decide +kernel)⟩
theorem lw_p18 : lw_okq (⟨"StoneBeds$Lorry", "rearShare", "()I"⟩, 5) := ⟨⟨by decide +kernel, by decide +kernel⟩, List.mem_of_getElem? (i := 25) (by decide +kernel), List.mem_of_getElem? (i := 425) (by decide +kernel), List.mem_of_getElem? (i := 426) (by decide +kernel)⟩
theorem lw_p19 : lw_okq (⟨"StoneBeds", "isRight", "()Z"⟩, 11) := ⟨⟨by decide +kernel, by decide +kernel⟩, List.mem_of_getElem? (i := 11) (by decide +kernel), List.mem_of_getElem? (i := 449) (by decide +kernel), List.mem_of_getElem? (i := 450) (by decide +kernel)⟩
theorem lw_p20 : lw_okq (⟨"StoneBeds", "strikeWhereItIs", "(LStoneBeds$Part;)V"⟩, 11) := ⟨⟨by decide +kernel, by decide +kernel⟩, List.mem_of_getElem? (i := 11) (by decide +kernel), List.mem_of_getElem? (i := 457) (by decide +kernel), List.mem_of_getElem? (i := 458) (by decide +kernel)⟩
theorem lw_p21 : lw_okq (⟨"StoneBedsModel", "comes", "(IIII)I"⟩, 34) := ⟨⟨by decide +kernel, by decide +kernel⟩, List.mem_of_getElem? (i := 478) (by decide +kernel), List.mem_of_getElem? (i := 601) (by decide +kernel), List.mem_of_getElem? (i := 602) (by decide +kernel)⟩
theorem lw_p22 : lw_okq (⟨"StoneBedsModel", "isPart", "(I)Z"⟩, 34) := ⟨⟨by decide +kernel, by decide +kernel⟩, List.mem_of_getElem? (i := 478) (by decide +kernel), List.mem_of_getElem? (i := 609) (by decide +kernel), List.mem_of_getElem? (i := 610) (by decide +kernel)⟩
theorem lw_p23 : lw_okq (⟨"StoneBedsModel", "fewestCasts", "()I"⟩, 34) := ⟨⟨by decide +kernel, by decide +kernel⟩, List.mem_of_getElem? (i := 478) (by decide +kernel), List.mem_of_getElem? (i := 618) (by decide +kernel), List.mem_of_getElem? (i := 619) (by decide +kernel)⟩
theorem lw_p24 : lw_okq (⟨"StoneBedsModel", "fits", "(I)Z"⟩, 34) := ⟨⟨by decide +kernel, by decide +kernel⟩, List.mem_of_getElem? (i := 478) (by decide +kernel), List.mem_of_getElem? (i := 622) (by decide +kernel), List.mem_of_getElem? (i := 623) (by decide +kernel)⟩
theorem lw_p25 : lw_okq (⟨"StoneBedsModel", "plainCasts", "()I"⟩, 34) := ⟨⟨by decide +kernel, by decide +kernel⟩, List.mem_of_getElem? (i := 478) (by decide +kernel), List.mem_of_getElem? (i := 626) (by decide +kernel), List.mem_of_getElem? (i := 627) (by decide +kernel)⟩
theorem lw_p26 : lw_okq (⟨"StoneBedsModel", "lays", "(II)V"⟩, 34) := ⟨⟨by decide +kernel, by decide +kernel⟩, List.mem_of_getElem? (i := 478) (by decide +kernel), List.mem_of_getElem? (i := 658) (by decide +kernel), List.mem_of_getElem? (i := 659) (by decide +kernel)⟩
theorem lw_p27 : lw_okq (⟨"StoneBedsModel", "clears", "(I)V"⟩, 34) := ⟨⟨by decide +kernel, by decide +kernel⟩, List.mem_of_getElem? (i := 478) (by decide +kernel), List.mem_of_getElem? (i := 666) (by decide +kernel), List.mem_of_getElem? (i := 667) (by decide +kernel)⟩
theorem lw_p28 : lw_okq (⟨"StoneBedsModel", "lies", "()V"⟩, 34) := ⟨⟨by decide +kernel, by decide +kernel⟩, List.mem_of_getElem? (i := 478) (by decide +kernel), List.mem_of_getElem? (i := 676) (by decide +kernel), List.mem_of_getElem? (i := 677) (by decide +kernel)⟩
theorem lw_p29 : lw_okq (⟨"StoneBedsModel", "does", "(I)Z"⟩, 34) := ⟨⟨by decide +kernel, by decide +kernel⟩, List.mem_of_getElem? (i := 478) (by decide +kernel), List.mem_of_getElem? (i := 680) (by decide +kernel), List.mem_of_getElem? (i := 681) (by decide +kernel)⟩
theorem lw_p30 : lw_okq (⟨"StoneBedsModel", "takes", "(I)I"⟩, 34) := ⟨⟨by decide +kernel, by decide +kernel⟩, List.mem_of_getElem? (i := 478) (by decide +kernel), List.mem_of_getElem? (i := 684) (by decide +kernel), List.mem_of_getElem? (i := 685) (by decide +kernel)⟩
theorem lw_p31 : lw_okq (⟨"StoneBedsModel", "stackOf", "(I)I"⟩, 34) := ⟨⟨by decide +kernel, by decide +kernel⟩, List.mem_of_getElem? (i := 478) (by decide +kernel), List.mem_of_getElem? (i := 688) (by decide +kernel), List.mem_of_getElem? (i := 689) (by decide +kernel)⟩
def lw_privs_2 : List (MethodName × Nat) := [(⟨"StoneBeds$Digger", "digs", "(III)Z"⟩, 4), (⟨"StoneBeds$Lorry", "frontShare", "()I"⟩, 5), (⟨"StoneBeds$Lorry", "rearShare", "()I"⟩, 5), (⟨"StoneBeds", "isRight", "()Z"⟩, 11), (⟨"StoneBeds", "strikeWhereItIs", "(LStoneBeds$Part;)V"⟩, 11), (⟨"StoneBedsModel", "comes", "(IIII)I"⟩, 34), (⟨"StoneBedsModel", "isPart", "(I)Z"⟩, 34), (⟨"StoneBedsModel", "fewestCasts", "()I"⟩, 34), (⟨"StoneBedsModel", "fits", "(I)Z"⟩, 34), (⟨"StoneBedsModel", "plainCasts", "()I"⟩, 34), (⟨"StoneBedsModel", "lays", "(II)V"⟩, 34), (⟨"StoneBedsModel", "clears", "(I)V"⟩, 34), (⟨"StoneBedsModel", "lies", "()V"⟩, 34), (⟨"StoneBedsModel", "does", "(I)Z"⟩, 34), (⟨"StoneBedsModel", "takes", "(I)I"⟩, 34), (⟨"StoneBedsModel", "stackOf", "(I)I"⟩, 34)]
theorem lw_r2 : ∀ q ∈ lw_privs_2, lw_okq q := List.forall_mem_cons.mpr ⟨lw_p16, List.forall_mem_cons.mpr ⟨lw_p17, List.forall_mem_cons.mpr ⟨lw_p18, List.forall_mem_cons.mpr ⟨lw_p19, List.forall_mem_cons.mpr ⟨lw_p20, List.forall_mem_cons.mpr ⟨lw_p21, List.forall_mem_cons.mpr ⟨lw_p22, List.forall_mem_cons.mpr ⟨lw_p23, List.forall_mem_cons.mpr ⟨lw_p24, List.forall_mem_cons.mpr ⟨lw_p25, List.forall_mem_cons.mpr ⟨lw_p26, List.forall_mem_cons.mpr ⟨lw_p27, List.forall_mem_cons.mpr ⟨lw_p28, List.forall_mem_cons.mpr ⟨lw_p29, List.forall_mem_cons.mpr ⟨lw_p30, List.forall_mem_cons.mpr ⟨lw_p31, fun _ h => absurd h List.not_mem_nil⟩⟩⟩⟩⟩⟩⟩⟩⟩⟩⟩⟩⟩⟩⟩⟩
theorem lw_p32 : lw_okq (⟨"StoneBedsModel", "gives", "(I)V"⟩, 34) := ⟨⟨by decide +kernel, by decide +kernel⟩, List.mem_of_getElem? (i := 478) (by decide +kernel), List.mem_of_getElem? (i := 692) (by decide +kernel), List.mem_of_getElem? (i := 693) (by decide +kernel)⟩
theorem lw_p33 : lw_okq (⟨"StoneBedsModel", "carries", "(II)V"⟩, 34) := ⟨⟨by decide +kernel, by decide +kernel⟩, List.mem_of_getElem? (i := 478) (by decide +kernel), List.mem_of_getElem? (i := 696) (by decide +kernel), List.mem_of_getElem? (i := 697) (by decide +kernel)⟩
theorem lw_p34 : lw_okq (⟨"StoneBedsModel", "heavy", "()I"⟩, 34) := ⟨⟨by decide +kernel, by decide +kernel⟩, List.mem_of_getElem? (i := 478) (by decide +kernel), List.mem_of_getElem? (i := 704) (by decide +kernel), List.mem_of_getElem? (i := 705) (by decide +kernel)⟩
theorem lw_p35 : lw_okq (⟨"StoneBedsModel", "front", "()I"⟩, 34) := ⟨⟨by decide +kernel, by decide +kernel⟩, List.mem_of_getElem? (i := 478) (by decide +kernel), List.mem_of_getElem? (i := 708) (by decide +kernel), List.mem_of_getElem? (i := 709) (by decide +kernel)⟩
theorem lw_p36 : lw_okq (⟨"StoneBedsModel", "rear", "()I"⟩, 34) := ⟨⟨by decide +kernel, by decide +kernel⟩, List.mem_of_getElem? (i := 478) (by decide +kernel), List.mem_of_getElem? (i := 712) (by decide +kernel), List.mem_of_getElem? (i := 713) (by decide +kernel)⟩
theorem lw_p37 : lw_okq (⟨"StoneBedsModel", "isRight", "()Z"⟩, 34) := ⟨⟨by decide +kernel, by decide +kernel⟩, List.mem_of_getElem? (i := 478) (by decide +kernel), List.mem_of_getElem? (i := 724) (by decide +kernel), List.mem_of_getElem? (i := 725) (by decide +kernel)⟩
theorem lw_p38 : lw_okq (⟨"StoneBedsModel", "gets", "(IIII)V"⟩, 34) := ⟨⟨by decide +kernel, by decide +kernel⟩, List.mem_of_getElem? (i := 478) (by decide +kernel), List.mem_of_getElem? (i := 732) (by decide +kernel), List.mem_of_getElem? (i := 733) (by decide +kernel)⟩
def lw_privs_3 : List (MethodName × Nat) := [(⟨"StoneBedsModel", "gives", "(I)V"⟩, 34), (⟨"StoneBedsModel", "carries", "(II)V"⟩, 34), (⟨"StoneBedsModel", "heavy", "()I"⟩, 34), (⟨"StoneBedsModel", "front", "()I"⟩, 34), (⟨"StoneBedsModel", "rear", "()I"⟩, 34), (⟨"StoneBedsModel", "isRight", "()Z"⟩, 34), (⟨"StoneBedsModel", "gets", "(IIII)V"⟩, 34)]
theorem lw_r3 : ∀ q ∈ lw_privs_3, lw_okq q := List.forall_mem_cons.mpr ⟨lw_p32, List.forall_mem_cons.mpr ⟨lw_p33, List.forall_mem_cons.mpr ⟨lw_p34, List.forall_mem_cons.mpr ⟨lw_p35, List.forall_mem_cons.mpr ⟨lw_p36, List.forall_mem_cons.mpr ⟨lw_p37, List.forall_mem_cons.mpr ⟨lw_p38, fun _ h => absurd h List.not_mem_nil⟩⟩⟩⟩⟩⟩⟩
def lw_privs : List (MethodName × Nat) := lw_privs_1 ++ (lw_privs_2 ++ (lw_privs_3))
def lw_tbl : List Cond := k2_sels lw_privs ++ tables_1
theorem lw_privs_ok : ∀ q ∈ lw_privs, lw_okq q := by
  show ∀ q ∈ lw_privs_1 ++ (lw_privs_2 ++ (lw_privs_3)), lw_okq q
  exact List.forall_mem_append.mpr ⟨lw_r1, List.forall_mem_append.mpr ⟨lw_r2, lw_r3⟩⟩
end
section
def RX0 : String := "StoneBeds$Bed"
def TX0 : u_T := fun k => match k with
  | 0 => ("StoneBeds$Bed", "parts", "I", false)
  | 1 => ("StoneBeds$Bed", "length", "I", false)
  | 2 => ("StoneBeds$Bed", "ripeness", "I", false)
  | _ => ("StoneBeds$Bed", "castHour", "I", false)
def tyX0 : Nat → FieldType := fun k => match k with
  | 0 => .int
  | 1 => .int
  | 2 => .int
  | _ => .int
abbrev wsX00 : List Cond := u_ws RX0 TX0 4
theorem nmX0 : ∀ a, a < 4 → ∀ b, b < 4 → a ≠ b → (TX0 a).2.1 ≠ (TX0 b).2.1 := by decide +kernel
theorem tyX0_ok : ∀ k, k < 4 → parseFieldDescriptor (TX0 k).2.2.1 = some (tyX0 k) := by decide +kernel
abbrev cX0_init : ByteArray := prog_2_method_1_code
def yX0_init : MethodName := ⟨RX0, "<init>", "()V"⟩
abbrev cX0_take : ByteArray := prog_2_method_2_code
def yX0_take : MethodName := ⟨RX0, "take", "(II)V"⟩
abbrev cX0_clear : ByteArray := prog_2_method_3_code
def yX0_clear : MethodName := ⟨RX0, "clear", "()V"⟩
def RX1 : String := "StoneBeds$Digger"
def TX1 : u_T := fun k => match k with
  | 0 => ("StoneBeds$Digger", "piles", "[LStoneBeds$Pile;", true)
  | 1 => ("StoneBeds$Digger", "turns", "[I", true)
  | 2 => ("StoneBeds$Digger", "takenFrom", "[I", true)
  | _ => ("StoneBeds$Digger", "wanted", "I", false)
def tyX1 : Nat → FieldType := fun k => match k with
  | 0 => .array (.object "StoneBeds$Pile")
  | 1 => .array .int
  | 2 => .array .int
  | _ => .int
abbrev wsX10 : List Cond := u_ws RX1 TX1 4
theorem nmX1 : ∀ a, a < 4 → ∀ b, b < 4 → a ≠ b → (TX1 a).2.1 ≠ (TX1 b).2.1 := by decide +kernel
theorem tyX1_ok : ∀ k, k < 4 → parseFieldDescriptor (TX1 k).2.2.1 = some (tyX1 k) := by decide +kernel
abbrev cX1_init : ByteArray := prog_3_method_1_code
def yX1_init : MethodName := ⟨RX1, "<init>", "()V"⟩
abbrev cX1_clear : ByteArray := prog_3_method_2_code
def yX1_clear : MethodName := ⟨RX1, "clear", "()V"⟩
abbrev cX1_wants : ByteArray := prog_3_method_3_code
def yX1_wants : MethodName := ⟨RX1, "wants", "(I)Z"⟩
abbrev cX1_copyStack : ByteArray := prog_3_method_4_code
def yX1_copyStack : MethodName := ⟨RX1, "copyStack", "(ILStoneBeds$Pile;)V"⟩
abbrev cX1_fewestMoves : ByteArray := prog_3_method_5_code
def yX1_fewestMoves : MethodName := ⟨RX1, "fewestMoves", "()I"⟩
abbrev cX1_pileOf : ByteArray := prog_3_method_6_code
def yX1_pileOf : MethodName := ⟨RX1, "pileOf", "(I)LStoneBeds$Pile;"⟩
abbrev cX1_reaches : ByteArray := prog_3_method_7_code
def yX1_reaches : MethodName := ⟨RX1, "reaches", "(II)Z"⟩
abbrev cX1_digs : ByteArray := prog_3_method_8_code
def yX1_digs : MethodName := ⟨RX1, "digs", "(III)Z"⟩
abbrev cX1_isTop : ByteArray := prog_3_method_9_code
def yX1_isTop : MethodName := ⟨RX1, "isTop", "(II)Z"⟩
abbrev cX1_pileWith : ByteArray := prog_3_method_10_code
def yX1_pileWith : MethodName := ⟨RX1, "pileWith", "(I)I"⟩
abbrev cX1_mustMove : ByteArray := prog_3_method_11_code
def yX1_mustMove : MethodName := ⟨RX1, "mustMove", "()I"⟩
def RX2 : String := "StoneBeds$Lorry"
def TX2 : u_T := fun k => match k with
  | 0 => ("StoneBeds$Lorry", "held", "[I", true)
  | 1 => ("StoneBeds$Lorry", "parts", "I", false)
  | 2 => ("StoneBeds$Lorry", "weight", "I", false)
  | 3 => ("StoneBeds$Lorry", "front", "I", false)
  | _ => ("StoneBeds$Lorry", "rear", "I", false)
def tyX2 : Nat → FieldType := fun k => match k with
  | 0 => .array .int
  | 1 => .int
  | 2 => .int
  | 3 => .int
  | _ => .int
abbrev wsX20 : List Cond := u_ws RX2 TX2 5
theorem nmX2 : ∀ a, a < 5 → ∀ b, b < 5 → a ≠ b → (TX2 a).2.1 ≠ (TX2 b).2.1 := by decide +kernel
theorem tyX2_ok : ∀ k, k < 5 → parseFieldDescriptor (TX2 k).2.2.1 = some (tyX2 k) := by decide +kernel
abbrev cX2_init : ByteArray := prog_4_method_1_code
def yX2_init : MethodName := ⟨RX2, "<init>", "()V"⟩
abbrev cX2_hasPlace : ByteArray := prog_4_method_2_code
def yX2_hasPlace : MethodName := ⟨RX2, "hasPlace", "()Z"⟩
abbrev cX2_bears : ByteArray := prog_4_method_3_code
def yX2_bears : MethodName := ⟨RX2, "bears", "(I)Z"⟩
abbrev cX2_take : ByteArray := prog_4_method_4_code
def yX2_take : MethodName := ⟨RX2, "take", "(II)I"⟩
abbrev cX2_partOn : ByteArray := prog_4_method_5_code
def yX2_partOn : MethodName := ⟨RX2, "partOn", "(I)I"⟩
abbrev cX2_clear : ByteArray := prog_4_method_6_code
def yX2_clear : MethodName := ⟨RX2, "clear", "()V"⟩
abbrev cX2_frontShare : ByteArray := prog_4_method_7_code
def yX2_frontShare : MethodName := ⟨RX2, "frontShare", "()I"⟩
abbrev cX2_rearShare : ByteArray := prog_4_method_8_code
def yX2_rearShare : MethodName := ⟨RX2, "rearShare", "()I"⟩
def RX3 : String := "StoneBeds$Packer"
def TX3 : u_T := fun k => match k with
  | 0 => ("StoneBeds$Packer", "sizes", "[I", true)
  | 1 => ("StoneBeds$Packer", "filled", "[I", true)
  | 2 => ("StoneBeds$Packer", "held", "I", false)
  | _ => ("StoneBeds$Packer", "sum", "I", false)
def tyX3 : Nat → FieldType := fun k => match k with
  | 0 => .array .int
  | 1 => .array .int
  | 2 => .int
  | _ => .int
abbrev wsX30 : List Cond := u_ws RX3 TX3 4
theorem nmX3 : ∀ a, a < 4 → ∀ b, b < 4 → a ≠ b → (TX3 a).2.1 ≠ (TX3 b).2.1 := by decide +kernel
theorem tyX3_ok : ∀ k, k < 4 → parseFieldDescriptor (TX3 k).2.2.1 = some (tyX3 k) := by decide +kernel
abbrev cX3_init : ByteArray := prog_5_method_1_code
def yX3_init : MethodName := ⟨RX3, "<init>", "()V"⟩
abbrev cX3_clear : ByteArray := prog_5_method_2_code
def yX3_clear : MethodName := ⟨RX3, "clear", "()V"⟩
abbrev cX3_add : ByteArray := prog_5_method_3_code
def yX3_add : MethodName := ⟨RX3, "add", "(I)V"⟩
abbrev cX3_plainCasts : ByteArray := prog_5_method_4_code
def yX3_plainCasts : MethodName := ⟨RX3, "plainCasts", "()I"⟩
abbrev cX3_fewestCasts : ByteArray := prog_5_method_5_code
def yX3_fewestCasts : MethodName := ⟨RX3, "fewestCasts", "()I"⟩
abbrev cX3_packs : ByteArray := prog_5_method_6_code
def yX3_packs : MethodName := ⟨RX3, "packs", "(III)Z"⟩
abbrev cX3_packsOn : ByteArray := prog_5_method_7_code
def yX3_packsOn : MethodName := ⟨RX3, "packsOn", "(IIII)Z"⟩
def RX4 : String := "StoneBeds$Part"
def TX4 : u_T := fun k => match k with
  | 0 => ("StoneBeds$Part", "length", "I", false)
  | 1 => ("StoneBeds$Part", "plan", "I", false)
  | 2 => ("StoneBeds$Part", "weight", "I", false)
  | 3 => ("StoneBeds$Part", "need", "I", false)
  | 4 => ("StoneBeds$Part", "where", "I", false)
  | 5 => ("StoneBeds$Part", "number", "I", false)
  | 6 => ("StoneBeds$Part", "camber", "I", false)
  | _ => ("StoneBeds$Part", "toBeStruck", "Z", false)
def tyX4 : Nat → FieldType := fun k => match k with
  | 0 => .int
  | 1 => .int
  | 2 => .int
  | 3 => .int
  | 4 => .int
  | 5 => .int
  | 6 => .int
  | _ => .boolean
abbrev wsX40 : List Cond := u_ws RX4 TX4 8
theorem nmX4 : ∀ a, a < 8 → ∀ b, b < 8 → a ≠ b → (TX4 a).2.1 ≠ (TX4 b).2.1 := by decide +kernel
theorem tyX4_ok : ∀ k, k < 8 → parseFieldDescriptor (TX4 k).2.2.1 = some (tyX4 k) := by decide +kernel
abbrev cX4_init : ByteArray := prog_6_method_1_code
def yX4_init : MethodName := ⟨RX4, "<init>", "()V"⟩
abbrev cX4_measure : ByteArray := prog_6_method_2_code
def yX4_measure : MethodName := ⟨RX4, "measure", "(III)V"⟩
abbrev cX4_isNow : ByteArray := prog_6_method_3_code
def yX4_isNow : MethodName := ⟨RX4, "isNow", "(II)V"⟩
abbrev cX4_isStruck : ByteArray := prog_6_method_4_code
def yX4_isStruck : MethodName := ⟨RX4, "isStruck", "()V"⟩
def RX5 : String := "StoneBeds$Pile"
def TX5 : u_T := fun k => match k with
  | 0 => ("StoneBeds$Pile", "held", "[I", true)
  | _ => ("StoneBeds$Pile", "height", "I", false)
def tyX5 : Nat → FieldType := fun k => match k with
  | 0 => .array .int
  | _ => .int
abbrev wsX50 : List Cond := u_ws RX5 TX5 2
theorem nmX5 : ∀ a, a < 2 → ∀ b, b < 2 → a ≠ b → (TX5 a).2.1 ≠ (TX5 b).2.1 := by decide +kernel
theorem tyX5_ok : ∀ k, k < 2 → parseFieldDescriptor (TX5 k).2.2.1 = some (tyX5 k) := by decide +kernel
abbrev cX5_init : ByteArray := prog_7_method_1_code
def yX5_init : MethodName := ⟨RX5, "<init>", "()V"⟩
abbrev cX5_hasRoom : ByteArray := prog_7_method_2_code
def yX5_hasRoom : MethodName := ⟨RX5, "hasRoom", "()Z"⟩
abbrev cX5_put : ByteArray := prog_7_method_3_code
def yX5_put : MethodName := ⟨RX5, "put", "(I)V"⟩
abbrev cX5_from : ByteArray := prog_7_method_4_code
def yX5_from : MethodName := ⟨RX5, "from", "(I)I"⟩
abbrev cX5_top : ByteArray := prog_7_method_5_code
def yX5_top : MethodName := ⟨RX5, "top", "()I"⟩
abbrev cX5_takeOff : ByteArray := prog_7_method_6_code
def yX5_takeOff : MethodName := ⟨RX5, "takeOff", "()I"⟩
abbrev cX5_clear : ByteArray := prog_7_method_7_code
def yX5_clear : MethodName := ⟨RX5, "clear", "()V"⟩
def RX6 : String := "StoneBeds"
def TX6 : u_T := fun k => match k with
  | 0 => ("StoneBeds", "parts", "[LStoneBeds$Part;", true)
  | 1 => ("StoneBeds", "beds", "[LStoneBeds$Bed;", true)
  | 2 => ("StoneBeds", "stacks", "[LStoneBeds$Pile;", true)
  | 3 => ("StoneBeds", "lorry", "LStoneBeds$Lorry;", true)
  | 4 => ("StoneBeds", "packer", "LStoneBeds$Packer;", true)
  | 5 => ("StoneBeds", "digger", "LStoneBeds$Digger;", true)
  | 6 => ("StoneBeds", "partCount", "I", false)
  | 7 => ("StoneBeds", "castCount", "I", false)
  | 8 => ("StoneBeds", "tripCount", "I", false)
  | 9 => ("StoneBeds", "hour", "I", false)
  | _ => ("StoneBeds", "warmth", "I", false)
def tyX6 : Nat → FieldType := fun k => match k with
  | 0 => .array (.object "StoneBeds$Part")
  | 1 => .array (.object "StoneBeds$Bed")
  | 2 => .array (.object "StoneBeds$Pile")
  | 3 => .object "StoneBeds$Lorry"
  | 4 => .object "StoneBeds$Packer"
  | 5 => .object "StoneBeds$Digger"
  | 6 => .int
  | 7 => .int
  | 8 => .int
  | 9 => .int
  | _ => .int
abbrev wsX60 : List Cond := u_ws RX6 TX6 11
theorem nmX6 : ∀ a, a < 11 → ∀ b, b < 11 → a ≠ b → (TX6 a).2.1 ≠ (TX6 b).2.1 := by decide +kernel
theorem tyX6_ok : ∀ k, k < 11 → parseFieldDescriptor (TX6 k).2.2.1 = some (tyX6 k) := by decide +kernel
abbrev cX6_init : ByteArray := prog_1_method_1_code
def yX6_init : MethodName := ⟨RX6, "<init>", "()V"⟩
abbrev cX6_part : ByteArray := prog_1_method_2_code
def yX6_part : MethodName := ⟨RX6, "part", "(III)I"⟩
abbrev cX6_need : ByteArray := prog_1_method_3_code
def yX6_need : MethodName := ⟨RX6, "need", "(II)I"⟩
abbrev cX6_casts : ByteArray := prog_1_method_4_code
def yX6_casts : MethodName := ⟨RX6, "casts", "(III)I"⟩
abbrev cX6_cast : ByteArray := prog_1_method_5_code
def yX6_cast : MethodName := ⟨RX6, "cast", "(III)I"⟩
abbrev cX6_warmth : ByteArray := prog_1_method_6_code
def yX6_warmth : MethodName := ⟨RX6, "warmth", "(I)I"⟩
abbrev cX6_hours : ByteArray := prog_1_method_7_code
def yX6_hours : MethodName := ⟨RX6, "hours", "(I)I"⟩
abbrev cX6_letGo : ByteArray := prog_1_method_8_code
def yX6_letGo : MethodName := ⟨RX6, "letGo", "(I)I"⟩
abbrev cX6_stack : ByteArray := prog_1_method_9_code
def yX6_stack : MethodName := ⟨RX6, "stack", "(II)I"⟩
abbrev cX6_move : ByteArray := prog_1_method_10_code
def yX6_move : MethodName := ⟨RX6, "move", "(II)I"⟩
abbrev cX6_diggings : ByteArray := prog_1_method_11_code
def yX6_diggings : MethodName := ⟨RX6, "diggings", "(IJ)I"⟩
abbrev cX6_load : ByteArray := prog_1_method_12_code
def yX6_load : MethodName := ⟨RX6, "load", "(I)I"⟩
abbrev cX6_go : ByteArray := prog_1_method_13_code
def yX6_go : MethodName := ⟨RX6, "go", "()I"⟩
abbrev cX6_lorry : ByteArray := prog_1_method_14_code
def yX6_lorry : MethodName := ⟨RX6, "lorry", "(I)I"⟩
abbrev cX6_change : ByteArray := prog_1_method_15_code
def yX6_change : MethodName := ⟨RX6, "change", "(IIII)I"⟩
abbrev cX6_told : ByteArray := prog_1_method_16_code
def yX6_told : MethodName := ⟨RX6, "told", "(II)I"⟩
abbrev cX6_at : ByteArray := prog_1_method_17_code
def yX6_at : MethodName := ⟨RX6, "at", "(II)I"⟩
abbrev cX6_bed : ByteArray := prog_1_method_18_code
def yX6_bed : MethodName := ⟨RX6, "bed", "(II)I"⟩
abbrev cX6_count : ByteArray := prog_1_method_19_code
def yX6_count : MethodName := ⟨RX6, "count", "(I)I"⟩
abbrev cX6_partOf : ByteArray := prog_1_method_20_code
def yX6_partOf : MethodName := ⟨RX6, "partOf", "(I)LStoneBeds$Part;"⟩
abbrev cX6_bedOf : ByteArray := prog_1_method_21_code
def yX6_bedOf : MethodName := ⟨RX6, "bedOf", "(I)LStoneBeds$Bed;"⟩
abbrev cX6_stackOf : ByteArray := prog_1_method_22_code
def yX6_stackOf : MethodName := ⟨RX6, "stackOf", "(I)LStoneBeds$Pile;"⟩
abbrev cX6_areMeasures : ByteArray := prog_1_method_23_code
def yX6_areMeasures : MethodName := ⟨RX6, "areMeasures", "(III)Z"⟩
abbrev cX6_hasBit : ByteArray := prog_1_method_24_code
def yX6_hasBit : MethodName := ⟨RX6, "hasBit", "(II)Z"⟩
abbrev cX6_ordered : ByteArray := prog_1_method_25_code
def yX6_ordered : MethodName := ⟨RX6, "ordered", "(JI)I"⟩
abbrev cX6_isDrawn : ByteArray := prog_1_method_26_code
def yX6_isDrawn : MethodName := ⟨RX6, "isDrawn", "(LStoneBeds$Part;)Z"⟩
abbrev cX6_camberOf : ByteArray := prog_1_method_27_code
def yX6_camberOf : MethodName := ⟨RX6, "camberOf", "(LStoneBeds$Part;I)I"⟩
abbrev cX6_draw : ByteArray := prog_1_method_28_code
def yX6_draw : MethodName := ⟨RX6, "draw", "(IIII)I"⟩
abbrev cX6_countWhere : ByteArray := prog_1_method_29_code
def yX6_countWhere : MethodName := ⟨RX6, "countWhere", "(I)I"⟩
abbrev cX6_givePacker : ByteArray := prog_1_method_30_code
def yX6_givePacker : MethodName := ⟨RX6, "givePacker", "(III)V"⟩
abbrev cX6_areParts : ByteArray := prog_1_method_31_code
def yX6_areParts : MethodName := ⟨RX6, "areParts", "(II)Z"⟩
abbrev cX6_areDrawnAndFit : ByteArray := prog_1_method_32_code
def yX6_areDrawnAndFit : MethodName := ⟨RX6, "areDrawnAndFit", "(II)Z"⟩
abbrev cX6_isRight : ByteArray := prog_1_method_33_code
def yX6_isRight : MethodName := ⟨RX6, "isRight", "()Z"⟩
abbrev cX6_strikeWhereItIs : ByteArray := prog_1_method_34_code
def yX6_strikeWhereItIs : MethodName := ⟨RX6, "strikeWhereItIs", "(LStoneBeds$Part;)V"⟩
abbrev cX6_strikeTops : ByteArray := prog_1_method_35_code
def yX6_strikeTops : MethodName := ⟨RX6, "strikeTops", "(LStoneBeds$Pile;)V"⟩
def RX7 : String := "StoneBedsModel"
def TX7 : u_T := fun k => match k with
  | 0 => ("StoneBedsModel", "parts", "I", false)
  | 1 => ("StoneBedsModel", "length", "[I", true)
  | 2 => ("StoneBedsModel", "plan", "[I", true)
  | 3 => ("StoneBedsModel", "weight", "[I", true)
  | 4 => ("StoneBedsModel", "need", "[I", true)
  | 5 => ("StoneBedsModel", "where", "[I", true)
  | 6 => ("StoneBedsModel", "number", "[I", true)
  | 7 => ("StoneBedsModel", "camber", "[I", true)
  | 8 => ("StoneBedsModel", "isDoomed", "[Z", true)
  | 9 => ("StoneBedsModel", "onBed", "[I", true)
  | 10 => ("StoneBedsModel", "bedPart", "[I", true)
  | 11 => ("StoneBedsModel", "ripe", "[I", true)
  | 12 => ("StoneBedsModel", "since", "[I", true)
  | 13 => ("StoneBedsModel", "warm", "I", false)
  | 14 => ("StoneBedsModel", "hour", "I", false)
  | 15 => ("StoneBedsModel", "high", "[I", true)
  | 16 => ("StoneBedsModel", "pile", "[I", true)
  | 17 => ("StoneBedsModel", "loaded", "I", false)
  | 18 => ("StoneBedsModel", "lorry", "[I", true)
  | 19 => ("StoneBedsModel", "trips", "I", false)
  | 20 => ("StoneBedsModel", "castsDone", "I", false)
  | 21 => ("StoneBedsModel", "asked", "I", false)
  | 22 => ("StoneBedsModel", "ask", "[I", true)
  | 23 => ("StoneBedsModel", "fewest", "[I", true)
  | 24 => ("StoneBedsModel", "room", "[I", true)
  | 25 => ("StoneBedsModel", "order", "[I", true)
  | 26 => ("StoneBedsModel", "ordered", "I", false)
  | 27 => ("StoneBedsModel", "sHigh", "[I", true)
  | 28 => ("StoneBedsModel", "sPile", "[I", true)
  | 29 => ("StoneBedsModel", "first", "[I", true)
  | 30 => ("StoneBedsModel", "taken", "[I", true)
  | 31 => ("StoneBedsModel", "takenFrom", "[I", true)
  | 32 => ("StoneBedsModel", "dugFrom", "[I", true)
  | _ => ("StoneBedsModel", "went", "[I", true)
def tyX7 : Nat → FieldType := fun k => match k with
  | 0 => .int
  | 1 => .array .int
  | 2 => .array .int
  | 3 => .array .int
  | 4 => .array .int
  | 5 => .array .int
  | 6 => .array .int
  | 7 => .array .int
  | 8 => .array .boolean
  | 9 => .array .int
  | 10 => .array .int
  | 11 => .array .int
  | 12 => .array .int
  | 13 => .int
  | 14 => .int
  | 15 => .array .int
  | 16 => .array .int
  | 17 => .int
  | 18 => .array .int
  | 19 => .int
  | 20 => .int
  | 21 => .int
  | 22 => .array .int
  | 23 => .array .int
  | 24 => .array .int
  | 25 => .array .int
  | 26 => .int
  | 27 => .array .int
  | 28 => .array .int
  | 29 => .array .int
  | 30 => .array .int
  | 31 => .array .int
  | 32 => .array .int
  | _ => .array .int
abbrev wsX70 : List Cond := u_ws RX7 TX7 34
theorem nmX7 : ∀ a, a < 34 → ∀ b, b < 34 → a ≠ b → (TX7 a).2.1 ≠ (TX7 b).2.1 := by decide +kernel
theorem tyX7_ok : ∀ k, k < 34 → parseFieldDescriptor (TX7 k).2.2.1 = some (tyX7 k) := by decide +kernel
abbrev cX7_init : ByteArray := prog_9_method_1_code
def yX7_init : MethodName := ⟨RX7, "<init>", "()V"⟩
abbrev cX7_in : ByteArray := prog_9_method_2_code
def yX7_in : MethodName := ⟨RX7, "in", "(JJJ)Z"⟩
abbrev cX7_isPart : ByteArray := prog_9_method_3_code
def yX7_isPart : MethodName := ⟨RX7, "isPart", "(I)Z"⟩
abbrev cX7_areWell : ByteArray := prog_9_method_4_code
def yX7_areWell : MethodName := ⟨RX7, "areWell", "(III)Z"⟩
abbrev cX7_comes : ByteArray := prog_9_method_5_code
def yX7_comes : MethodName := ⟨RX7, "comes", "(IIII)I"⟩
abbrev cX7_part : ByteArray := prog_9_method_6_code
def yX7_part : MethodName := ⟨RX7, "part", "(III)I"⟩
abbrev cX7_need : ByteArray := prog_9_method_7_code
def yX7_need : MethodName := ⟨RX7, "need", "(II)I"⟩
abbrev cX7_fits : ByteArray := prog_9_method_8_code
def yX7_fits : MethodName := ⟨RX7, "fits", "(I)Z"⟩
abbrev cX7_fewestCasts : ByteArray := prog_9_method_9_code
def yX7_fewestCasts : MethodName := ⟨RX7, "fewestCasts", "()I"⟩
abbrev cX7_plainCasts : ByteArray := prog_9_method_10_code
def yX7_plainCasts : MethodName := ⟨RX7, "plainCasts", "()I"⟩
abbrev cX7_casts : ByteArray := prog_9_method_11_code
def yX7_casts : MethodName := ⟨RX7, "casts", "(III)I"⟩
abbrev cX7_cast : ByteArray := prog_9_method_12_code
def yX7_cast : MethodName := ⟨RX7, "cast", "(III)I"⟩
abbrev cX7_warmth : ByteArray := prog_9_method_13_code
def yX7_warmth : MethodName := ⟨RX7, "warmth", "(I)I"⟩
abbrev cX7_hours : ByteArray := prog_9_method_14_code
def yX7_hours : MethodName := ⟨RX7, "hours", "(I)I"⟩
abbrev cX7_letGo : ByteArray := prog_9_method_15_code
def yX7_letGo : MethodName := ⟨RX7, "letGo", "(I)I"⟩
abbrev cX7_isStack : ByteArray := prog_9_method_16_code
def yX7_isStack : MethodName := ⟨RX7, "isStack", "(I)Z"⟩
abbrev cX7_clears : ByteArray := prog_9_method_17_code
def yX7_clears : MethodName := ⟨RX7, "clears", "(I)V"⟩
abbrev cX7_lays : ByteArray := prog_9_method_18_code
def yX7_lays : MethodName := ⟨RX7, "lays", "(II)V"⟩
abbrev cX7_stack : ByteArray := prog_9_method_19_code
def yX7_stack : MethodName := ⟨RX7, "stack", "(II)I"⟩
abbrev cX7_move : ByteArray := prog_9_method_20_code
def yX7_move : MethodName := ⟨RX7, "move", "(II)I"⟩
abbrev cX7_takes : ByteArray := prog_9_method_21_code
def yX7_takes : MethodName := ⟨RX7, "takes", "(I)I"⟩
abbrev cX7_gives : ByteArray := prog_9_method_22_code
def yX7_gives : MethodName := ⟨RX7, "gives", "(I)V"⟩
abbrev cX7_carries : ByteArray := prog_9_method_23_code
def yX7_carries : MethodName := ⟨RX7, "carries", "(II)V"⟩
abbrev cX7_does : ByteArray := prog_9_method_24_code
def yX7_does : MethodName := ⟨RX7, "does", "(I)Z"⟩
abbrev cX7_lies : ByteArray := prog_9_method_25_code
def yX7_lies : MethodName := ⟨RX7, "lies", "()V"⟩
abbrev cX7_stackOf : ByteArray := prog_9_method_26_code
def yX7_stackOf : MethodName := ⟨RX7, "stackOf", "(I)I"⟩
abbrev cX7_diggings : ByteArray := prog_9_method_27_code
def yX7_diggings : MethodName := ⟨RX7, "diggings", "(IJ)I"⟩
abbrev cX7_front : ByteArray := prog_9_method_28_code
def yX7_front : MethodName := ⟨RX7, "front", "()I"⟩
abbrev cX7_rear : ByteArray := prog_9_method_29_code
def yX7_rear : MethodName := ⟨RX7, "rear", "()I"⟩
abbrev cX7_heavy : ByteArray := prog_9_method_30_code
def yX7_heavy : MethodName := ⟨RX7, "heavy", "()I"⟩
abbrev cX7_load : ByteArray := prog_9_method_31_code
def yX7_load : MethodName := ⟨RX7, "load", "(I)I"⟩
abbrev cX7_go : ByteArray := prog_9_method_32_code
def yX7_go : MethodName := ⟨RX7, "go", "()I"⟩
abbrev cX7_lorry : ByteArray := prog_9_method_33_code
def yX7_lorry : MethodName := ⟨RX7, "lorry", "(I)I"⟩
abbrev cX7_isRight : ByteArray := prog_9_method_34_code
def yX7_isRight : MethodName := ⟨RX7, "isRight", "()Z"⟩
abbrev cX7_change : ByteArray := prog_9_method_35_code
def yX7_change : MethodName := ⟨RX7, "change", "(IIII)I"⟩
abbrev cX7_gets : ByteArray := prog_9_method_36_code
def yX7_gets : MethodName := ⟨RX7, "gets", "(IIII)V"⟩
abbrev cX7_told : ByteArray := prog_9_method_37_code
def yX7_told : MethodName := ⟨RX7, "told", "(II)I"⟩
abbrev cX7_at : ByteArray := prog_9_method_38_code
def yX7_at : MethodName := ⟨RX7, "at", "(II)I"⟩
abbrev cX7_bed : ByteArray := prog_9_method_39_code
def yX7_bed : MethodName := ⟨RX7, "bed", "(II)I"⟩
abbrev cX7_count : ByteArray := prog_9_method_40_code
def yX7_count : MethodName := ⟨RX7, "count", "(I)I"⟩
def RJ9 : String := "java/lang/Math"
def TJ9 : u_T := fun k => match k with
  | _ => ("", "", "", false)
def tyJ9 : Nat → FieldType := fun k => match k with
  | _ => .int
abbrev wsJ90 : List Cond := u_ws RJ9 TJ9 0
theorem nmJ9 : ∀ a, a < 0 → ∀ b, b < 0 → a ≠ b → (TJ9 a).2.1 ≠ (TJ9 b).2.1 := by decide +kernel
theorem tyJ9_ok : ∀ k, k < 0 → parseFieldDescriptor (TJ9 k).2.2.1 = some (tyJ9 k) := by decide +kernel
abbrev cJ9_max_7cf53 : ByteArray := prog_10_method_65_code
def yJ9_max_7cf53 : MethodName := ⟨RJ9, "max", "(II)I"⟩
def RL : String := "StoneBedsLaw"
abbrev cL_law : ByteArray := code
def yL_law : MethodName := ⟨RL, "law", "([I)Z"⟩
abbrev vwCl : List vw_C := [(RX0, TX0, 4), (RX1, TX1, 4), (RX2, TX2, 5), (RX3, TX3, 4), (RX4, TX4, 8), (RX5, TX5, 2), (RX6, TX6, 11), (RX7, TX7, 34)]
end
section
theorem dX0_init_0 : decode cX0_init 0 = .ok (.aload_n 0, 1) := by decide +kernel
theorem dX0_init_1 : decode cX0_init 1 = .ok (.invokespecial 3, 3) := by decide +kernel
theorem dX0_init_4 : decode cX0_init 4 = .ok (.return_, 1) := by decide +kernel
theorem dX0_take_0 : decode cX0_take 0 = .ok (.aload_n 0, 1) := by decide +kernel
theorem dX0_take_1 : decode cX0_take 1 = .ok (.dup, 1) := by decide +kernel
theorem dX0_take_2 : decode cX0_take 2 = .ok (.getfield 9, 3) := by decide +kernel
theorem dX0_take_5 : decode cX0_take 5 = .ok (.aload_n 0, 1) := by decide +kernel
theorem dX0_take_6 : decode cX0_take 6 = .ok (.getfield 15, 3) := by decide +kernel
theorem dX0_take_9 : decode cX0_take 9 = .ok (.ifCond .ne 7, 3) := by decide +kernel
theorem dX0_take_12 : decode cX0_take 12 = .ok (.iload_n 1, 1) := by decide +kernel
theorem dX0_take_13 : decode cX0_take 13 = .ok (.goto 6, 3) := by decide +kernel
theorem dX0_take_16 : decode cX0_take 16 = .ok (.iconst 4, 1) := by decide +kernel
theorem dX0_take_17 : decode cX0_take 17 = .ok (.iload_n 1, 1) := by decide +kernel
theorem dX0_take_18 : decode cX0_take 18 = .ok (.iadd, 1) := by decide +kernel
theorem dX0_take_19 : decode cX0_take 19 = .ok (.iadd, 1) := by decide +kernel
theorem dX0_take_20 : decode cX0_take 20 = .ok (.putfield 9, 3) := by decide +kernel
theorem dX0_take_23 : decode cX0_take 23 = .ok (.aload_n 0, 1) := by decide +kernel
theorem dX0_take_24 : decode cX0_take 24 = .ok (.dup, 1) := by decide +kernel
theorem dX0_take_25 : decode cX0_take 25 = .ok (.getfield 15, 3) := by decide +kernel
theorem dX0_take_28 : decode cX0_take 28 = .ok (.iconst 1, 1) := by decide +kernel
theorem dX0_take_29 : decode cX0_take 29 = .ok (.iadd, 1) := by decide +kernel
theorem dX0_take_30 : decode cX0_take 30 = .ok (.putfield 15, 3) := by decide +kernel
theorem dX0_take_33 : decode cX0_take 33 = .ok (.aload_n 0, 1) := by decide +kernel
theorem dX0_take_34 : decode cX0_take 34 = .ok (.iload_n 2, 1) := by decide +kernel
theorem dX0_take_35 : decode cX0_take 35 = .ok (.putfield 18, 3) := by decide +kernel
theorem dX0_take_38 : decode cX0_take 38 = .ok (.return_, 1) := by decide +kernel
theorem dX0_clear_0 : decode cX0_clear 0 = .ok (.aload_n 0, 1) := by decide +kernel
theorem dX0_clear_1 : decode cX0_clear 1 = .ok (.iconst 0, 1) := by decide +kernel
theorem dX0_clear_2 : decode cX0_clear 2 = .ok (.putfield 15, 3) := by decide +kernel
theorem dX0_clear_5 : decode cX0_clear 5 = .ok (.aload_n 0, 1) := by decide +kernel
theorem dX0_clear_6 : decode cX0_clear 6 = .ok (.iconst 0, 1) := by decide +kernel
theorem dX0_clear_7 : decode cX0_clear 7 = .ok (.putfield 9, 3) := by decide +kernel
theorem dX0_clear_10 : decode cX0_clear 10 = .ok (.aload_n 0, 1) := by decide +kernel
theorem dX0_clear_11 : decode cX0_clear 11 = .ok (.iconst 0, 1) := by decide +kernel
theorem dX0_clear_12 : decode cX0_clear 12 = .ok (.putfield 21, 3) := by decide +kernel
theorem dX0_clear_15 : decode cX0_clear 15 = .ok (.return_, 1) := by decide +kernel
theorem dX1_init_0 : decode cX1_init 0 = .ok (.aload_n 0, 1) := by decide +kernel
theorem dX1_init_1 : decode cX1_init 1 = .ok (.invokespecial 3, 3) := by decide +kernel
theorem dX1_init_4 : decode cX1_init 4 = .ok (.aload_n 0, 1) := by decide +kernel
theorem dX1_init_5 : decode cX1_init 5 = .ok (.iconst 5, 1) := by decide +kernel
theorem dX1_init_6 : decode cX1_init 6 = .ok (.anewarray 9, 3) := by decide +kernel
theorem dX1_init_9 : decode cX1_init 9 = .ok (.putfield 11, 3) := by decide +kernel
theorem dX1_init_12 : decode cX1_init 12 = .ok (.aload_n 0, 1) := by decide +kernel
theorem dX1_init_13 : decode cX1_init 13 = .ok (.bipush 40, 2) := by decide +kernel
theorem dX1_init_15 : decode cX1_init 15 = .ok (.newarray .int, 2) := by decide +kernel
theorem dX1_init_17 : decode cX1_init 17 = .ok (.putfield 17, 3) := by decide +kernel
theorem dX1_init_20 : decode cX1_init 20 = .ok (.aload_n 0, 1) := by decide +kernel
theorem dX1_init_21 : decode cX1_init 21 = .ok (.bipush 6, 2) := by decide +kernel
theorem dX1_init_23 : decode cX1_init 23 = .ok (.newarray .int, 2) := by decide +kernel
theorem dX1_init_25 : decode cX1_init 25 = .ok (.putfield 21, 3) := by decide +kernel
theorem dX1_init_28 : decode cX1_init 28 = .ok (.iconst 0, 1) := by decide +kernel
theorem dX1_init_29 : decode cX1_init 29 = .ok (.istore_n 1, 1) := by decide +kernel
theorem dX1_init_30 : decode cX1_init 30 = .ok (.iload_n 1, 1) := by decide +kernel
theorem dX1_init_31 : decode cX1_init 31 = .ok (.aload_n 0, 1) := by decide +kernel
theorem dX1_init_32 : decode cX1_init 32 = .ok (.getfield 11, 3) := by decide +kernel
theorem dX1_init_35 : decode cX1_init 35 = .ok (.arraylength, 1) := by decide +kernel
theorem dX1_init_36 : decode cX1_init 36 = .ok (.if_icmp .ge 22, 3) := by decide +kernel
theorem dX1_init_39 : decode cX1_init 39 = .ok (.aload_n 0, 1) := by decide +kernel
theorem dX1_init_40 : decode cX1_init 40 = .ok (.getfield 11, 3) := by decide +kernel
theorem dX1_init_43 : decode cX1_init 43 = .ok (.iload_n 1, 1) := by decide +kernel
theorem dX1_init_44 : decode cX1_init 44 = .ok (.new 9, 3) := by decide +kernel
theorem dX1_init_47 : decode cX1_init 47 = .ok (.dup, 1) := by decide +kernel
theorem dX1_init_48 : decode cX1_init 48 = .ok (.invokespecial 24, 3) := by decide +kernel
theorem dX1_init_51 : decode cX1_init 51 = .ok (.aastore, 1) := by decide +kernel
theorem dX1_init_52 : decode cX1_init 52 = .ok (.iinc 1 1, 3) := by decide +kernel
theorem dX1_init_55 : decode cX1_init 55 = .ok (.goto (-25), 3) := by decide +kernel
theorem dX1_init_58 : decode cX1_init 58 = .ok (.return_, 1) := by decide +kernel
theorem dX1_clear_0 : decode cX1_clear 0 = .ok (.iconst 0, 1) := by decide +kernel
theorem dX1_clear_1 : decode cX1_clear 1 = .ok (.istore_n 1, 1) := by decide +kernel
theorem dX1_clear_2 : decode cX1_clear 2 = .ok (.iload_n 1, 1) := by decide +kernel
theorem dX1_clear_3 : decode cX1_clear 3 = .ok (.aload_n 0, 1) := by decide +kernel
theorem dX1_clear_4 : decode cX1_clear 4 = .ok (.getfield 17, 3) := by decide +kernel
theorem dX1_clear_7 : decode cX1_clear 7 = .ok (.arraylength, 1) := by decide +kernel
theorem dX1_clear_8 : decode cX1_clear 8 = .ok (.if_icmp .ge 17, 3) := by decide +kernel
theorem dX1_clear_11 : decode cX1_clear 11 = .ok (.aload_n 0, 1) := by decide +kernel
theorem dX1_clear_12 : decode cX1_clear 12 = .ok (.getfield 17, 3) := by decide +kernel
theorem dX1_clear_15 : decode cX1_clear 15 = .ok (.iload_n 1, 1) := by decide +kernel
theorem dX1_clear_16 : decode cX1_clear 16 = .ok (.bipush 6, 2) := by decide +kernel
theorem dX1_clear_18 : decode cX1_clear 18 = .ok (.iastore, 1) := by decide +kernel
theorem dX1_clear_19 : decode cX1_clear 19 = .ok (.iinc 1 1, 3) := by decide +kernel
theorem dX1_clear_22 : decode cX1_clear 22 = .ok (.goto (-20), 3) := by decide +kernel
theorem dX1_clear_25 : decode cX1_clear 25 = .ok (.aload_n 0, 1) := by decide +kernel
theorem dX1_clear_26 : decode cX1_clear 26 = .ok (.iconst 0, 1) := by decide +kernel
theorem dX1_clear_27 : decode cX1_clear 27 = .ok (.putfield 25, 3) := by decide +kernel
theorem dX1_clear_30 : decode cX1_clear 30 = .ok (.return_, 1) := by decide +kernel
theorem dX1_wants_0 : decode cX1_wants 0 = .ok (.iload_n 1, 1) := by decide +kernel
theorem dX1_wants_1 : decode cX1_wants 1 = .ok (.ifCond .lt 23, 3) := by decide +kernel
theorem dX1_wants_4 : decode cX1_wants 4 = .ok (.iload_n 1, 1) := by decide +kernel
theorem dX1_wants_5 : decode cX1_wants 5 = .ok (.aload_n 0, 1) := by decide +kernel
theorem dX1_wants_6 : decode cX1_wants 6 = .ok (.getfield 17, 3) := by decide +kernel
theorem dX1_wants_9 : decode cX1_wants 9 = .ok (.arraylength, 1) := by decide +kernel
theorem dX1_wants_10 : decode cX1_wants 10 = .ok (.if_icmp .ge 14, 3) := by decide +kernel
theorem dX1_wants_13 : decode cX1_wants 13 = .ok (.aload_n 0, 1) := by decide +kernel
theorem dX1_wants_14 : decode cX1_wants 14 = .ok (.getfield 17, 3) := by decide +kernel
theorem dX1_wants_17 : decode cX1_wants 17 = .ok (.iload_n 1, 1) := by decide +kernel
theorem dX1_wants_18 : decode cX1_wants 18 = .ok (.iaload, 1) := by decide +kernel
theorem dX1_wants_19 : decode cX1_wants 19 = .ok (.bipush 6, 2) := by decide +kernel
theorem dX1_wants_21 : decode cX1_wants 21 = .ok (.if_icmp .ge 5, 3) := by decide +kernel
theorem dX1_wants_24 : decode cX1_wants 24 = .ok (.iconst 0, 1) := by decide +kernel
theorem dX1_wants_25 : decode cX1_wants 25 = .ok (.ireturn, 1) := by decide +kernel
theorem dX1_wants_26 : decode cX1_wants 26 = .ok (.aload_n 0, 1) := by decide +kernel
theorem dX1_wants_27 : decode cX1_wants 27 = .ok (.getfield 17, 3) := by decide +kernel
theorem dX1_wants_30 : decode cX1_wants 30 = .ok (.iload_n 1, 1) := by decide +kernel
theorem dX1_wants_31 : decode cX1_wants 31 = .ok (.aload_n 0, 1) := by decide +kernel
theorem dX1_wants_32 : decode cX1_wants 32 = .ok (.getfield 25, 3) := by decide +kernel
theorem dX1_wants_35 : decode cX1_wants 35 = .ok (.iastore, 1) := by decide +kernel
theorem dX1_wants_36 : decode cX1_wants 36 = .ok (.aload_n 0, 1) := by decide +kernel
theorem dX1_wants_37 : decode cX1_wants 37 = .ok (.dup, 1) := by decide +kernel
theorem dX1_wants_38 : decode cX1_wants 38 = .ok (.getfield 25, 3) := by decide +kernel
theorem dX1_wants_41 : decode cX1_wants 41 = .ok (.iconst 1, 1) := by decide +kernel
theorem dX1_wants_42 : decode cX1_wants 42 = .ok (.iadd, 1) := by decide +kernel
theorem dX1_wants_43 : decode cX1_wants 43 = .ok (.putfield 25, 3) := by decide +kernel
theorem dX1_wants_46 : decode cX1_wants 46 = .ok (.iconst 1, 1) := by decide +kernel
theorem dX1_wants_47 : decode cX1_wants 47 = .ok (.ireturn, 1) := by decide +kernel
theorem dX1_copyStack_0 : decode cX1_copyStack 0 = .ok (.aload_n 0, 1) := by decide +kernel
theorem dX1_copyStack_1 : decode cX1_copyStack 1 = .ok (.iload_n 1, 1) := by decide +kernel
theorem dX1_copyStack_2 : decode cX1_copyStack 2 = .ok (.invokevirtual 29, 3) := by decide +kernel
theorem dX1_copyStack_5 : decode cX1_copyStack 5 = .ok (.astore_n 3, 1) := by decide +kernel
theorem dX1_copyStack_6 : decode cX1_copyStack 6 = .ok (.aload_n 3, 1) := by decide +kernel
theorem dX1_copyStack_7 : decode cX1_copyStack 7 = .ok (.ifnull 7, 3) := by decide +kernel
theorem dX1_copyStack_10 : decode cX1_copyStack 10 = .ok (.aload_n 2, 1) := by decide +kernel
theorem dX1_copyStack_11 : decode cX1_copyStack 11 = .ok (.ifnonnull 4, 3) := by decide +kernel
theorem dX1_copyStack_14 : decode cX1_copyStack 14 = .ok (.return_, 1) := by decide +kernel
theorem dX1_copyStack_15 : decode cX1_copyStack 15 = .ok (.aload_n 3, 1) := by decide +kernel
theorem dX1_copyStack_16 : decode cX1_copyStack 16 = .ok (.invokevirtual 33, 3) := by decide +kernel
theorem dX1_copyStack_19 : decode cX1_copyStack 19 = .ok (.iconst 0, 1) := by decide +kernel
theorem dX1_copyStack_20 : decode cX1_copyStack 20 = .ok (.istore 4, 2) := by decide +kernel
theorem dX1_copyStack_22 : decode cX1_copyStack 22 = .ok (.iload 4, 2) := by decide +kernel
theorem dX1_copyStack_24 : decode cX1_copyStack 24 = .ok (.aload_n 2, 1) := by decide +kernel
theorem dX1_copyStack_25 : decode cX1_copyStack 25 = .ok (.getfield 36, 3) := by decide +kernel
theorem dX1_copyStack_28 : decode cX1_copyStack 28 = .ok (.if_icmp .ge 48, 3) := by decide +kernel
theorem dX1_copyStack_31 : decode cX1_copyStack 31 = .ok (.aload_n 2, 1) := by decide +kernel
theorem dX1_copyStack_32 : decode cX1_copyStack 32 = .ok (.iload 4, 2) := by decide +kernel
theorem dX1_copyStack_34 : decode cX1_copyStack 34 = .ok (.invokevirtual 39, 3) := by decide +kernel
theorem dX1_copyStack_37 : decode cX1_copyStack 37 = .ok (.istore 5, 2) := by decide +kernel
theorem dX1_copyStack_39 : decode cX1_copyStack 39 = .ok (.aload_n 3, 1) := by decide +kernel
theorem dX1_copyStack_40 : decode cX1_copyStack 40 = .ok (.iload 5, 2) := by decide +kernel
theorem dX1_copyStack_42 : decode cX1_copyStack 42 = .ok (.ifCond .lt 13, 3) := by decide +kernel
theorem dX1_copyStack_45 : decode cX1_copyStack 45 = .ok (.iload 5, 2) := by decide +kernel
theorem dX1_copyStack_47 : decode cX1_copyStack 47 = .ok (.aload_n 0, 1) := by decide +kernel
theorem dX1_copyStack_48 : decode cX1_copyStack 48 = .ok (.getfield 17, 3) := by decide +kernel
theorem dX1_copyStack_51 : decode cX1_copyStack 51 = .ok (.arraylength, 1) := by decide +kernel
theorem dX1_copyStack_52 : decode cX1_copyStack 52 = .ok (.if_icmp .lt 8, 3) := by decide +kernel
theorem dX1_copyStack_55 : decode cX1_copyStack 55 = .ok (.bipush 6, 2) := by decide +kernel
theorem dX1_copyStack_57 : decode cX1_copyStack 57 = .ok (.goto 10, 3) := by decide +kernel
theorem dX1_copyStack_60 : decode cX1_copyStack 60 = .ok (.aload_n 0, 1) := by decide +kernel
theorem dX1_copyStack_61 : decode cX1_copyStack 61 = .ok (.getfield 17, 3) := by decide +kernel
theorem dX1_copyStack_64 : decode cX1_copyStack 64 = .ok (.iload 5, 2) := by decide +kernel
theorem dX1_copyStack_66 : decode cX1_copyStack 66 = .ok (.iaload, 1) := by decide +kernel
theorem dX1_copyStack_67 : decode cX1_copyStack 67 = .ok (.invokevirtual 43, 3) := by decide +kernel
theorem dX1_copyStack_70 : decode cX1_copyStack 70 = .ok (.iinc 4 1, 3) := by decide +kernel
theorem dX1_copyStack_73 : decode cX1_copyStack 73 = .ok (.goto (-51), 3) := by decide +kernel
theorem dX1_copyStack_76 : decode cX1_copyStack 76 = .ok (.return_, 1) := by decide +kernel
theorem dX1_fewestMoves_0 : decode cX1_fewestMoves 0 = .ok (.aload_n 0, 1) := by decide +kernel
theorem dX1_fewestMoves_1 : decode cX1_fewestMoves 1 = .ok (.invokevirtual 47, 3) := by decide +kernel
theorem dX1_fewestMoves_4 : decode cX1_fewestMoves 4 = .ok (.istore_n 1, 1) := by decide +kernel
theorem dX1_fewestMoves_5 : decode cX1_fewestMoves 5 = .ok (.iload_n 1, 1) := by decide +kernel
theorem dX1_fewestMoves_6 : decode cX1_fewestMoves 6 = .ok (.bipush 18, 2) := by decide +kernel
theorem dX1_fewestMoves_8 : decode cX1_fewestMoves 8 = .ok (.if_icmp .ge 18, 3) := by decide +kernel
theorem dX1_fewestMoves_11 : decode cX1_fewestMoves 11 = .ok (.aload_n 0, 1) := by decide +kernel
theorem dX1_fewestMoves_12 : decode cX1_fewestMoves 12 = .ok (.iconst 0, 1) := by decide +kernel
theorem dX1_fewestMoves_13 : decode cX1_fewestMoves 13 = .ok (.iload_n 1, 1) := by decide +kernel
theorem dX1_fewestMoves_14 : decode cX1_fewestMoves 14 = .ok (.invokevirtual 51, 3) := by decide +kernel
theorem dX1_fewestMoves_17 : decode cX1_fewestMoves 17 = .ok (.ifCond .ne 9, 3) := by decide +kernel
theorem dX1_fewestMoves_20 : decode cX1_fewestMoves 20 = .ok (.iinc 1 1, 3) := by decide +kernel
theorem dX1_fewestMoves_23 : decode cX1_fewestMoves 23 = .ok (.goto (-18), 3) := by decide +kernel
theorem dX1_fewestMoves_26 : decode cX1_fewestMoves 26 = .ok (.iload_n 1, 1) := by decide +kernel
theorem dX1_fewestMoves_27 : decode cX1_fewestMoves 27 = .ok (.ireturn, 1) := by decide +kernel
theorem dX1_pileOf_0 : decode cX1_pileOf 0 = .ok (.iload_n 1, 1) := by decide +kernel
theorem dX1_pileOf_1 : decode cX1_pileOf 1 = .ok (.ifCond .lt 12, 3) := by decide +kernel
theorem dX1_pileOf_4 : decode cX1_pileOf 4 = .ok (.iload_n 1, 1) := by decide +kernel
theorem dX1_pileOf_5 : decode cX1_pileOf 5 = .ok (.aload_n 0, 1) := by decide +kernel
theorem dX1_pileOf_6 : decode cX1_pileOf 6 = .ok (.getfield 11, 3) := by decide +kernel
theorem dX1_pileOf_9 : decode cX1_pileOf 9 = .ok (.arraylength, 1) := by decide +kernel
theorem dX1_pileOf_10 : decode cX1_pileOf 10 = .ok (.if_icmp .lt 7, 3) := by decide +kernel
theorem dX1_pileOf_13 : decode cX1_pileOf 13 = .ok (.aconst_null, 1) := by decide +kernel
theorem dX1_pileOf_14 : decode cX1_pileOf 14 = .ok (.goto 9, 3) := by decide +kernel
theorem dX1_pileOf_17 : decode cX1_pileOf 17 = .ok (.aload_n 0, 1) := by decide +kernel
theorem dX1_pileOf_18 : decode cX1_pileOf 18 = .ok (.getfield 11, 3) := by decide +kernel
theorem dX1_pileOf_21 : decode cX1_pileOf 21 = .ok (.iload_n 1, 1) := by decide +kernel
theorem dX1_pileOf_22 : decode cX1_pileOf 22 = .ok (.aaload, 1) := by decide +kernel
theorem dX1_pileOf_23 : decode cX1_pileOf 23 = .ok (.areturn, 1) := by decide +kernel
theorem dX1_reaches_0 : decode cX1_reaches 0 = .ok (.iload_n 1, 1) := by decide +kernel
theorem dX1_reaches_1 : decode cX1_reaches 1 = .ok (.istore_n 3, 1) := by decide +kernel
theorem dX1_reaches_2 : decode cX1_reaches 2 = .ok (.aload_n 0, 1) := by decide +kernel
theorem dX1_reaches_3 : decode cX1_reaches 3 = .ok (.iload_n 3, 1) := by decide +kernel
theorem dX1_reaches_4 : decode cX1_reaches 4 = .ok (.invokevirtual 55, 3) := by decide +kernel
theorem dX1_reaches_7 : decode cX1_reaches 7 = .ok (.istore 4, 2) := by decide +kernel
theorem dX1_reaches_9 : decode cX1_reaches 9 = .ok (.iload_n 3, 1) := by decide +kernel
theorem dX1_reaches_10 : decode cX1_reaches 10 = .ok (.aload_n 0, 1) := by decide +kernel
theorem dX1_reaches_11 : decode cX1_reaches 11 = .ok (.getfield 25, 3) := by decide +kernel
theorem dX1_reaches_14 : decode cX1_reaches 14 = .ok (.if_icmp .ge 45, 3) := by decide +kernel
theorem dX1_reaches_17 : decode cX1_reaches 17 = .ok (.aload_n 0, 1) := by decide +kernel
theorem dX1_reaches_18 : decode cX1_reaches 18 = .ok (.iload 4, 2) := by decide +kernel
theorem dX1_reaches_20 : decode cX1_reaches 20 = .ok (.iload_n 3, 1) := by decide +kernel
theorem dX1_reaches_21 : decode cX1_reaches 21 = .ok (.invokevirtual 58, 3) := by decide +kernel
theorem dX1_reaches_24 : decode cX1_reaches 24 = .ok (.ifCond .eq 35, 3) := by decide +kernel
theorem dX1_reaches_27 : decode cX1_reaches 27 = .ok (.aload_n 0, 1) := by decide +kernel
theorem dX1_reaches_28 : decode cX1_reaches 28 = .ok (.getfield 21, 3) := by decide +kernel
theorem dX1_reaches_31 : decode cX1_reaches 31 = .ok (.iload_n 3, 1) := by decide +kernel
theorem dX1_reaches_32 : decode cX1_reaches 32 = .ok (.iload 4, 2) := by decide +kernel
theorem dX1_reaches_34 : decode cX1_reaches 34 = .ok (.iastore, 1) := by decide +kernel
theorem dX1_reaches_35 : decode cX1_reaches 35 = .ok (.aload_n 0, 1) := by decide +kernel
theorem dX1_reaches_36 : decode cX1_reaches 36 = .ok (.getfield 11, 3) := by decide +kernel
theorem dX1_reaches_39 : decode cX1_reaches 39 = .ok (.iload 4, 2) := by decide +kernel
theorem dX1_reaches_41 : decode cX1_reaches 41 = .ok (.aaload, 1) := by decide +kernel
theorem dX1_reaches_42 : decode cX1_reaches 42 = .ok (.invokevirtual 61, 3) := by decide +kernel
theorem dX1_reaches_45 : decode cX1_reaches 45 = .ok (.pop, 1) := by decide +kernel
theorem dX1_reaches_46 : decode cX1_reaches 46 = .ok (.iinc 3 1, 3) := by decide +kernel
theorem dX1_reaches_49 : decode cX1_reaches 49 = .ok (.aload_n 0, 1) := by decide +kernel
theorem dX1_reaches_50 : decode cX1_reaches 50 = .ok (.iload_n 3, 1) := by decide +kernel
theorem dX1_reaches_51 : decode cX1_reaches 51 = .ok (.invokevirtual 55, 3) := by decide +kernel
theorem dX1_reaches_54 : decode cX1_reaches 54 = .ok (.istore 4, 2) := by decide +kernel
theorem dX1_reaches_56 : decode cX1_reaches 56 = .ok (.goto (-47), 3) := by decide +kernel
theorem dX1_reaches_59 : decode cX1_reaches 59 = .ok (.iload_n 3, 1) := by decide +kernel
theorem dX1_reaches_60 : decode cX1_reaches 60 = .ok (.aload_n 0, 1) := by decide +kernel
theorem dX1_reaches_61 : decode cX1_reaches 61 = .ok (.getfield 25, 3) := by decide +kernel
theorem dX1_reaches_64 : decode cX1_reaches 64 = .ok (.if_icmp .ge 26, 3) := by decide +kernel
theorem dX1_reaches_67 : decode cX1_reaches 67 = .ok (.iload_n 2, 1) := by decide +kernel
theorem dX1_reaches_68 : decode cX1_reaches 68 = .ok (.ifCond .le 24, 3) := by decide +kernel
theorem dX1_reaches_71 : decode cX1_reaches 71 = .ok (.aload_n 0, 1) := by decide +kernel
theorem dX1_reaches_72 : decode cX1_reaches 72 = .ok (.invokevirtual 47, 3) := by decide +kernel
theorem dX1_reaches_75 : decode cX1_reaches 75 = .ok (.iload_n 2, 1) := by decide +kernel
theorem dX1_reaches_76 : decode cX1_reaches 76 = .ok (.if_icmp .gt 16, 3) := by decide +kernel
theorem dX1_reaches_79 : decode cX1_reaches 79 = .ok (.aload_n 0, 1) := by decide +kernel
theorem dX1_reaches_80 : decode cX1_reaches 80 = .ok (.iload 4, 2) := by decide +kernel
theorem dX1_reaches_82 : decode cX1_reaches 82 = .ok (.iload_n 3, 1) := by decide +kernel
theorem dX1_reaches_83 : decode cX1_reaches 83 = .ok (.iload_n 2, 1) := by decide +kernel
theorem dX1_reaches_84 : decode cX1_reaches 84 = .ok (.invokevirtual 64, 3) := by decide +kernel
theorem dX1_reaches_87 : decode cX1_reaches 87 = .ok (.ifCond .eq 5, 3) := by decide +kernel
theorem dX1_reaches_90 : decode cX1_reaches 90 = .ok (.iconst 1, 1) := by decide +kernel
theorem dX1_reaches_91 : decode cX1_reaches 91 = .ok (.ireturn, 1) := by decide +kernel
theorem dX1_reaches_92 : decode cX1_reaches 92 = .ok (.iload_n 3, 1) := by decide +kernel
theorem dX1_reaches_93 : decode cX1_reaches 93 = .ok (.iconst 1, 1) := by decide +kernel
theorem dX1_reaches_94 : decode cX1_reaches 94 = .ok (.isub, 1) := by decide +kernel
theorem dX1_reaches_95 : decode cX1_reaches 95 = .ok (.istore 5, 2) := by decide +kernel
theorem dX1_reaches_97 : decode cX1_reaches 97 = .ok (.iload 5, 2) := by decide +kernel
theorem dX1_reaches_99 : decode cX1_reaches 99 = .ok (.iload_n 1, 1) := by decide +kernel
theorem dX1_reaches_100 : decode cX1_reaches 100 = .ok (.if_icmp .lt 26, 3) := by decide +kernel
theorem dX1_reaches_103 : decode cX1_reaches 103 = .ok (.aload_n 0, 1) := by decide +kernel
theorem dX1_reaches_104 : decode cX1_reaches 104 = .ok (.getfield 11, 3) := by decide +kernel
theorem dX1_reaches_107 : decode cX1_reaches 107 = .ok (.aload_n 0, 1) := by decide +kernel
theorem dX1_reaches_108 : decode cX1_reaches 108 = .ok (.getfield 21, 3) := by decide +kernel
theorem dX1_reaches_111 : decode cX1_reaches 111 = .ok (.iload 5, 2) := by decide +kernel
theorem dX1_reaches_113 : decode cX1_reaches 113 = .ok (.iaload, 1) := by decide +kernel
theorem dX1_reaches_114 : decode cX1_reaches 114 = .ok (.aaload, 1) := by decide +kernel
theorem dX1_reaches_115 : decode cX1_reaches 115 = .ok (.iload 5, 2) := by decide +kernel
theorem dX1_reaches_117 : decode cX1_reaches 117 = .ok (.invokevirtual 43, 3) := by decide +kernel
theorem dX1_reaches_120 : decode cX1_reaches 120 = .ok (.iinc 5 (-1), 3) := by decide +kernel
theorem dX1_reaches_123 : decode cX1_reaches 123 = .ok (.goto (-26), 3) := by decide +kernel
theorem dX1_reaches_126 : decode cX1_reaches 126 = .ok (.iconst 0, 1) := by decide +kernel
theorem dX1_reaches_127 : decode cX1_reaches 127 = .ok (.ireturn, 1) := by decide +kernel
theorem dX1_digs_0 : decode cX1_digs 0 = .ok (.aload_n 0, 1) := by decide +kernel
theorem dX1_digs_1 : decode cX1_digs 1 = .ok (.iload_n 1, 1) := by decide +kernel
theorem dX1_digs_2 : decode cX1_digs 2 = .ok (.invokevirtual 29, 3) := by decide +kernel
theorem dX1_digs_5 : decode cX1_digs 5 = .ok (.astore 4, 2) := by decide +kernel
theorem dX1_digs_7 : decode cX1_digs 7 = .ok (.aload 4, 2) := by decide +kernel
theorem dX1_digs_9 : decode cX1_digs 9 = .ok (.ifnonnull 5, 3) := by decide +kernel
theorem dX1_digs_12 : decode cX1_digs 12 = .ok (.iconst 0, 1) := by decide +kernel
theorem dX1_digs_13 : decode cX1_digs 13 = .ok (.ireturn, 1) := by decide +kernel
theorem dX1_digs_14 : decode cX1_digs 14 = .ok (.aload 4, 2) := by decide +kernel
theorem dX1_digs_16 : decode cX1_digs 16 = .ok (.invokevirtual 61, 3) := by decide +kernel
theorem dX1_digs_19 : decode cX1_digs 19 = .ok (.istore 5, 2) := by decide +kernel
theorem dX1_digs_21 : decode cX1_digs 21 = .ok (.iconst 0, 1) := by decide +kernel
theorem dX1_digs_22 : decode cX1_digs 22 = .ok (.istore 6, 2) := by decide +kernel
theorem dX1_digs_24 : decode cX1_digs 24 = .ok (.iconst 0, 1) := by decide +kernel
theorem dX1_digs_25 : decode cX1_digs 25 = .ok (.istore 7, 2) := by decide +kernel
theorem dX1_digs_27 : decode cX1_digs 27 = .ok (.iload 7, 2) := by decide +kernel
theorem dX1_digs_29 : decode cX1_digs 29 = .ok (.aload_n 0, 1) := by decide +kernel
theorem dX1_digs_30 : decode cX1_digs 30 = .ok (.getfield 11, 3) := by decide +kernel
theorem dX1_digs_33 : decode cX1_digs 33 = .ok (.arraylength, 1) := by decide +kernel
theorem dX1_digs_34 : decode cX1_digs 34 = .ok (.if_icmp .ge 93, 3) := by decide +kernel
theorem dX1_digs_37 : decode cX1_digs 37 = .ok (.aload_n 0, 1) := by decide +kernel
theorem dX1_digs_38 : decode cX1_digs 38 = .ok (.getfield 11, 3) := by decide +kernel
theorem dX1_digs_41 : decode cX1_digs 41 = .ok (.iload 7, 2) := by decide +kernel
theorem dX1_digs_43 : decode cX1_digs 43 = .ok (.aaload, 1) := by decide +kernel
theorem dX1_digs_44 : decode cX1_digs 44 = .ok (.astore 8, 2) := by decide +kernel
theorem dX1_digs_46 : decode cX1_digs 46 = .ok (.aload 8, 2) := by decide +kernel
theorem dX1_digs_48 : decode cX1_digs 48 = .ok (.aload 4, 2) := by decide +kernel
theorem dX1_digs_50 : decode cX1_digs 50 = .ok (.if_acmp .eq 71, 3) := by decide +kernel
theorem dX1_digs_53 : decode cX1_digs 53 = .ok (.aload 8, 2) := by decide +kernel
theorem dX1_digs_55 : decode cX1_digs 55 = .ok (.invokevirtual 68, 3) := by decide +kernel
theorem dX1_digs_58 : decode cX1_digs 58 = .ok (.ifCond .eq 63, 3) := by decide +kernel
theorem dX1_digs_61 : decode cX1_digs 61 = .ok (.aload 8, 2) := by decide +kernel
theorem dX1_digs_63 : decode cX1_digs 63 = .ok (.getfield 36, 3) := by decide +kernel
theorem dX1_digs_66 : decode cX1_digs 66 = .ok (.ifCond .ne 11, 3) := by decide +kernel
theorem dX1_digs_69 : decode cX1_digs 69 = .ok (.iload 6, 2) := by decide +kernel
theorem dX1_digs_71 : decode cX1_digs 71 = .ok (.ifCond .eq 6, 3) := by decide +kernel
theorem dX1_digs_74 : decode cX1_digs 74 = .ok (.goto 47, 3) := by decide +kernel
theorem dX1_digs_77 : decode cX1_digs 77 = .ok (.iload 6, 2) := by decide +kernel
theorem dX1_digs_79 : decode cX1_digs 79 = .ok (.aload 8, 2) := by decide +kernel
theorem dX1_digs_81 : decode cX1_digs 81 = .ok (.getfield 36, 3) := by decide +kernel
theorem dX1_digs_84 : decode cX1_digs 84 = .ok (.ifCond .ne 7, 3) := by decide +kernel
theorem dX1_digs_87 : decode cX1_digs 87 = .ok (.iconst 1, 1) := by decide +kernel
theorem dX1_digs_88 : decode cX1_digs 88 = .ok (.goto 4, 3) := by decide +kernel
theorem dX1_digs_91 : decode cX1_digs 91 = .ok (.iconst 0, 1) := by decide +kernel
theorem dX1_digs_92 : decode cX1_digs 92 = .ok (.ior, 1) := by decide +kernel
theorem dX1_digs_93 : decode cX1_digs 93 = .ok (.istore 6, 2) := by decide +kernel
theorem dX1_digs_95 : decode cX1_digs 95 = .ok (.aload 8, 2) := by decide +kernel
theorem dX1_digs_97 : decode cX1_digs 97 = .ok (.iload 5, 2) := by decide +kernel
theorem dX1_digs_99 : decode cX1_digs 99 = .ok (.invokevirtual 43, 3) := by decide +kernel
theorem dX1_digs_102 : decode cX1_digs 102 = .ok (.aload_n 0, 1) := by decide +kernel
theorem dX1_digs_103 : decode cX1_digs 103 = .ok (.iload_n 2, 1) := by decide +kernel
theorem dX1_digs_104 : decode cX1_digs 104 = .ok (.iload_n 3, 1) := by decide +kernel
theorem dX1_digs_105 : decode cX1_digs 105 = .ok (.iconst 1, 1) := by decide +kernel
theorem dX1_digs_106 : decode cX1_digs 106 = .ok (.isub, 1) := by decide +kernel
theorem dX1_digs_107 : decode cX1_digs 107 = .ok (.invokevirtual 51, 3) := by decide +kernel
theorem dX1_digs_110 : decode cX1_digs 110 = .ok (.ifCond .eq 5, 3) := by decide +kernel
theorem dX1_digs_113 : decode cX1_digs 113 = .ok (.iconst 1, 1) := by decide +kernel
theorem dX1_digs_114 : decode cX1_digs 114 = .ok (.ireturn, 1) := by decide +kernel
theorem dX1_digs_115 : decode cX1_digs 115 = .ok (.aload 8, 2) := by decide +kernel
theorem dX1_digs_117 : decode cX1_digs 117 = .ok (.invokevirtual 61, 3) := by decide +kernel
theorem dX1_digs_120 : decode cX1_digs 120 = .ok (.pop, 1) := by decide +kernel
theorem dX1_digs_121 : decode cX1_digs 121 = .ok (.iinc 7 1, 3) := by decide +kernel
theorem dX1_digs_124 : decode cX1_digs 124 = .ok (.goto (-97), 3) := by decide +kernel
theorem dX1_digs_127 : decode cX1_digs 127 = .ok (.aload 4, 2) := by decide +kernel
theorem dX1_digs_129 : decode cX1_digs 129 = .ok (.iload 5, 2) := by decide +kernel
theorem dX1_digs_131 : decode cX1_digs 131 = .ok (.invokevirtual 43, 3) := by decide +kernel
theorem dX1_digs_134 : decode cX1_digs 134 = .ok (.iconst 0, 1) := by decide +kernel
theorem dX1_digs_135 : decode cX1_digs 135 = .ok (.ireturn, 1) := by decide +kernel
theorem dX1_isTop_0 : decode cX1_isTop 0 = .ok (.aload_n 0, 1) := by decide +kernel
theorem dX1_isTop_1 : decode cX1_isTop 1 = .ok (.iload_n 1, 1) := by decide +kernel
theorem dX1_isTop_2 : decode cX1_isTop 2 = .ok (.invokevirtual 29, 3) := by decide +kernel
theorem dX1_isTop_5 : decode cX1_isTop 5 = .ok (.astore_n 3, 1) := by decide +kernel
theorem dX1_isTop_6 : decode cX1_isTop 6 = .ok (.aload_n 3, 1) := by decide +kernel
theorem dX1_isTop_7 : decode cX1_isTop 7 = .ok (.ifnull 15, 3) := by decide +kernel
theorem dX1_isTop_10 : decode cX1_isTop 10 = .ok (.aload_n 3, 1) := by decide +kernel
theorem dX1_isTop_11 : decode cX1_isTop 11 = .ok (.invokevirtual 72, 3) := by decide +kernel
theorem dX1_isTop_14 : decode cX1_isTop 14 = .ok (.iload_n 2, 1) := by decide +kernel
theorem dX1_isTop_15 : decode cX1_isTop 15 = .ok (.if_icmp .ne 7, 3) := by decide +kernel
theorem dX1_isTop_18 : decode cX1_isTop 18 = .ok (.iconst 1, 1) := by decide +kernel
theorem dX1_isTop_19 : decode cX1_isTop 19 = .ok (.goto 4, 3) := by decide +kernel
theorem dX1_isTop_22 : decode cX1_isTop 22 = .ok (.iconst 0, 1) := by decide +kernel
theorem dX1_isTop_23 : decode cX1_isTop 23 = .ok (.ireturn, 1) := by decide +kernel
theorem dX1_pileWith_0 : decode cX1_pileWith 0 = .ok (.iconst 0, 1) := by decide +kernel
theorem dX1_pileWith_1 : decode cX1_pileWith 1 = .ok (.istore_n 2, 1) := by decide +kernel
theorem dX1_pileWith_2 : decode cX1_pileWith 2 = .ok (.iload_n 2, 1) := by decide +kernel
theorem dX1_pileWith_3 : decode cX1_pileWith 3 = .ok (.aload_n 0, 1) := by decide +kernel
theorem dX1_pileWith_4 : decode cX1_pileWith 4 = .ok (.getfield 11, 3) := by decide +kernel
theorem dX1_pileWith_7 : decode cX1_pileWith 7 = .ok (.arraylength, 1) := by decide +kernel
theorem dX1_pileWith_8 : decode cX1_pileWith 8 = .ok (.if_icmp .ge 46, 3) := by decide +kernel
theorem dX1_pileWith_11 : decode cX1_pileWith 11 = .ok (.iconst 0, 1) := by decide +kernel
theorem dX1_pileWith_12 : decode cX1_pileWith 12 = .ok (.istore_n 3, 1) := by decide +kernel
theorem dX1_pileWith_13 : decode cX1_pileWith 13 = .ok (.iload_n 3, 1) := by decide +kernel
theorem dX1_pileWith_14 : decode cX1_pileWith 14 = .ok (.aload_n 0, 1) := by decide +kernel
theorem dX1_pileWith_15 : decode cX1_pileWith 15 = .ok (.getfield 11, 3) := by decide +kernel
theorem dX1_pileWith_18 : decode cX1_pileWith 18 = .ok (.iload_n 2, 1) := by decide +kernel
theorem dX1_pileWith_19 : decode cX1_pileWith 19 = .ok (.aaload, 1) := by decide +kernel
theorem dX1_pileWith_20 : decode cX1_pileWith 20 = .ok (.getfield 36, 3) := by decide +kernel
theorem dX1_pileWith_23 : decode cX1_pileWith 23 = .ok (.if_icmp .ge 25, 3) := by decide +kernel
theorem dX1_pileWith_26 : decode cX1_pileWith 26 = .ok (.aload_n 0, 1) := by decide +kernel
theorem dX1_pileWith_27 : decode cX1_pileWith 27 = .ok (.getfield 11, 3) := by decide +kernel
theorem dX1_pileWith_30 : decode cX1_pileWith 30 = .ok (.iload_n 2, 1) := by decide +kernel
theorem dX1_pileWith_31 : decode cX1_pileWith 31 = .ok (.aaload, 1) := by decide +kernel
theorem dX1_pileWith_32 : decode cX1_pileWith 32 = .ok (.iload_n 3, 1) := by decide +kernel
theorem dX1_pileWith_33 : decode cX1_pileWith 33 = .ok (.invokevirtual 39, 3) := by decide +kernel
theorem dX1_pileWith_36 : decode cX1_pileWith 36 = .ok (.iload_n 1, 1) := by decide +kernel
theorem dX1_pileWith_37 : decode cX1_pileWith 37 = .ok (.if_icmp .ne 5, 3) := by decide +kernel
theorem dX1_pileWith_40 : decode cX1_pileWith 40 = .ok (.iload_n 2, 1) := by decide +kernel
theorem dX1_pileWith_41 : decode cX1_pileWith 41 = .ok (.ireturn, 1) := by decide +kernel
theorem dX1_pileWith_42 : decode cX1_pileWith 42 = .ok (.iinc 3 1, 3) := by decide +kernel
theorem dX1_pileWith_45 : decode cX1_pileWith 45 = .ok (.goto (-32), 3) := by decide +kernel
theorem dX1_pileWith_48 : decode cX1_pileWith 48 = .ok (.iinc 2 1, 3) := by decide +kernel
theorem dX1_pileWith_51 : decode cX1_pileWith 51 = .ok (.goto (-49), 3) := by decide +kernel
theorem dX1_pileWith_54 : decode cX1_pileWith 54 = .ok (.bipush (-4), 2) := by decide +kernel
theorem dX1_pileWith_56 : decode cX1_pileWith 56 = .ok (.ireturn, 1) := by decide +kernel
theorem dX1_mustMove_0 : decode cX1_mustMove 0 = .ok (.iconst 0, 1) := by decide +kernel
theorem dX1_mustMove_1 : decode cX1_mustMove 1 = .ok (.istore_n 1, 1) := by decide +kernel
theorem dX1_mustMove_2 : decode cX1_mustMove 2 = .ok (.iconst 0, 1) := by decide +kernel
theorem dX1_mustMove_3 : decode cX1_mustMove 3 = .ok (.istore_n 2, 1) := by decide +kernel
theorem dX1_mustMove_4 : decode cX1_mustMove 4 = .ok (.iload_n 2, 1) := by decide +kernel
theorem dX1_mustMove_5 : decode cX1_mustMove 5 = .ok (.aload_n 0, 1) := by decide +kernel
theorem dX1_mustMove_6 : decode cX1_mustMove 6 = .ok (.getfield 11, 3) := by decide +kernel
theorem dX1_mustMove_9 : decode cX1_mustMove 9 = .ok (.arraylength, 1) := by decide +kernel
theorem dX1_mustMove_10 : decode cX1_mustMove 10 = .ok (.if_icmp .ge 63, 3) := by decide +kernel
theorem dX1_mustMove_13 : decode cX1_mustMove 13 = .ok (.bipush 6, 2) := by decide +kernel
theorem dX1_mustMove_15 : decode cX1_mustMove 15 = .ok (.istore_n 3, 1) := by decide +kernel
theorem dX1_mustMove_16 : decode cX1_mustMove 16 = .ok (.iconst 0, 1) := by decide +kernel
theorem dX1_mustMove_17 : decode cX1_mustMove 17 = .ok (.istore 4, 2) := by decide +kernel
theorem dX1_mustMove_19 : decode cX1_mustMove 19 = .ok (.iload 4, 2) := by decide +kernel
theorem dX1_mustMove_21 : decode cX1_mustMove 21 = .ok (.aload_n 0, 1) := by decide +kernel
theorem dX1_mustMove_22 : decode cX1_mustMove 22 = .ok (.getfield 11, 3) := by decide +kernel
theorem dX1_mustMove_25 : decode cX1_mustMove 25 = .ok (.iload_n 2, 1) := by decide +kernel
theorem dX1_mustMove_26 : decode cX1_mustMove 26 = .ok (.aaload, 1) := by decide +kernel
theorem dX1_mustMove_27 : decode cX1_mustMove 27 = .ok (.getfield 36, 3) := by decide +kernel
theorem dX1_mustMove_30 : decode cX1_mustMove 30 = .ok (.if_icmp .ge 37, 3) := by decide +kernel
theorem dX1_mustMove_33 : decode cX1_mustMove 33 = .ok (.aload_n 0, 1) := by decide +kernel
theorem dX1_mustMove_34 : decode cX1_mustMove 34 = .ok (.getfield 11, 3) := by decide +kernel
theorem dX1_mustMove_37 : decode cX1_mustMove 37 = .ok (.iload_n 2, 1) := by decide +kernel
theorem dX1_mustMove_38 : decode cX1_mustMove 38 = .ok (.aaload, 1) := by decide +kernel
theorem dX1_mustMove_39 : decode cX1_mustMove 39 = .ok (.iload 4, 2) := by decide +kernel
theorem dX1_mustMove_41 : decode cX1_mustMove 41 = .ok (.invokevirtual 39, 3) := by decide +kernel
theorem dX1_mustMove_44 : decode cX1_mustMove 44 = .ok (.istore 5, 2) := by decide +kernel
theorem dX1_mustMove_46 : decode cX1_mustMove 46 = .ok (.iload 5, 2) := by decide +kernel
theorem dX1_mustMove_48 : decode cX1_mustMove 48 = .ok (.iload_n 3, 1) := by decide +kernel
theorem dX1_mustMove_49 : decode cX1_mustMove 49 = .ok (.if_icmp .le 9, 3) := by decide +kernel
theorem dX1_mustMove_52 : decode cX1_mustMove 52 = .ok (.iinc 1 1, 3) := by decide +kernel
theorem dX1_mustMove_55 : decode cX1_mustMove 55 = .ok (.goto 6, 3) := by decide +kernel
theorem dX1_mustMove_58 : decode cX1_mustMove 58 = .ok (.iload 5, 2) := by decide +kernel
theorem dX1_mustMove_60 : decode cX1_mustMove 60 = .ok (.istore_n 3, 1) := by decide +kernel
theorem dX1_mustMove_61 : decode cX1_mustMove 61 = .ok (.iinc 4 1, 3) := by decide +kernel
theorem dX1_mustMove_64 : decode cX1_mustMove 64 = .ok (.goto (-45), 3) := by decide +kernel
theorem dX1_mustMove_67 : decode cX1_mustMove 67 = .ok (.iinc 2 1, 3) := by decide +kernel
theorem dX1_mustMove_70 : decode cX1_mustMove 70 = .ok (.goto (-66), 3) := by decide +kernel
theorem dX1_mustMove_73 : decode cX1_mustMove 73 = .ok (.iload_n 1, 1) := by decide +kernel
theorem dX1_mustMove_74 : decode cX1_mustMove 74 = .ok (.ireturn, 1) := by decide +kernel
theorem dX2_init_0 : decode cX2_init 0 = .ok (.aload_n 0, 1) := by decide +kernel
theorem dX2_init_1 : decode cX2_init 1 = .ok (.invokespecial 3, 3) := by decide +kernel
theorem dX2_init_4 : decode cX2_init 4 = .ok (.aload_n 0, 1) := by decide +kernel
theorem dX2_init_5 : decode cX2_init 5 = .ok (.iconst 4, 1) := by decide +kernel
theorem dX2_init_6 : decode cX2_init 6 = .ok (.newarray .int, 2) := by decide +kernel
theorem dX2_init_8 : decode cX2_init 8 = .ok (.putfield 9, 3) := by decide +kernel
theorem dX2_init_11 : decode cX2_init 11 = .ok (.return_, 1) := by decide +kernel
theorem dX2_hasPlace_0 : decode cX2_hasPlace 0 = .ok (.aload_n 0, 1) := by decide +kernel
theorem dX2_hasPlace_1 : decode cX2_hasPlace 1 = .ok (.getfield 15, 3) := by decide +kernel
theorem dX2_hasPlace_4 : decode cX2_hasPlace 4 = .ok (.aload_n 0, 1) := by decide +kernel
theorem dX2_hasPlace_5 : decode cX2_hasPlace 5 = .ok (.getfield 9, 3) := by decide +kernel
theorem dX2_hasPlace_8 : decode cX2_hasPlace 8 = .ok (.arraylength, 1) := by decide +kernel
theorem dX2_hasPlace_9 : decode cX2_hasPlace 9 = .ok (.if_icmp .ge 7, 3) := by decide +kernel
theorem dX2_hasPlace_12 : decode cX2_hasPlace 12 = .ok (.iconst 1, 1) := by decide +kernel
theorem dX2_hasPlace_13 : decode cX2_hasPlace 13 = .ok (.goto 4, 3) := by decide +kernel
theorem dX2_hasPlace_16 : decode cX2_hasPlace 16 = .ok (.iconst 0, 1) := by decide +kernel
theorem dX2_hasPlace_17 : decode cX2_hasPlace 17 = .ok (.ireturn, 1) := by decide +kernel
theorem dX2_bears_0 : decode cX2_bears 0 = .ok (.aload_n 0, 1) := by decide +kernel
theorem dX2_bears_1 : decode cX2_bears 1 = .ok (.getfield 19, 3) := by decide +kernel
theorem dX2_bears_4 : decode cX2_bears 4 = .ok (.iload_n 1, 1) := by decide +kernel
theorem dX2_bears_5 : decode cX2_bears 5 = .ok (.iadd, 1) := by decide +kernel
theorem dX2_bears_6 : decode cX2_bears 6 = .ok (.bipush 120, 2) := by decide +kernel
theorem dX2_bears_8 : decode cX2_bears 8 = .ok (.if_icmp .gt 41, 3) := by decide +kernel
theorem dX2_bears_11 : decode cX2_bears 11 = .ok (.aload_n 0, 1) := by decide +kernel
theorem dX2_bears_12 : decode cX2_bears 12 = .ok (.getfield 22, 3) := by decide +kernel
theorem dX2_bears_15 : decode cX2_bears 15 = .ok (.iload_n 1, 1) := by decide +kernel
theorem dX2_bears_16 : decode cX2_bears 16 = .ok (.aload_n 0, 1) := by decide +kernel
theorem dX2_bears_17 : decode cX2_bears 17 = .ok (.invokevirtual 25, 3) := by decide +kernel
theorem dX2_bears_20 : decode cX2_bears 20 = .ok (.imul, 1) := by decide +kernel
theorem dX2_bears_21 : decode cX2_bears 21 = .ok (.iadd, 1) := by decide +kernel
theorem dX2_bears_22 : decode cX2_bears 22 = .ok (.sipush 720, 3) := by decide +kernel
theorem dX2_bears_25 : decode cX2_bears 25 = .ok (.if_icmp .gt 24, 3) := by decide +kernel
theorem dX2_bears_28 : decode cX2_bears 28 = .ok (.aload_n 0, 1) := by decide +kernel
theorem dX2_bears_29 : decode cX2_bears 29 = .ok (.getfield 29, 3) := by decide +kernel
theorem dX2_bears_32 : decode cX2_bears 32 = .ok (.iload_n 1, 1) := by decide +kernel
theorem dX2_bears_33 : decode cX2_bears 33 = .ok (.aload_n 0, 1) := by decide +kernel
theorem dX2_bears_34 : decode cX2_bears 34 = .ok (.invokevirtual 32, 3) := by decide +kernel
theorem dX2_bears_37 : decode cX2_bears 37 = .ok (.imul, 1) := by decide +kernel
theorem dX2_bears_38 : decode cX2_bears 38 = .ok (.iadd, 1) := by decide +kernel
theorem dX2_bears_39 : decode cX2_bears 39 = .ok (.sipush 720, 3) := by decide +kernel
theorem dX2_bears_42 : decode cX2_bears 42 = .ok (.if_icmp .gt 7, 3) := by decide +kernel
theorem dX2_bears_45 : decode cX2_bears 45 = .ok (.iconst 1, 1) := by decide +kernel
theorem dX2_bears_46 : decode cX2_bears 46 = .ok (.goto 4, 3) := by decide +kernel
theorem dX2_bears_49 : decode cX2_bears 49 = .ok (.iconst 0, 1) := by decide +kernel
theorem dX2_bears_50 : decode cX2_bears 50 = .ok (.ireturn, 1) := by decide +kernel
theorem dX2_take_0 : decode cX2_take 0 = .ok (.aload_n 0, 1) := by decide +kernel
theorem dX2_take_1 : decode cX2_take 1 = .ok (.getfield 15, 3) := by decide +kernel
theorem dX2_take_4 : decode cX2_take 4 = .ok (.istore_n 3, 1) := by decide +kernel
theorem dX2_take_5 : decode cX2_take 5 = .ok (.iload_n 3, 1) := by decide +kernel
theorem dX2_take_6 : decode cX2_take 6 = .ok (.ifCond .lt 12, 3) := by decide +kernel
theorem dX2_take_9 : decode cX2_take 9 = .ok (.iload_n 3, 1) := by decide +kernel
theorem dX2_take_10 : decode cX2_take 10 = .ok (.aload_n 0, 1) := by decide +kernel
theorem dX2_take_11 : decode cX2_take 11 = .ok (.getfield 9, 3) := by decide +kernel
theorem dX2_take_14 : decode cX2_take 14 = .ok (.arraylength, 1) := by decide +kernel
theorem dX2_take_15 : decode cX2_take 15 = .ok (.if_icmp .lt 6, 3) := by decide +kernel
theorem dX2_take_18 : decode cX2_take 18 = .ok (.bipush (-4), 2) := by decide +kernel
theorem dX2_take_20 : decode cX2_take 20 = .ok (.ireturn, 1) := by decide +kernel
theorem dX2_take_21 : decode cX2_take 21 = .ok (.aload_n 0, 1) := by decide +kernel
theorem dX2_take_22 : decode cX2_take 22 = .ok (.dup, 1) := by decide +kernel
theorem dX2_take_23 : decode cX2_take 23 = .ok (.getfield 22, 3) := by decide +kernel
theorem dX2_take_26 : decode cX2_take 26 = .ok (.iload_n 2, 1) := by decide +kernel
theorem dX2_take_27 : decode cX2_take 27 = .ok (.aload_n 0, 1) := by decide +kernel
theorem dX2_take_28 : decode cX2_take 28 = .ok (.invokevirtual 25, 3) := by decide +kernel
theorem dX2_take_31 : decode cX2_take 31 = .ok (.imul, 1) := by decide +kernel
theorem dX2_take_32 : decode cX2_take 32 = .ok (.iadd, 1) := by decide +kernel
theorem dX2_take_33 : decode cX2_take 33 = .ok (.putfield 22, 3) := by decide +kernel
theorem dX2_take_36 : decode cX2_take 36 = .ok (.aload_n 0, 1) := by decide +kernel
theorem dX2_take_37 : decode cX2_take 37 = .ok (.dup, 1) := by decide +kernel
theorem dX2_take_38 : decode cX2_take 38 = .ok (.getfield 29, 3) := by decide +kernel
theorem dX2_take_41 : decode cX2_take 41 = .ok (.iload_n 2, 1) := by decide +kernel
theorem dX2_take_42 : decode cX2_take 42 = .ok (.aload_n 0, 1) := by decide +kernel
theorem dX2_take_43 : decode cX2_take 43 = .ok (.invokevirtual 32, 3) := by decide +kernel
theorem dX2_take_46 : decode cX2_take 46 = .ok (.imul, 1) := by decide +kernel
theorem dX2_take_47 : decode cX2_take 47 = .ok (.iadd, 1) := by decide +kernel
theorem dX2_take_48 : decode cX2_take 48 = .ok (.putfield 29, 3) := by decide +kernel
theorem dX2_take_51 : decode cX2_take 51 = .ok (.aload_n 0, 1) := by decide +kernel
theorem dX2_take_52 : decode cX2_take 52 = .ok (.dup, 1) := by decide +kernel
theorem dX2_take_53 : decode cX2_take 53 = .ok (.getfield 19, 3) := by decide +kernel
theorem dX2_take_56 : decode cX2_take 56 = .ok (.iload_n 2, 1) := by decide +kernel
theorem dX2_take_57 : decode cX2_take 57 = .ok (.iadd, 1) := by decide +kernel
theorem dX2_take_58 : decode cX2_take 58 = .ok (.putfield 19, 3) := by decide +kernel
theorem dX2_take_61 : decode cX2_take 61 = .ok (.aload_n 0, 1) := by decide +kernel
theorem dX2_take_62 : decode cX2_take 62 = .ok (.getfield 9, 3) := by decide +kernel
theorem dX2_take_65 : decode cX2_take 65 = .ok (.iload_n 3, 1) := by decide +kernel
theorem dX2_take_66 : decode cX2_take 66 = .ok (.iload_n 1, 1) := by decide +kernel
theorem dX2_take_67 : decode cX2_take 67 = .ok (.iastore, 1) := by decide +kernel
theorem dX2_take_68 : decode cX2_take 68 = .ok (.aload_n 0, 1) := by decide +kernel
theorem dX2_take_69 : decode cX2_take 69 = .ok (.dup, 1) := by decide +kernel
theorem dX2_take_70 : decode cX2_take 70 = .ok (.getfield 15, 3) := by decide +kernel
theorem dX2_take_73 : decode cX2_take 73 = .ok (.iconst 1, 1) := by decide +kernel
theorem dX2_take_74 : decode cX2_take 74 = .ok (.iadd, 1) := by decide +kernel
theorem dX2_take_75 : decode cX2_take 75 = .ok (.putfield 15, 3) := by decide +kernel
theorem dX2_take_78 : decode cX2_take 78 = .ok (.iload_n 3, 1) := by decide +kernel
theorem dX2_take_79 : decode cX2_take 79 = .ok (.ireturn, 1) := by decide +kernel
theorem dX2_partOn_0 : decode cX2_partOn 0 = .ok (.iload_n 1, 1) := by decide +kernel
theorem dX2_partOn_1 : decode cX2_partOn 1 = .ok (.ifCond .lt 20, 3) := by decide +kernel
theorem dX2_partOn_4 : decode cX2_partOn 4 = .ok (.iload_n 1, 1) := by decide +kernel
theorem dX2_partOn_5 : decode cX2_partOn 5 = .ok (.aload_n 0, 1) := by decide +kernel
theorem dX2_partOn_6 : decode cX2_partOn 6 = .ok (.getfield 15, 3) := by decide +kernel
theorem dX2_partOn_9 : decode cX2_partOn 9 = .ok (.if_icmp .ge 12, 3) := by decide +kernel
theorem dX2_partOn_12 : decode cX2_partOn 12 = .ok (.iload_n 1, 1) := by decide +kernel
theorem dX2_partOn_13 : decode cX2_partOn 13 = .ok (.aload_n 0, 1) := by decide +kernel
theorem dX2_partOn_14 : decode cX2_partOn 14 = .ok (.getfield 9, 3) := by decide +kernel
theorem dX2_partOn_17 : decode cX2_partOn 17 = .ok (.arraylength, 1) := by decide +kernel
theorem dX2_partOn_18 : decode cX2_partOn 18 = .ok (.if_icmp .lt 8, 3) := by decide +kernel
theorem dX2_partOn_21 : decode cX2_partOn 21 = .ok (.bipush (-4), 2) := by decide +kernel
theorem dX2_partOn_23 : decode cX2_partOn 23 = .ok (.goto 9, 3) := by decide +kernel
theorem dX2_partOn_26 : decode cX2_partOn 26 = .ok (.aload_n 0, 1) := by decide +kernel
theorem dX2_partOn_27 : decode cX2_partOn 27 = .ok (.getfield 9, 3) := by decide +kernel
theorem dX2_partOn_30 : decode cX2_partOn 30 = .ok (.iload_n 1, 1) := by decide +kernel
theorem dX2_partOn_31 : decode cX2_partOn 31 = .ok (.iaload, 1) := by decide +kernel
theorem dX2_partOn_32 : decode cX2_partOn 32 = .ok (.ireturn, 1) := by decide +kernel
theorem dX2_clear_0 : decode cX2_clear 0 = .ok (.aload_n 0, 1) := by decide +kernel
theorem dX2_clear_1 : decode cX2_clear 1 = .ok (.iconst 0, 1) := by decide +kernel
theorem dX2_clear_2 : decode cX2_clear 2 = .ok (.putfield 15, 3) := by decide +kernel
theorem dX2_clear_5 : decode cX2_clear 5 = .ok (.aload_n 0, 1) := by decide +kernel
theorem dX2_clear_6 : decode cX2_clear 6 = .ok (.iconst 0, 1) := by decide +kernel
theorem dX2_clear_7 : decode cX2_clear 7 = .ok (.putfield 19, 3) := by decide +kernel
theorem dX2_clear_10 : decode cX2_clear 10 = .ok (.aload_n 0, 1) := by decide +kernel
theorem dX2_clear_11 : decode cX2_clear 11 = .ok (.iconst 0, 1) := by decide +kernel
theorem dX2_clear_12 : decode cX2_clear 12 = .ok (.putfield 22, 3) := by decide +kernel
theorem dX2_clear_15 : decode cX2_clear 15 = .ok (.aload_n 0, 1) := by decide +kernel
theorem dX2_clear_16 : decode cX2_clear 16 = .ok (.iconst 0, 1) := by decide +kernel
theorem dX2_clear_17 : decode cX2_clear 17 = .ok (.putfield 29, 3) := by decide +kernel
theorem dX2_clear_20 : decode cX2_clear 20 = .ok (.return_, 1) := by decide +kernel
theorem dX2_frontShare_0 : decode cX2_frontShare 0 = .ok (.bipush 8, 2) := by decide +kernel
theorem dX2_frontShare_2 : decode cX2_frontShare 2 = .ok (.iconst 2, 1) := by decide +kernel
theorem dX2_frontShare_3 : decode cX2_frontShare 3 = .ok (.aload_n 0, 1) := by decide +kernel
theorem dX2_frontShare_4 : decode cX2_frontShare 4 = .ok (.getfield 15, 3) := by decide +kernel
theorem dX2_frontShare_7 : decode cX2_frontShare 7 = .ok (.imul, 1) := by decide +kernel
theorem dX2_frontShare_8 : decode cX2_frontShare 8 = .ok (.isub, 1) := by decide +kernel
theorem dX2_frontShare_9 : decode cX2_frontShare 9 = .ok (.ireturn, 1) := by decide +kernel
theorem dX2_rearShare_0 : decode cX2_rearShare 0 = .ok (.iconst 2, 1) := by decide +kernel
theorem dX2_rearShare_1 : decode cX2_rearShare 1 = .ok (.aload_n 0, 1) := by decide +kernel
theorem dX2_rearShare_2 : decode cX2_rearShare 2 = .ok (.getfield 15, 3) := by decide +kernel
theorem dX2_rearShare_5 : decode cX2_rearShare 5 = .ok (.imul, 1) := by decide +kernel
theorem dX2_rearShare_6 : decode cX2_rearShare 6 = .ok (.iconst 1, 1) := by decide +kernel
theorem dX2_rearShare_7 : decode cX2_rearShare 7 = .ok (.iadd, 1) := by decide +kernel
theorem dX2_rearShare_8 : decode cX2_rearShare 8 = .ok (.ireturn, 1) := by decide +kernel
theorem dX3_init_0 : decode cX3_init 0 = .ok (.aload_n 0, 1) := by decide +kernel
theorem dX3_init_1 : decode cX3_init 1 = .ok (.invokespecial 3, 3) := by decide +kernel
theorem dX3_init_4 : decode cX3_init 4 = .ok (.aload_n 0, 1) := by decide +kernel
theorem dX3_init_5 : decode cX3_init 5 = .ok (.bipush 12, 2) := by decide +kernel
theorem dX3_init_7 : decode cX3_init 7 = .ok (.newarray .int, 2) := by decide +kernel
theorem dX3_init_9 : decode cX3_init 9 = .ok (.putfield 9, 3) := by decide +kernel
theorem dX3_init_12 : decode cX3_init 12 = .ok (.aload_n 0, 1) := by decide +kernel
theorem dX3_init_13 : decode cX3_init 13 = .ok (.bipush 12, 2) := by decide +kernel
theorem dX3_init_15 : decode cX3_init 15 = .ok (.newarray .int, 2) := by decide +kernel
theorem dX3_init_17 : decode cX3_init 17 = .ok (.putfield 15, 3) := by decide +kernel
theorem dX3_init_20 : decode cX3_init 20 = .ok (.return_, 1) := by decide +kernel
theorem dX3_clear_0 : decode cX3_clear 0 = .ok (.aload_n 0, 1) := by decide +kernel
theorem dX3_clear_1 : decode cX3_clear 1 = .ok (.iconst 0, 1) := by decide +kernel
theorem dX3_clear_2 : decode cX3_clear 2 = .ok (.putfield 18, 3) := by decide +kernel
theorem dX3_clear_5 : decode cX3_clear 5 = .ok (.aload_n 0, 1) := by decide +kernel
theorem dX3_clear_6 : decode cX3_clear 6 = .ok (.iconst 0, 1) := by decide +kernel
theorem dX3_clear_7 : decode cX3_clear 7 = .ok (.putfield 22, 3) := by decide +kernel
theorem dX3_clear_10 : decode cX3_clear 10 = .ok (.return_, 1) := by decide +kernel
theorem dX3_add_0 : decode cX3_add 0 = .ok (.aload_n 0, 1) := by decide +kernel
theorem dX3_add_1 : decode cX3_add 1 = .ok (.getfield 18, 3) := by decide +kernel
theorem dX3_add_4 : decode cX3_add 4 = .ok (.ifCond .lt 15, 3) := by decide +kernel
theorem dX3_add_7 : decode cX3_add 7 = .ok (.aload_n 0, 1) := by decide +kernel
theorem dX3_add_8 : decode cX3_add 8 = .ok (.getfield 18, 3) := by decide +kernel
theorem dX3_add_11 : decode cX3_add 11 = .ok (.aload_n 0, 1) := by decide +kernel
theorem dX3_add_12 : decode cX3_add 12 = .ok (.getfield 9, 3) := by decide +kernel
theorem dX3_add_15 : decode cX3_add 15 = .ok (.arraylength, 1) := by decide +kernel
theorem dX3_add_16 : decode cX3_add 16 = .ok (.if_icmp .lt 4, 3) := by decide +kernel
theorem dX3_add_19 : decode cX3_add 19 = .ok (.return_, 1) := by decide +kernel
theorem dX3_add_20 : decode cX3_add 20 = .ok (.iload_n 1, 1) := by decide +kernel
theorem dX3_add_21 : decode cX3_add 21 = .ok (.iconst 4, 1) := by decide +kernel
theorem dX3_add_22 : decode cX3_add 22 = .ok (.iadd, 1) := by decide +kernel
theorem dX3_add_23 : decode cX3_add 23 = .ok (.istore_n 2, 1) := by decide +kernel
theorem dX3_add_24 : decode cX3_add 24 = .ok (.aload_n 0, 1) := by decide +kernel
theorem dX3_add_25 : decode cX3_add 25 = .ok (.getfield 18, 3) := by decide +kernel
theorem dX3_add_28 : decode cX3_add 28 = .ok (.istore_n 3, 1) := by decide +kernel
theorem dX3_add_29 : decode cX3_add 29 = .ok (.iload_n 3, 1) := by decide +kernel
theorem dX3_add_30 : decode cX3_add 30 = .ok (.ifCond .le 35, 3) := by decide +kernel
theorem dX3_add_33 : decode cX3_add 33 = .ok (.aload_n 0, 1) := by decide +kernel
theorem dX3_add_34 : decode cX3_add 34 = .ok (.getfield 9, 3) := by decide +kernel
theorem dX3_add_37 : decode cX3_add 37 = .ok (.iload_n 3, 1) := by decide +kernel
theorem dX3_add_38 : decode cX3_add 38 = .ok (.iconst 1, 1) := by decide +kernel
theorem dX3_add_39 : decode cX3_add 39 = .ok (.isub, 1) := by decide +kernel
theorem dX3_add_40 : decode cX3_add 40 = .ok (.iaload, 1) := by decide +kernel
theorem dX3_add_41 : decode cX3_add 41 = .ok (.iload_n 2, 1) := by decide +kernel
theorem dX3_add_42 : decode cX3_add 42 = .ok (.if_icmp .ge 23, 3) := by decide +kernel
theorem dX3_add_45 : decode cX3_add 45 = .ok (.aload_n 0, 1) := by decide +kernel
theorem dX3_add_46 : decode cX3_add 46 = .ok (.getfield 9, 3) := by decide +kernel
theorem dX3_add_49 : decode cX3_add 49 = .ok (.iload_n 3, 1) := by decide +kernel
theorem dX3_add_50 : decode cX3_add 50 = .ok (.aload_n 0, 1) := by decide +kernel
theorem dX3_add_51 : decode cX3_add 51 = .ok (.getfield 9, 3) := by decide +kernel
theorem dX3_add_54 : decode cX3_add 54 = .ok (.iload_n 3, 1) := by decide +kernel
theorem dX3_add_55 : decode cX3_add 55 = .ok (.iconst 1, 1) := by decide +kernel
theorem dX3_add_56 : decode cX3_add 56 = .ok (.isub, 1) := by decide +kernel
theorem dX3_add_57 : decode cX3_add 57 = .ok (.iaload, 1) := by decide +kernel
theorem dX3_add_58 : decode cX3_add 58 = .ok (.iastore, 1) := by decide +kernel
theorem dX3_add_59 : decode cX3_add 59 = .ok (.iinc 3 (-1), 3) := by decide +kernel
theorem dX3_add_62 : decode cX3_add 62 = .ok (.goto (-33), 3) := by decide +kernel
theorem dX3_add_65 : decode cX3_add 65 = .ok (.aload_n 0, 1) := by decide +kernel
theorem dX3_add_66 : decode cX3_add 66 = .ok (.getfield 9, 3) := by decide +kernel
theorem dX3_add_69 : decode cX3_add 69 = .ok (.iload_n 3, 1) := by decide +kernel
theorem dX3_add_70 : decode cX3_add 70 = .ok (.iload_n 2, 1) := by decide +kernel
theorem dX3_add_71 : decode cX3_add 71 = .ok (.iastore, 1) := by decide +kernel
theorem dX3_add_72 : decode cX3_add 72 = .ok (.aload_n 0, 1) := by decide +kernel
theorem dX3_add_73 : decode cX3_add 73 = .ok (.dup, 1) := by decide +kernel
theorem dX3_add_74 : decode cX3_add 74 = .ok (.getfield 18, 3) := by decide +kernel
theorem dX3_add_77 : decode cX3_add 77 = .ok (.iconst 1, 1) := by decide +kernel
theorem dX3_add_78 : decode cX3_add 78 = .ok (.iadd, 1) := by decide +kernel
theorem dX3_add_79 : decode cX3_add 79 = .ok (.putfield 18, 3) := by decide +kernel
theorem dX3_add_82 : decode cX3_add 82 = .ok (.aload_n 0, 1) := by decide +kernel
theorem dX3_add_83 : decode cX3_add 83 = .ok (.dup, 1) := by decide +kernel
theorem dX3_add_84 : decode cX3_add 84 = .ok (.getfield 22, 3) := by decide +kernel
theorem dX3_add_87 : decode cX3_add 87 = .ok (.iload_n 2, 1) := by decide +kernel
theorem dX3_add_88 : decode cX3_add 88 = .ok (.iadd, 1) := by decide +kernel
theorem dX3_add_89 : decode cX3_add 89 = .ok (.putfield 22, 3) := by decide +kernel
theorem dX3_add_92 : decode cX3_add 92 = .ok (.return_, 1) := by decide +kernel
theorem dX3_plainCasts_0 : decode cX3_plainCasts 0 = .ok (.iconst 0, 1) := by decide +kernel
theorem dX3_plainCasts_1 : decode cX3_plainCasts 1 = .ok (.istore_n 1, 1) := by decide +kernel
theorem dX3_plainCasts_2 : decode cX3_plainCasts 2 = .ok (.iconst 0, 1) := by decide +kernel
theorem dX3_plainCasts_3 : decode cX3_plainCasts 3 = .ok (.istore_n 2, 1) := by decide +kernel
theorem dX3_plainCasts_4 : decode cX3_plainCasts 4 = .ok (.iload_n 2, 1) := by decide +kernel
theorem dX3_plainCasts_5 : decode cX3_plainCasts 5 = .ok (.aload_n 0, 1) := by decide +kernel
theorem dX3_plainCasts_6 : decode cX3_plainCasts 6 = .ok (.getfield 18, 3) := by decide +kernel
theorem dX3_plainCasts_9 : decode cX3_plainCasts 9 = .ok (.if_icmp .ge 71, 3) := by decide +kernel
theorem dX3_plainCasts_12 : decode cX3_plainCasts 12 = .ok (.iconst 0, 1) := by decide +kernel
theorem dX3_plainCasts_13 : decode cX3_plainCasts 13 = .ok (.istore_n 3, 1) := by decide +kernel
theorem dX3_plainCasts_14 : decode cX3_plainCasts 14 = .ok (.iload_n 3, 1) := by decide +kernel
theorem dX3_plainCasts_15 : decode cX3_plainCasts 15 = .ok (.iload_n 1, 1) := by decide +kernel
theorem dX3_plainCasts_16 : decode cX3_plainCasts 16 = .ok (.if_icmp .ge 28, 3) := by decide +kernel
theorem dX3_plainCasts_19 : decode cX3_plainCasts 19 = .ok (.aload_n 0, 1) := by decide +kernel
theorem dX3_plainCasts_20 : decode cX3_plainCasts 20 = .ok (.getfield 15, 3) := by decide +kernel
theorem dX3_plainCasts_23 : decode cX3_plainCasts 23 = .ok (.iload_n 3, 1) := by decide +kernel
theorem dX3_plainCasts_24 : decode cX3_plainCasts 24 = .ok (.iaload, 1) := by decide +kernel
theorem dX3_plainCasts_25 : decode cX3_plainCasts 25 = .ok (.aload_n 0, 1) := by decide +kernel
theorem dX3_plainCasts_26 : decode cX3_plainCasts 26 = .ok (.getfield 9, 3) := by decide +kernel
theorem dX3_plainCasts_29 : decode cX3_plainCasts 29 = .ok (.iload_n 2, 1) := by decide +kernel
theorem dX3_plainCasts_30 : decode cX3_plainCasts 30 = .ok (.iaload, 1) := by decide +kernel
theorem dX3_plainCasts_31 : decode cX3_plainCasts 31 = .ok (.iadd, 1) := by decide +kernel
theorem dX3_plainCasts_32 : decode cX3_plainCasts 32 = .ok (.sipush 304, 3) := by decide +kernel
theorem dX3_plainCasts_35 : decode cX3_plainCasts 35 = .ok (.if_icmp .le 9, 3) := by decide +kernel
theorem dX3_plainCasts_38 : decode cX3_plainCasts 38 = .ok (.iinc 3 1, 3) := by decide +kernel
theorem dX3_plainCasts_41 : decode cX3_plainCasts 41 = .ok (.goto (-27), 3) := by decide +kernel
theorem dX3_plainCasts_44 : decode cX3_plainCasts 44 = .ok (.iload_n 3, 1) := by decide +kernel
theorem dX3_plainCasts_45 : decode cX3_plainCasts 45 = .ok (.iload_n 1, 1) := by decide +kernel
theorem dX3_plainCasts_46 : decode cX3_plainCasts 46 = .ok (.if_icmp .ne 13, 3) := by decide +kernel
theorem dX3_plainCasts_49 : decode cX3_plainCasts 49 = .ok (.aload_n 0, 1) := by decide +kernel
theorem dX3_plainCasts_50 : decode cX3_plainCasts 50 = .ok (.getfield 15, 3) := by decide +kernel
theorem dX3_plainCasts_53 : decode cX3_plainCasts 53 = .ok (.iload_n 3, 1) := by decide +kernel
theorem dX3_plainCasts_54 : decode cX3_plainCasts 54 = .ok (.iconst 0, 1) := by decide +kernel
theorem dX3_plainCasts_55 : decode cX3_plainCasts 55 = .ok (.iastore, 1) := by decide +kernel
theorem dX3_plainCasts_56 : decode cX3_plainCasts 56 = .ok (.iinc 1 1, 3) := by decide +kernel
theorem dX3_plainCasts_59 : decode cX3_plainCasts 59 = .ok (.aload_n 0, 1) := by decide +kernel
theorem dX3_plainCasts_60 : decode cX3_plainCasts 60 = .ok (.getfield 15, 3) := by decide +kernel
theorem dX3_plainCasts_63 : decode cX3_plainCasts 63 = .ok (.iload_n 3, 1) := by decide +kernel
theorem dX3_plainCasts_64 : decode cX3_plainCasts 64 = .ok (.dup2, 1) := by decide +kernel
theorem dX3_plainCasts_65 : decode cX3_plainCasts 65 = .ok (.iaload, 1) := by decide +kernel
theorem dX3_plainCasts_66 : decode cX3_plainCasts 66 = .ok (.aload_n 0, 1) := by decide +kernel
theorem dX3_plainCasts_67 : decode cX3_plainCasts 67 = .ok (.getfield 9, 3) := by decide +kernel
theorem dX3_plainCasts_70 : decode cX3_plainCasts 70 = .ok (.iload_n 2, 1) := by decide +kernel
theorem dX3_plainCasts_71 : decode cX3_plainCasts 71 = .ok (.iaload, 1) := by decide +kernel
theorem dX3_plainCasts_72 : decode cX3_plainCasts 72 = .ok (.iadd, 1) := by decide +kernel
theorem dX3_plainCasts_73 : decode cX3_plainCasts 73 = .ok (.iastore, 1) := by decide +kernel
theorem dX3_plainCasts_74 : decode cX3_plainCasts 74 = .ok (.iinc 2 1, 3) := by decide +kernel
theorem dX3_plainCasts_77 : decode cX3_plainCasts 77 = .ok (.goto (-73), 3) := by decide +kernel
theorem dX3_plainCasts_80 : decode cX3_plainCasts 80 = .ok (.iload_n 1, 1) := by decide +kernel
theorem dX3_plainCasts_81 : decode cX3_plainCasts 81 = .ok (.ireturn, 1) := by decide +kernel
theorem dX3_fewestCasts_0 : decode cX3_fewestCasts 0 = .ok (.aload_n 0, 1) := by decide +kernel
theorem dX3_fewestCasts_1 : decode cX3_fewestCasts 1 = .ok (.invokevirtual 25, 3) := by decide +kernel
theorem dX3_fewestCasts_4 : decode cX3_fewestCasts 4 = .ok (.istore_n 1, 1) := by decide +kernel
theorem dX3_fewestCasts_5 : decode cX3_fewestCasts 5 = .ok (.aload_n 0, 1) := by decide +kernel
theorem dX3_fewestCasts_6 : decode cX3_fewestCasts 6 = .ok (.getfield 22, 3) := by decide +kernel
theorem dX3_fewestCasts_9 : decode cX3_fewestCasts 9 = .ok (.sipush 304, 3) := by decide +kernel
theorem dX3_fewestCasts_12 : decode cX3_fewestCasts 12 = .ok (.iadd, 1) := by decide +kernel
theorem dX3_fewestCasts_13 : decode cX3_fewestCasts 13 = .ok (.iconst 1, 1) := by decide +kernel
theorem dX3_fewestCasts_14 : decode cX3_fewestCasts 14 = .ok (.isub, 1) := by decide +kernel
theorem dX3_fewestCasts_15 : decode cX3_fewestCasts 15 = .ok (.sipush 304, 3) := by decide +kernel
theorem dX3_fewestCasts_18 : decode cX3_fewestCasts 18 = .ok (.idiv, 1) := by decide +kernel
theorem dX3_fewestCasts_19 : decode cX3_fewestCasts 19 = .ok (.istore_n 2, 1) := by decide +kernel
theorem dX3_fewestCasts_20 : decode cX3_fewestCasts 20 = .ok (.iload_n 2, 1) := by decide +kernel
theorem dX3_fewestCasts_21 : decode cX3_fewestCasts 21 = .ok (.iload_n 1, 1) := by decide +kernel
theorem dX3_fewestCasts_22 : decode cX3_fewestCasts 22 = .ok (.if_icmp .ge 50, 3) := by decide +kernel
theorem dX3_fewestCasts_25 : decode cX3_fewestCasts 25 = .ok (.iconst 0, 1) := by decide +kernel
theorem dX3_fewestCasts_26 : decode cX3_fewestCasts 26 = .ok (.istore_n 3, 1) := by decide +kernel
theorem dX3_fewestCasts_27 : decode cX3_fewestCasts 27 = .ok (.iload_n 3, 1) := by decide +kernel
theorem dX3_fewestCasts_28 : decode cX3_fewestCasts 28 = .ok (.iload_n 2, 1) := by decide +kernel
theorem dX3_fewestCasts_29 : decode cX3_fewestCasts 29 = .ok (.if_icmp .ge 16, 3) := by decide +kernel
theorem dX3_fewestCasts_32 : decode cX3_fewestCasts 32 = .ok (.aload_n 0, 1) := by decide +kernel
theorem dX3_fewestCasts_33 : decode cX3_fewestCasts 33 = .ok (.getfield 15, 3) := by decide +kernel
theorem dX3_fewestCasts_36 : decode cX3_fewestCasts 36 = .ok (.iload_n 3, 1) := by decide +kernel
theorem dX3_fewestCasts_37 : decode cX3_fewestCasts 37 = .ok (.iconst 0, 1) := by decide +kernel
theorem dX3_fewestCasts_38 : decode cX3_fewestCasts 38 = .ok (.iastore, 1) := by decide +kernel
theorem dX3_fewestCasts_39 : decode cX3_fewestCasts 39 = .ok (.iinc 3 1, 3) := by decide +kernel
theorem dX3_fewestCasts_42 : decode cX3_fewestCasts 42 = .ok (.goto (-15), 3) := by decide +kernel
theorem dX3_fewestCasts_45 : decode cX3_fewestCasts 45 = .ok (.aload_n 0, 1) := by decide +kernel
theorem dX3_fewestCasts_46 : decode cX3_fewestCasts 46 = .ok (.iconst 0, 1) := by decide +kernel
theorem dX3_fewestCasts_47 : decode cX3_fewestCasts 47 = .ok (.iload_n 2, 1) := by decide +kernel
theorem dX3_fewestCasts_48 : decode cX3_fewestCasts 48 = .ok (.iload_n 2, 1) := by decide +kernel
theorem dX3_fewestCasts_49 : decode cX3_fewestCasts 49 = .ok (.sipush 304, 3) := by decide +kernel
theorem dX3_fewestCasts_52 : decode cX3_fewestCasts 52 = .ok (.imul, 1) := by decide +kernel
theorem dX3_fewestCasts_53 : decode cX3_fewestCasts 53 = .ok (.aload_n 0, 1) := by decide +kernel
theorem dX3_fewestCasts_54 : decode cX3_fewestCasts 54 = .ok (.getfield 22, 3) := by decide +kernel
theorem dX3_fewestCasts_57 : decode cX3_fewestCasts 57 = .ok (.isub, 1) := by decide +kernel
theorem dX3_fewestCasts_58 : decode cX3_fewestCasts 58 = .ok (.invokevirtual 29, 3) := by decide +kernel
theorem dX3_fewestCasts_61 : decode cX3_fewestCasts 61 = .ok (.ifCond .eq 5, 3) := by decide +kernel
theorem dX3_fewestCasts_64 : decode cX3_fewestCasts 64 = .ok (.iload_n 2, 1) := by decide +kernel
theorem dX3_fewestCasts_65 : decode cX3_fewestCasts 65 = .ok (.ireturn, 1) := by decide +kernel
theorem dX3_fewestCasts_66 : decode cX3_fewestCasts 66 = .ok (.iinc 2 1, 3) := by decide +kernel
theorem dX3_fewestCasts_69 : decode cX3_fewestCasts 69 = .ok (.goto (-49), 3) := by decide +kernel
theorem dX3_fewestCasts_72 : decode cX3_fewestCasts 72 = .ok (.iload_n 1, 1) := by decide +kernel
theorem dX3_fewestCasts_73 : decode cX3_fewestCasts 73 = .ok (.ireturn, 1) := by decide +kernel
theorem dX3_packs_0 : decode cX3_packs 0 = .ok (.iload_n 1, 1) := by decide +kernel
theorem dX3_packs_1 : decode cX3_packs 1 = .ok (.aload_n 0, 1) := by decide +kernel
theorem dX3_packs_2 : decode cX3_packs 2 = .ok (.getfield 18, 3) := by decide +kernel
theorem dX3_packs_5 : decode cX3_packs 5 = .ok (.if_icmp .lt 5, 3) := by decide +kernel
theorem dX3_packs_8 : decode cX3_packs 8 = .ok (.iconst 1, 1) := by decide +kernel
theorem dX3_packs_9 : decode cX3_packs 9 = .ok (.ireturn, 1) := by decide +kernel
theorem dX3_packs_10 : decode cX3_packs 10 = .ok (.aload_n 0, 1) := by decide +kernel
theorem dX3_packs_11 : decode cX3_packs 11 = .ok (.getfield 9, 3) := by decide +kernel
theorem dX3_packs_14 : decode cX3_packs 14 = .ok (.iload_n 1, 1) := by decide +kernel
theorem dX3_packs_15 : decode cX3_packs 15 = .ok (.iaload, 1) := by decide +kernel
theorem dX3_packs_16 : decode cX3_packs 16 = .ok (.istore 4, 2) := by decide +kernel
theorem dX3_packs_18 : decode cX3_packs 18 = .ok (.aload_n 0, 1) := by decide +kernel
theorem dX3_packs_19 : decode cX3_packs 19 = .ok (.getfield 9, 3) := by decide +kernel
theorem dX3_packs_22 : decode cX3_packs 22 = .ok (.aload_n 0, 1) := by decide +kernel
theorem dX3_packs_23 : decode cX3_packs 23 = .ok (.getfield 18, 3) := by decide +kernel
theorem dX3_packs_26 : decode cX3_packs 26 = .ok (.iconst 1, 1) := by decide +kernel
theorem dX3_packs_27 : decode cX3_packs 27 = .ok (.isub, 1) := by decide +kernel
theorem dX3_packs_28 : decode cX3_packs 28 = .ok (.iaload, 1) := by decide +kernel
theorem dX3_packs_29 : decode cX3_packs 29 = .ok (.istore 5, 2) := by decide +kernel
theorem dX3_packs_31 : decode cX3_packs 31 = .ok (.iconst 0, 1) := by decide +kernel
theorem dX3_packs_32 : decode cX3_packs 32 = .ok (.istore 6, 2) := by decide +kernel
theorem dX3_packs_34 : decode cX3_packs 34 = .ok (.iload 6, 2) := by decide +kernel
theorem dX3_packs_36 : decode cX3_packs 36 = .ok (.iload_n 2, 1) := by decide +kernel
theorem dX3_packs_37 : decode cX3_packs 37 = .ok (.if_icmp .ge 72, 3) := by decide +kernel
theorem dX3_packs_40 : decode cX3_packs 40 = .ok (.sipush 304, 3) := by decide +kernel
theorem dX3_packs_43 : decode cX3_packs 43 = .ok (.aload_n 0, 1) := by decide +kernel
theorem dX3_packs_44 : decode cX3_packs 44 = .ok (.getfield 15, 3) := by decide +kernel
theorem dX3_packs_47 : decode cX3_packs 47 = .ok (.iload 6, 2) := by decide +kernel
theorem dX3_packs_49 : decode cX3_packs 49 = .ok (.iaload, 1) := by decide +kernel
theorem dX3_packs_50 : decode cX3_packs 50 = .ok (.isub, 1) := by decide +kernel
theorem dX3_packs_51 : decode cX3_packs 51 = .ok (.istore 7, 2) := by decide +kernel
theorem dX3_packs_53 : decode cX3_packs 53 = .ok (.iload 7, 2) := by decide +kernel
theorem dX3_packs_55 : decode cX3_packs 55 = .ok (.iload 4, 2) := by decide +kernel
theorem dX3_packs_57 : decode cX3_packs 57 = .ok (.if_icmp .ge 6, 3) := by decide +kernel
theorem dX3_packs_60 : decode cX3_packs 60 = .ok (.goto 43, 3) := by decide +kernel
theorem dX3_packs_63 : decode cX3_packs 63 = .ok (.aload_n 0, 1) := by decide +kernel
theorem dX3_packs_64 : decode cX3_packs 64 = .ok (.iload 6, 2) := by decide +kernel
theorem dX3_packs_66 : decode cX3_packs 66 = .ok (.iload_n 1, 1) := by decide +kernel
theorem dX3_packs_67 : decode cX3_packs 67 = .ok (.iload_n 2, 1) := by decide +kernel
theorem dX3_packs_68 : decode cX3_packs 68 = .ok (.iload_n 3, 1) := by decide +kernel
theorem dX3_packs_69 : decode cX3_packs 69 = .ok (.invokevirtual 33, 3) := by decide +kernel
theorem dX3_packs_72 : decode cX3_packs 72 = .ok (.ifCond .eq 5, 3) := by decide +kernel
theorem dX3_packs_75 : decode cX3_packs 75 = .ok (.iconst 1, 1) := by decide +kernel
theorem dX3_packs_76 : decode cX3_packs 76 = .ok (.ireturn, 1) := by decide +kernel
theorem dX3_packs_77 : decode cX3_packs 77 = .ok (.iload 7, 2) := by decide +kernel
theorem dX3_packs_79 : decode cX3_packs 79 = .ok (.sipush 304, 3) := by decide +kernel
theorem dX3_packs_82 : decode cX3_packs 82 = .ok (.if_icmp .eq 19, 3) := by decide +kernel
theorem dX3_packs_85 : decode cX3_packs 85 = .ok (.iload 7, 2) := by decide +kernel
theorem dX3_packs_87 : decode cX3_packs 87 = .ok (.iload 4, 2) := by decide +kernel
theorem dX3_packs_89 : decode cX3_packs 89 = .ok (.if_icmp .eq 12, 3) := by decide +kernel
theorem dX3_packs_92 : decode cX3_packs 92 = .ok (.iload 7, 2) := by decide +kernel
theorem dX3_packs_94 : decode cX3_packs 94 = .ok (.iconst 2, 1) := by decide +kernel
theorem dX3_packs_95 : decode cX3_packs 95 = .ok (.iload 5, 2) := by decide +kernel
theorem dX3_packs_97 : decode cX3_packs 97 = .ok (.imul, 1) := by decide +kernel
theorem dX3_packs_98 : decode cX3_packs 98 = .ok (.if_icmp .ge 5, 3) := by decide +kernel
theorem dX3_packs_101 : decode cX3_packs 101 = .ok (.iconst 0, 1) := by decide +kernel
theorem dX3_packs_102 : decode cX3_packs 102 = .ok (.ireturn, 1) := by decide +kernel
theorem dX3_packs_103 : decode cX3_packs 103 = .ok (.iinc 6 1, 3) := by decide +kernel
theorem dX3_packs_106 : decode cX3_packs 106 = .ok (.goto (-72), 3) := by decide +kernel
theorem dX3_packs_109 : decode cX3_packs 109 = .ok (.iconst 0, 1) := by decide +kernel
theorem dX3_packs_110 : decode cX3_packs 110 = .ok (.ireturn, 1) := by decide +kernel
theorem dX3_packsOn_0 : decode cX3_packsOn 0 = .ok (.sipush 304, 3) := by decide +kernel
theorem dX3_packsOn_3 : decode cX3_packsOn 3 = .ok (.aload_n 0, 1) := by decide +kernel
theorem dX3_packsOn_4 : decode cX3_packsOn 4 = .ok (.getfield 15, 3) := by decide +kernel
theorem dX3_packsOn_7 : decode cX3_packsOn 7 = .ok (.iload_n 1, 1) := by decide +kernel
theorem dX3_packsOn_8 : decode cX3_packsOn 8 = .ok (.iaload, 1) := by decide +kernel
theorem dX3_packsOn_9 : decode cX3_packsOn 9 = .ok (.isub, 1) := by decide +kernel
theorem dX3_packsOn_10 : decode cX3_packsOn 10 = .ok (.aload_n 0, 1) := by decide +kernel
theorem dX3_packsOn_11 : decode cX3_packsOn 11 = .ok (.getfield 9, 3) := by decide +kernel
theorem dX3_packsOn_14 : decode cX3_packsOn 14 = .ok (.iload_n 2, 1) := by decide +kernel
theorem dX3_packsOn_15 : decode cX3_packsOn 15 = .ok (.iaload, 1) := by decide +kernel
theorem dX3_packsOn_16 : decode cX3_packsOn 16 = .ok (.isub, 1) := by decide +kernel
theorem dX3_packsOn_17 : decode cX3_packsOn 17 = .ok (.istore 5, 2) := by decide +kernel
theorem dX3_packsOn_19 : decode cX3_packsOn 19 = .ok (.iload 5, 2) := by decide +kernel
theorem dX3_packsOn_21 : decode cX3_packsOn 21 = .ok (.aload_n 0, 1) := by decide +kernel
theorem dX3_packsOn_22 : decode cX3_packsOn 22 = .ok (.getfield 9, 3) := by decide +kernel
theorem dX3_packsOn_25 : decode cX3_packsOn 25 = .ok (.aload_n 0, 1) := by decide +kernel
theorem dX3_packsOn_26 : decode cX3_packsOn 26 = .ok (.getfield 18, 3) := by decide +kernel
theorem dX3_packsOn_29 : decode cX3_packsOn 29 = .ok (.iconst 1, 1) := by decide +kernel
theorem dX3_packsOn_30 : decode cX3_packsOn 30 = .ok (.isub, 1) := by decide +kernel
theorem dX3_packsOn_31 : decode cX3_packsOn 31 = .ok (.iaload, 1) := by decide +kernel
theorem dX3_packsOn_32 : decode cX3_packsOn 32 = .ok (.if_icmp .ge 8, 3) := by decide +kernel
theorem dX3_packsOn_35 : decode cX3_packsOn 35 = .ok (.iload 5, 2) := by decide +kernel
theorem dX3_packsOn_37 : decode cX3_packsOn 37 = .ok (.goto 4, 3) := by decide +kernel
theorem dX3_packsOn_40 : decode cX3_packsOn 40 = .ok (.iconst 0, 1) := by decide +kernel
theorem dX3_packsOn_41 : decode cX3_packsOn 41 = .ok (.istore 6, 2) := by decide +kernel
theorem dX3_packsOn_43 : decode cX3_packsOn 43 = .ok (.iload 6, 2) := by decide +kernel
theorem dX3_packsOn_45 : decode cX3_packsOn 45 = .ok (.iload 4, 2) := by decide +kernel
theorem dX3_packsOn_47 : decode cX3_packsOn 47 = .ok (.if_icmp .le 5, 3) := by decide +kernel
theorem dX3_packsOn_50 : decode cX3_packsOn 50 = .ok (.iconst 0, 1) := by decide +kernel
theorem dX3_packsOn_51 : decode cX3_packsOn 51 = .ok (.ireturn, 1) := by decide +kernel
theorem dX3_packsOn_52 : decode cX3_packsOn 52 = .ok (.aload_n 0, 1) := by decide +kernel
theorem dX3_packsOn_53 : decode cX3_packsOn 53 = .ok (.getfield 15, 3) := by decide +kernel
theorem dX3_packsOn_56 : decode cX3_packsOn 56 = .ok (.iload_n 1, 1) := by decide +kernel
theorem dX3_packsOn_57 : decode cX3_packsOn 57 = .ok (.dup2, 1) := by decide +kernel
theorem dX3_packsOn_58 : decode cX3_packsOn 58 = .ok (.iaload, 1) := by decide +kernel
theorem dX3_packsOn_59 : decode cX3_packsOn 59 = .ok (.aload_n 0, 1) := by decide +kernel
theorem dX3_packsOn_60 : decode cX3_packsOn 60 = .ok (.getfield 9, 3) := by decide +kernel
theorem dX3_packsOn_63 : decode cX3_packsOn 63 = .ok (.iload_n 2, 1) := by decide +kernel
theorem dX3_packsOn_64 : decode cX3_packsOn 64 = .ok (.iaload, 1) := by decide +kernel
theorem dX3_packsOn_65 : decode cX3_packsOn 65 = .ok (.iadd, 1) := by decide +kernel
theorem dX3_packsOn_66 : decode cX3_packsOn 66 = .ok (.iastore, 1) := by decide +kernel
theorem dX3_packsOn_67 : decode cX3_packsOn 67 = .ok (.aload_n 0, 1) := by decide +kernel
theorem dX3_packsOn_68 : decode cX3_packsOn 68 = .ok (.iload_n 2, 1) := by decide +kernel
theorem dX3_packsOn_69 : decode cX3_packsOn 69 = .ok (.iconst 1, 1) := by decide +kernel
theorem dX3_packsOn_70 : decode cX3_packsOn 70 = .ok (.iadd, 1) := by decide +kernel
theorem dX3_packsOn_71 : decode cX3_packsOn 71 = .ok (.iload_n 3, 1) := by decide +kernel
theorem dX3_packsOn_72 : decode cX3_packsOn 72 = .ok (.iload 4, 2) := by decide +kernel
theorem dX3_packsOn_74 : decode cX3_packsOn 74 = .ok (.iload 6, 2) := by decide +kernel
theorem dX3_packsOn_76 : decode cX3_packsOn 76 = .ok (.isub, 1) := by decide +kernel
theorem dX3_packsOn_77 : decode cX3_packsOn 77 = .ok (.invokevirtual 29, 3) := by decide +kernel
theorem dX3_packsOn_80 : decode cX3_packsOn 80 = .ok (.istore 7, 2) := by decide +kernel
theorem dX3_packsOn_82 : decode cX3_packsOn 82 = .ok (.aload_n 0, 1) := by decide +kernel
theorem dX3_packsOn_83 : decode cX3_packsOn 83 = .ok (.getfield 15, 3) := by decide +kernel
theorem dX3_packsOn_86 : decode cX3_packsOn 86 = .ok (.iload_n 1, 1) := by decide +kernel
theorem dX3_packsOn_87 : decode cX3_packsOn 87 = .ok (.dup2, 1) := by decide +kernel
theorem dX3_packsOn_88 : decode cX3_packsOn 88 = .ok (.iaload, 1) := by decide +kernel
theorem dX3_packsOn_89 : decode cX3_packsOn 89 = .ok (.aload_n 0, 1) := by decide +kernel
theorem dX3_packsOn_90 : decode cX3_packsOn 90 = .ok (.getfield 9, 3) := by decide +kernel
theorem dX3_packsOn_93 : decode cX3_packsOn 93 = .ok (.iload_n 2, 1) := by decide +kernel
theorem dX3_packsOn_94 : decode cX3_packsOn 94 = .ok (.iaload, 1) := by decide +kernel
theorem dX3_packsOn_95 : decode cX3_packsOn 95 = .ok (.isub, 1) := by decide +kernel
theorem dX3_packsOn_96 : decode cX3_packsOn 96 = .ok (.iastore, 1) := by decide +kernel
theorem dX3_packsOn_97 : decode cX3_packsOn 97 = .ok (.iload 7, 2) := by decide +kernel
theorem dX3_packsOn_99 : decode cX3_packsOn 99 = .ok (.ireturn, 1) := by decide +kernel
theorem dX4_init_0 : decode cX4_init 0 = .ok (.aload_n 0, 1) := by decide +kernel
theorem dX4_init_1 : decode cX4_init 1 = .ok (.invokespecial 3, 3) := by decide +kernel
theorem dX4_init_4 : decode cX4_init 4 = .ok (.aload_n 0, 1) := by decide +kernel
theorem dX4_init_5 : decode cX4_init 5 = .ok (.iconst 0, 1) := by decide +kernel
theorem dX4_init_6 : decode cX4_init 6 = .ok (.putfield 9, 3) := by decide +kernel
theorem dX4_init_9 : decode cX4_init 9 = .ok (.aload_n 0, 1) := by decide +kernel
theorem dX4_init_10 : decode cX4_init 10 = .ok (.bipush (-4), 2) := by decide +kernel
theorem dX4_init_12 : decode cX4_init 12 = .ok (.putfield 15, 3) := by decide +kernel
theorem dX4_init_15 : decode cX4_init 15 = .ok (.return_, 1) := by decide +kernel
theorem dX4_measure_0 : decode cX4_measure 0 = .ok (.aload_n 0, 1) := by decide +kernel
theorem dX4_measure_1 : decode cX4_measure 1 = .ok (.iload_n 1, 1) := by decide +kernel
theorem dX4_measure_2 : decode cX4_measure 2 = .ok (.putfield 18, 3) := by decide +kernel
theorem dX4_measure_5 : decode cX4_measure 5 = .ok (.aload_n 0, 1) := by decide +kernel
theorem dX4_measure_6 : decode cX4_measure 6 = .ok (.iload_n 2, 1) := by decide +kernel
theorem dX4_measure_7 : decode cX4_measure 7 = .ok (.putfield 21, 3) := by decide +kernel
theorem dX4_measure_10 : decode cX4_measure 10 = .ok (.aload_n 0, 1) := by decide +kernel
theorem dX4_measure_11 : decode cX4_measure 11 = .ok (.iload_n 3, 1) := by decide +kernel
theorem dX4_measure_12 : decode cX4_measure 12 = .ok (.putfield 24, 3) := by decide +kernel
theorem dX4_measure_15 : decode cX4_measure 15 = .ok (.return_, 1) := by decide +kernel
theorem dX4_isNow_0 : decode cX4_isNow 0 = .ok (.aload_n 0, 1) := by decide +kernel
theorem dX4_isNow_1 : decode cX4_isNow 1 = .ok (.iload_n 1, 1) := by decide +kernel
theorem dX4_isNow_2 : decode cX4_isNow 2 = .ok (.putfield 9, 3) := by decide +kernel
theorem dX4_isNow_5 : decode cX4_isNow 5 = .ok (.aload_n 0, 1) := by decide +kernel
theorem dX4_isNow_6 : decode cX4_isNow 6 = .ok (.iload_n 2, 1) := by decide +kernel
theorem dX4_isNow_7 : decode cX4_isNow 7 = .ok (.putfield 15, 3) := by decide +kernel
theorem dX4_isNow_10 : decode cX4_isNow 10 = .ok (.return_, 1) := by decide +kernel
theorem dX4_isStruck_0 : decode cX4_isStruck 0 = .ok (.aload_n 0, 1) := by decide +kernel
theorem dX4_isStruck_1 : decode cX4_isStruck 1 = .ok (.iconst 5, 1) := by decide +kernel
theorem dX4_isStruck_2 : decode cX4_isStruck 2 = .ok (.bipush (-4), 2) := by decide +kernel
theorem dX4_isStruck_4 : decode cX4_isStruck 4 = .ok (.invokevirtual 27, 3) := by decide +kernel
theorem dX4_isStruck_7 : decode cX4_isStruck 7 = .ok (.aload_n 0, 1) := by decide +kernel
theorem dX4_isStruck_8 : decode cX4_isStruck 8 = .ok (.iconst 0, 1) := by decide +kernel
theorem dX4_isStruck_9 : decode cX4_isStruck 9 = .ok (.putfield 31, 3) := by decide +kernel
theorem dX4_isStruck_12 : decode cX4_isStruck 12 = .ok (.return_, 1) := by decide +kernel
theorem dX5_init_0 : decode cX5_init 0 = .ok (.aload_n 0, 1) := by decide +kernel
theorem dX5_init_1 : decode cX5_init 1 = .ok (.invokespecial 3, 3) := by decide +kernel
theorem dX5_init_4 : decode cX5_init 4 = .ok (.aload_n 0, 1) := by decide +kernel
theorem dX5_init_5 : decode cX5_init 5 = .ok (.iconst 4, 1) := by decide +kernel
theorem dX5_init_6 : decode cX5_init 6 = .ok (.newarray .int, 2) := by decide +kernel
theorem dX5_init_8 : decode cX5_init 8 = .ok (.putfield 9, 3) := by decide +kernel
theorem dX5_init_11 : decode cX5_init 11 = .ok (.return_, 1) := by decide +kernel
theorem dX5_hasRoom_0 : decode cX5_hasRoom 0 = .ok (.aload_n 0, 1) := by decide +kernel
theorem dX5_hasRoom_1 : decode cX5_hasRoom 1 = .ok (.getfield 15, 3) := by decide +kernel
theorem dX5_hasRoom_4 : decode cX5_hasRoom 4 = .ok (.aload_n 0, 1) := by decide +kernel
theorem dX5_hasRoom_5 : decode cX5_hasRoom 5 = .ok (.getfield 9, 3) := by decide +kernel
theorem dX5_hasRoom_8 : decode cX5_hasRoom 8 = .ok (.arraylength, 1) := by decide +kernel
theorem dX5_hasRoom_9 : decode cX5_hasRoom 9 = .ok (.if_icmp .ge 7, 3) := by decide +kernel
theorem dX5_hasRoom_12 : decode cX5_hasRoom 12 = .ok (.iconst 1, 1) := by decide +kernel
theorem dX5_hasRoom_13 : decode cX5_hasRoom 13 = .ok (.goto 4, 3) := by decide +kernel
theorem dX5_hasRoom_16 : decode cX5_hasRoom 16 = .ok (.iconst 0, 1) := by decide +kernel
theorem dX5_hasRoom_17 : decode cX5_hasRoom 17 = .ok (.ireturn, 1) := by decide +kernel
theorem dX5_put_0 : decode cX5_put 0 = .ok (.aload_n 0, 1) := by decide +kernel
theorem dX5_put_1 : decode cX5_put 1 = .ok (.getfield 15, 3) := by decide +kernel
theorem dX5_put_4 : decode cX5_put 4 = .ok (.ifCond .lt 35, 3) := by decide +kernel
theorem dX5_put_7 : decode cX5_put 7 = .ok (.aload_n 0, 1) := by decide +kernel
theorem dX5_put_8 : decode cX5_put 8 = .ok (.getfield 15, 3) := by decide +kernel
theorem dX5_put_11 : decode cX5_put 11 = .ok (.aload_n 0, 1) := by decide +kernel
theorem dX5_put_12 : decode cX5_put 12 = .ok (.getfield 9, 3) := by decide +kernel
theorem dX5_put_15 : decode cX5_put 15 = .ok (.arraylength, 1) := by decide +kernel
theorem dX5_put_16 : decode cX5_put 16 = .ok (.if_icmp .ge 23, 3) := by decide +kernel
theorem dX5_put_19 : decode cX5_put 19 = .ok (.aload_n 0, 1) := by decide +kernel
theorem dX5_put_20 : decode cX5_put 20 = .ok (.getfield 9, 3) := by decide +kernel
theorem dX5_put_23 : decode cX5_put 23 = .ok (.aload_n 0, 1) := by decide +kernel
theorem dX5_put_24 : decode cX5_put 24 = .ok (.getfield 15, 3) := by decide +kernel
theorem dX5_put_27 : decode cX5_put 27 = .ok (.iload_n 1, 1) := by decide +kernel
theorem dX5_put_28 : decode cX5_put 28 = .ok (.iastore, 1) := by decide +kernel
theorem dX5_put_29 : decode cX5_put 29 = .ok (.aload_n 0, 1) := by decide +kernel
theorem dX5_put_30 : decode cX5_put 30 = .ok (.dup, 1) := by decide +kernel
theorem dX5_put_31 : decode cX5_put 31 = .ok (.getfield 15, 3) := by decide +kernel
theorem dX5_put_34 : decode cX5_put 34 = .ok (.iconst 1, 1) := by decide +kernel
theorem dX5_put_35 : decode cX5_put 35 = .ok (.iadd, 1) := by decide +kernel
theorem dX5_put_36 : decode cX5_put 36 = .ok (.putfield 15, 3) := by decide +kernel
theorem dX5_put_39 : decode cX5_put 39 = .ok (.return_, 1) := by decide +kernel
theorem dX5_from_0 : decode cX5_from 0 = .ok (.iload_n 1, 1) := by decide +kernel
theorem dX5_from_1 : decode cX5_from 1 = .ok (.ifCond .lt 20, 3) := by decide +kernel
theorem dX5_from_4 : decode cX5_from 4 = .ok (.iload_n 1, 1) := by decide +kernel
theorem dX5_from_5 : decode cX5_from 5 = .ok (.aload_n 0, 1) := by decide +kernel
theorem dX5_from_6 : decode cX5_from 6 = .ok (.getfield 15, 3) := by decide +kernel
theorem dX5_from_9 : decode cX5_from 9 = .ok (.if_icmp .ge 12, 3) := by decide +kernel
theorem dX5_from_12 : decode cX5_from 12 = .ok (.iload_n 1, 1) := by decide +kernel
theorem dX5_from_13 : decode cX5_from 13 = .ok (.aload_n 0, 1) := by decide +kernel
theorem dX5_from_14 : decode cX5_from 14 = .ok (.getfield 9, 3) := by decide +kernel
theorem dX5_from_17 : decode cX5_from 17 = .ok (.arraylength, 1) := by decide +kernel
theorem dX5_from_18 : decode cX5_from 18 = .ok (.if_icmp .lt 8, 3) := by decide +kernel
theorem dX5_from_21 : decode cX5_from 21 = .ok (.bipush (-4), 2) := by decide +kernel
theorem dX5_from_23 : decode cX5_from 23 = .ok (.goto 9, 3) := by decide +kernel
theorem dX5_from_26 : decode cX5_from 26 = .ok (.aload_n 0, 1) := by decide +kernel
theorem dX5_from_27 : decode cX5_from 27 = .ok (.getfield 9, 3) := by decide +kernel
theorem dX5_from_30 : decode cX5_from 30 = .ok (.iload_n 1, 1) := by decide +kernel
theorem dX5_from_31 : decode cX5_from 31 = .ok (.iaload, 1) := by decide +kernel
theorem dX5_from_32 : decode cX5_from 32 = .ok (.ireturn, 1) := by decide +kernel
theorem dX5_top_0 : decode cX5_top 0 = .ok (.aload_n 0, 1) := by decide +kernel
theorem dX5_top_1 : decode cX5_top 1 = .ok (.aload_n 0, 1) := by decide +kernel
theorem dX5_top_2 : decode cX5_top 2 = .ok (.getfield 15, 3) := by decide +kernel
theorem dX5_top_5 : decode cX5_top 5 = .ok (.iconst 1, 1) := by decide +kernel
theorem dX5_top_6 : decode cX5_top 6 = .ok (.isub, 1) := by decide +kernel
theorem dX5_top_7 : decode cX5_top 7 = .ok (.invokevirtual 19, 3) := by decide +kernel
theorem dX5_top_10 : decode cX5_top 10 = .ok (.ireturn, 1) := by decide +kernel
theorem dX5_takeOff_0 : decode cX5_takeOff 0 = .ok (.aload_n 0, 1) := by decide +kernel
theorem dX5_takeOff_1 : decode cX5_takeOff 1 = .ok (.invokevirtual 23, 3) := by decide +kernel
theorem dX5_takeOff_4 : decode cX5_takeOff 4 = .ok (.istore_n 1, 1) := by decide +kernel
theorem dX5_takeOff_5 : decode cX5_takeOff 5 = .ok (.aload_n 0, 1) := by decide +kernel
theorem dX5_takeOff_6 : decode cX5_takeOff 6 = .ok (.getfield 15, 3) := by decide +kernel
theorem dX5_takeOff_9 : decode cX5_takeOff 9 = .ok (.ifCond .le 13, 3) := by decide +kernel
theorem dX5_takeOff_12 : decode cX5_takeOff 12 = .ok (.aload_n 0, 1) := by decide +kernel
theorem dX5_takeOff_13 : decode cX5_takeOff 13 = .ok (.dup, 1) := by decide +kernel
theorem dX5_takeOff_14 : decode cX5_takeOff 14 = .ok (.getfield 15, 3) := by decide +kernel
theorem dX5_takeOff_17 : decode cX5_takeOff 17 = .ok (.iconst 1, 1) := by decide +kernel
theorem dX5_takeOff_18 : decode cX5_takeOff 18 = .ok (.isub, 1) := by decide +kernel
theorem dX5_takeOff_19 : decode cX5_takeOff 19 = .ok (.putfield 15, 3) := by decide +kernel
theorem dX5_takeOff_22 : decode cX5_takeOff 22 = .ok (.iload_n 1, 1) := by decide +kernel
theorem dX5_takeOff_23 : decode cX5_takeOff 23 = .ok (.ireturn, 1) := by decide +kernel
theorem dX5_clear_0 : decode cX5_clear 0 = .ok (.aload_n 0, 1) := by decide +kernel
theorem dX5_clear_1 : decode cX5_clear 1 = .ok (.iconst 0, 1) := by decide +kernel
theorem dX5_clear_2 : decode cX5_clear 2 = .ok (.putfield 15, 3) := by decide +kernel
theorem dX5_clear_5 : decode cX5_clear 5 = .ok (.return_, 1) := by decide +kernel
theorem dX6_init_0 : decode cX6_init 0 = .ok (.aload_n 0, 1) := by decide +kernel
theorem dX6_init_1 : decode cX6_init 1 = .ok (.invokespecial 1, 3) := by decide +kernel
theorem dX6_init_4 : decode cX6_init 4 = .ok (.aload_n 0, 1) := by decide +kernel
theorem dX6_init_5 : decode cX6_init 5 = .ok (.bipush 40, 2) := by decide +kernel
theorem dX6_init_7 : decode cX6_init 7 = .ok (.anewarray 9, 3) := by decide +kernel
theorem dX6_init_10 : decode cX6_init 10 = .ok (.putfield 11, 3) := by decide +kernel
theorem dX6_init_13 : decode cX6_init 13 = .ok (.aload_n 0, 1) := by decide +kernel
theorem dX6_init_14 : decode cX6_init 14 = .ok (.iconst 3, 1) := by decide +kernel
theorem dX6_init_15 : decode cX6_init 15 = .ok (.anewarray 15, 3) := by decide +kernel
theorem dX6_init_18 : decode cX6_init 18 = .ok (.putfield 17, 3) := by decide +kernel
theorem dX6_init_21 : decode cX6_init 21 = .ok (.aload_n 0, 1) := by decide +kernel
theorem dX6_init_22 : decode cX6_init 22 = .ok (.iconst 5, 1) := by decide +kernel
theorem dX6_init_23 : decode cX6_init 23 = .ok (.anewarray 21, 3) := by decide +kernel
theorem dX6_init_26 : decode cX6_init 26 = .ok (.putfield 23, 3) := by decide +kernel
theorem dX6_init_29 : decode cX6_init 29 = .ok (.aload_n 0, 1) := by decide +kernel
theorem dX6_init_30 : decode cX6_init 30 = .ok (.new 27, 3) := by decide +kernel
theorem dX6_init_33 : decode cX6_init 33 = .ok (.dup, 1) := by decide +kernel
theorem dX6_init_34 : decode cX6_init 34 = .ok (.invokespecial 29, 3) := by decide +kernel
theorem dX6_init_37 : decode cX6_init 37 = .ok (.putfield 30, 3) := by decide +kernel
theorem dX6_init_40 : decode cX6_init 40 = .ok (.aload_n 0, 1) := by decide +kernel
theorem dX6_init_41 : decode cX6_init 41 = .ok (.new 34, 3) := by decide +kernel
theorem dX6_init_44 : decode cX6_init 44 = .ok (.dup, 1) := by decide +kernel
theorem dX6_init_45 : decode cX6_init 45 = .ok (.invokespecial 36, 3) := by decide +kernel
theorem dX6_init_48 : decode cX6_init 48 = .ok (.putfield 37, 3) := by decide +kernel
theorem dX6_init_51 : decode cX6_init 51 = .ok (.aload_n 0, 1) := by decide +kernel
theorem dX6_init_52 : decode cX6_init 52 = .ok (.new 41, 3) := by decide +kernel
theorem dX6_init_55 : decode cX6_init 55 = .ok (.dup, 1) := by decide +kernel
theorem dX6_init_56 : decode cX6_init 56 = .ok (.invokespecial 43, 3) := by decide +kernel
theorem dX6_init_59 : decode cX6_init 59 = .ok (.putfield 44, 3) := by decide +kernel
theorem dX6_init_62 : decode cX6_init 62 = .ok (.iconst 0, 1) := by decide +kernel
theorem dX6_init_63 : decode cX6_init 63 = .ok (.istore_n 1, 1) := by decide +kernel
theorem dX6_init_64 : decode cX6_init 64 = .ok (.iload_n 1, 1) := by decide +kernel
theorem dX6_init_65 : decode cX6_init 65 = .ok (.aload_n 0, 1) := by decide +kernel
theorem dX6_init_66 : decode cX6_init 66 = .ok (.getfield 11, 3) := by decide +kernel
theorem dX6_init_69 : decode cX6_init 69 = .ok (.arraylength, 1) := by decide +kernel
theorem dX6_init_70 : decode cX6_init 70 = .ok (.if_icmp .ge 22, 3) := by decide +kernel
theorem dX6_init_73 : decode cX6_init 73 = .ok (.aload_n 0, 1) := by decide +kernel
theorem dX6_init_74 : decode cX6_init 74 = .ok (.getfield 11, 3) := by decide +kernel
theorem dX6_init_77 : decode cX6_init 77 = .ok (.iload_n 1, 1) := by decide +kernel
theorem dX6_init_78 : decode cX6_init 78 = .ok (.new 9, 3) := by decide +kernel
theorem dX6_init_81 : decode cX6_init 81 = .ok (.dup, 1) := by decide +kernel
theorem dX6_init_82 : decode cX6_init 82 = .ok (.invokespecial 48, 3) := by decide +kernel
theorem dX6_init_85 : decode cX6_init 85 = .ok (.aastore, 1) := by decide +kernel
theorem dX6_init_86 : decode cX6_init 86 = .ok (.iinc 1 1, 3) := by decide +kernel
theorem dX6_init_89 : decode cX6_init 89 = .ok (.goto (-25), 3) := by decide +kernel
theorem dX6_init_92 : decode cX6_init 92 = .ok (.iconst 0, 1) := by decide +kernel
theorem dX6_init_93 : decode cX6_init 93 = .ok (.istore_n 1, 1) := by decide +kernel
theorem dX6_init_94 : decode cX6_init 94 = .ok (.iload_n 1, 1) := by decide +kernel
theorem dX6_init_95 : decode cX6_init 95 = .ok (.aload_n 0, 1) := by decide +kernel
theorem dX6_init_96 : decode cX6_init 96 = .ok (.getfield 17, 3) := by decide +kernel
theorem dX6_init_99 : decode cX6_init 99 = .ok (.arraylength, 1) := by decide +kernel
theorem dX6_init_100 : decode cX6_init 100 = .ok (.if_icmp .ge 22, 3) := by decide +kernel
theorem dX6_init_103 : decode cX6_init 103 = .ok (.aload_n 0, 1) := by decide +kernel
theorem dX6_init_104 : decode cX6_init 104 = .ok (.getfield 17, 3) := by decide +kernel
theorem dX6_init_107 : decode cX6_init 107 = .ok (.iload_n 1, 1) := by decide +kernel
theorem dX6_init_108 : decode cX6_init 108 = .ok (.new 15, 3) := by decide +kernel
theorem dX6_init_111 : decode cX6_init 111 = .ok (.dup, 1) := by decide +kernel
theorem dX6_init_112 : decode cX6_init 112 = .ok (.invokespecial 49, 3) := by decide +kernel
theorem dX6_init_115 : decode cX6_init 115 = .ok (.aastore, 1) := by decide +kernel
theorem dX6_init_116 : decode cX6_init 116 = .ok (.iinc 1 1, 3) := by decide +kernel
theorem dX6_init_119 : decode cX6_init 119 = .ok (.goto (-25), 3) := by decide +kernel
theorem dX6_init_122 : decode cX6_init 122 = .ok (.iconst 0, 1) := by decide +kernel
theorem dX6_init_123 : decode cX6_init 123 = .ok (.istore_n 1, 1) := by decide +kernel
theorem dX6_init_124 : decode cX6_init 124 = .ok (.iload_n 1, 1) := by decide +kernel
theorem dX6_init_125 : decode cX6_init 125 = .ok (.aload_n 0, 1) := by decide +kernel
theorem dX6_init_126 : decode cX6_init 126 = .ok (.getfield 23, 3) := by decide +kernel
theorem dX6_init_129 : decode cX6_init 129 = .ok (.arraylength, 1) := by decide +kernel
theorem dX6_init_130 : decode cX6_init 130 = .ok (.if_icmp .ge 22, 3) := by decide +kernel
theorem dX6_init_133 : decode cX6_init 133 = .ok (.aload_n 0, 1) := by decide +kernel
theorem dX6_init_134 : decode cX6_init 134 = .ok (.getfield 23, 3) := by decide +kernel
theorem dX6_init_137 : decode cX6_init 137 = .ok (.iload_n 1, 1) := by decide +kernel
theorem dX6_init_138 : decode cX6_init 138 = .ok (.new 21, 3) := by decide +kernel
theorem dX6_init_141 : decode cX6_init 141 = .ok (.dup, 1) := by decide +kernel
theorem dX6_init_142 : decode cX6_init 142 = .ok (.invokespecial 50, 3) := by decide +kernel
theorem dX6_init_145 : decode cX6_init 145 = .ok (.aastore, 1) := by decide +kernel
theorem dX6_init_146 : decode cX6_init 146 = .ok (.iinc 1 1, 3) := by decide +kernel
theorem dX6_init_149 : decode cX6_init 149 = .ok (.goto (-25), 3) := by decide +kernel
theorem dX6_init_152 : decode cX6_init 152 = .ok (.aload_n 0, 1) := by decide +kernel
theorem dX6_init_153 : decode cX6_init 153 = .ok (.bipush 15, 2) := by decide +kernel
theorem dX6_init_155 : decode cX6_init 155 = .ok (.putfield 51, 3) := by decide +kernel
theorem dX6_init_158 : decode cX6_init 158 = .ok (.return_, 1) := by decide +kernel
theorem dX6_part_0 : decode cX6_part 0 = .ok (.iload_n 1, 1) := by decide +kernel
theorem dX6_part_1 : decode cX6_part 1 = .ok (.iload_n 2, 1) := by decide +kernel
theorem dX6_part_2 : decode cX6_part 2 = .ok (.iload_n 3, 1) := by decide +kernel
theorem dX6_part_3 : decode cX6_part 3 = .ok (.invokestatic 55, 3) := by decide +kernel
theorem dX6_part_6 : decode cX6_part 6 = .ok (.ifCond .ne 5, 3) := by decide +kernel
theorem dX6_part_9 : decode cX6_part 9 = .ok (.iconst (-1), 1) := by decide +kernel
theorem dX6_part_10 : decode cX6_part 10 = .ok (.ireturn, 1) := by decide +kernel
theorem dX6_part_11 : decode cX6_part 11 = .ok (.aload_n 0, 1) := by decide +kernel
theorem dX6_part_12 : decode cX6_part 12 = .ok (.getfield 59, 3) := by decide +kernel
theorem dX6_part_15 : decode cX6_part 15 = .ok (.bipush 40, 2) := by decide +kernel
theorem dX6_part_17 : decode cX6_part 17 = .ok (.if_icmp .lt 6, 3) := by decide +kernel
theorem dX6_part_20 : decode cX6_part 20 = .ok (.bipush (-3), 2) := by decide +kernel
theorem dX6_part_22 : decode cX6_part 22 = .ok (.ireturn, 1) := by decide +kernel
theorem dX6_part_23 : decode cX6_part 23 = .ok (.aload_n 0, 1) := by decide +kernel
theorem dX6_part_24 : decode cX6_part 24 = .ok (.iload_n 1, 1) := by decide +kernel
theorem dX6_part_25 : decode cX6_part 25 = .ok (.iload_n 2, 1) := by decide +kernel
theorem dX6_part_26 : decode cX6_part 26 = .ok (.iload_n 3, 1) := by decide +kernel
theorem dX6_part_27 : decode cX6_part 27 = .ok (.iconst 0, 1) := by decide +kernel
theorem dX6_part_28 : decode cX6_part 28 = .ok (.invokevirtual 62, 3) := by decide +kernel
theorem dX6_part_31 : decode cX6_part 31 = .ok (.ireturn, 1) := by decide +kernel
theorem dX6_need_0 : decode cX6_need 0 = .ok (.aload_n 0, 1) := by decide +kernel
theorem dX6_need_1 : decode cX6_need 1 = .ok (.iload_n 1, 1) := by decide +kernel
theorem dX6_need_2 : decode cX6_need 2 = .ok (.invokevirtual 66, 3) := by decide +kernel
theorem dX6_need_5 : decode cX6_need 5 = .ok (.astore_n 3, 1) := by decide +kernel
theorem dX6_need_6 : decode cX6_need 6 = .ok (.aload_n 3, 1) := by decide +kernel
theorem dX6_need_7 : decode cX6_need 7 = .ok (.ifnull 14, 3) := by decide +kernel
theorem dX6_need_10 : decode cX6_need 10 = .ok (.iload_n 2, 1) := by decide +kernel
theorem dX6_need_11 : decode cX6_need 11 = .ok (.ifCond .lt 10, 3) := by decide +kernel
theorem dX6_need_14 : decode cX6_need 14 = .ok (.iload_n 2, 1) := by decide +kernel
theorem dX6_need_15 : decode cX6_need 15 = .ok (.sipush 1000, 3) := by decide +kernel
theorem dX6_need_18 : decode cX6_need 18 = .ok (.if_icmp .le 5, 3) := by decide +kernel
theorem dX6_need_21 : decode cX6_need 21 = .ok (.iconst (-1), 1) := by decide +kernel
theorem dX6_need_22 : decode cX6_need 22 = .ok (.ireturn, 1) := by decide +kernel
theorem dX6_need_23 : decode cX6_need 23 = .ok (.aload_n 3, 1) := by decide +kernel
theorem dX6_need_24 : decode cX6_need 24 = .ok (.getfield 70, 3) := by decide +kernel
theorem dX6_need_27 : decode cX6_need 27 = .ok (.istore 4, 2) := by decide +kernel
theorem dX6_need_29 : decode cX6_need 29 = .ok (.aload_n 3, 1) := by decide +kernel
theorem dX6_need_30 : decode cX6_need 30 = .ok (.iload_n 2, 1) := by decide +kernel
theorem dX6_need_31 : decode cX6_need 31 = .ok (.putfield 70, 3) := by decide +kernel
theorem dX6_need_34 : decode cX6_need 34 = .ok (.iload 4, 2) := by decide +kernel
theorem dX6_need_36 : decode cX6_need 36 = .ok (.ireturn, 1) := by decide +kernel
theorem dX6_casts_0 : decode cX6_casts 0 = .ok (.aload_n 0, 1) := by decide +kernel
theorem dX6_casts_1 : decode cX6_casts 1 = .ok (.iload_n 1, 1) := by decide +kernel
theorem dX6_casts_2 : decode cX6_casts 2 = .ok (.invokevirtual 66, 3) := by decide +kernel
theorem dX6_casts_5 : decode cX6_casts 5 = .ok (.ifnull 25, 3) := by decide +kernel
theorem dX6_casts_8 : decode cX6_casts 8 = .ok (.aload_n 0, 1) := by decide +kernel
theorem dX6_casts_9 : decode cX6_casts 9 = .ok (.iload_n 2, 1) := by decide +kernel
theorem dX6_casts_10 : decode cX6_casts 10 = .ok (.invokevirtual 66, 3) := by decide +kernel
theorem dX6_casts_13 : decode cX6_casts 13 = .ok (.ifnull 17, 3) := by decide +kernel
theorem dX6_casts_16 : decode cX6_casts 16 = .ok (.iload_n 1, 1) := by decide +kernel
theorem dX6_casts_17 : decode cX6_casts 17 = .ok (.iload_n 2, 1) := by decide +kernel
theorem dX6_casts_18 : decode cX6_casts 18 = .ok (.if_icmp .gt 12, 3) := by decide +kernel
theorem dX6_casts_21 : decode cX6_casts 21 = .ok (.iload_n 3, 1) := by decide +kernel
theorem dX6_casts_22 : decode cX6_casts 22 = .ok (.ifCond .lt 8, 3) := by decide +kernel
theorem dX6_casts_25 : decode cX6_casts 25 = .ok (.iload_n 3, 1) := by decide +kernel
theorem dX6_casts_26 : decode cX6_casts 26 = .ok (.iconst 1, 1) := by decide +kernel
theorem dX6_casts_27 : decode cX6_casts 27 = .ok (.if_icmp .le 5, 3) := by decide +kernel
theorem dX6_casts_30 : decode cX6_casts 30 = .ok (.iconst (-1), 1) := by decide +kernel
theorem dX6_casts_31 : decode cX6_casts 31 = .ok (.ireturn, 1) := by decide +kernel
theorem dX6_casts_32 : decode cX6_casts 32 = .ok (.iconst 0, 1) := by decide +kernel
theorem dX6_casts_33 : decode cX6_casts 33 = .ok (.istore 4, 2) := by decide +kernel
theorem dX6_casts_35 : decode cX6_casts 35 = .ok (.iload_n 1, 1) := by decide +kernel
theorem dX6_casts_36 : decode cX6_casts 36 = .ok (.istore 5, 2) := by decide +kernel
theorem dX6_casts_38 : decode cX6_casts 38 = .ok (.iload 5, 2) := by decide +kernel
theorem dX6_casts_40 : decode cX6_casts 40 = .ok (.iload_n 2, 1) := by decide +kernel
theorem dX6_casts_41 : decode cX6_casts 41 = .ok (.if_icmp .gt 24, 3) := by decide +kernel
theorem dX6_casts_44 : decode cX6_casts 44 = .ok (.aload_n 0, 1) := by decide +kernel
theorem dX6_casts_45 : decode cX6_casts 45 = .ok (.iload 5, 2) := by decide +kernel
theorem dX6_casts_47 : decode cX6_casts 47 = .ok (.invokevirtual 66, 3) := by decide +kernel
theorem dX6_casts_50 : decode cX6_casts 50 = .ok (.invokestatic 73, 3) := by decide +kernel
theorem dX6_casts_53 : decode cX6_casts 53 = .ok (.ifCond .eq 6, 3) := by decide +kernel
theorem dX6_casts_56 : decode cX6_casts 56 = .ok (.iinc 4 1, 3) := by decide +kernel
theorem dX6_casts_59 : decode cX6_casts 59 = .ok (.iinc 5 1, 3) := by decide +kernel
theorem dX6_casts_62 : decode cX6_casts 62 = .ok (.goto (-24), 3) := by decide +kernel
theorem dX6_casts_65 : decode cX6_casts 65 = .ok (.iload 4, 2) := by decide +kernel
theorem dX6_casts_67 : decode cX6_casts 67 = .ok (.bipush 12, 2) := by decide +kernel
theorem dX6_casts_69 : decode cX6_casts 69 = .ok (.if_icmp .le 5, 3) := by decide +kernel
theorem dX6_casts_72 : decode cX6_casts 72 = .ok (.iconst (-1), 1) := by decide +kernel
theorem dX6_casts_73 : decode cX6_casts 73 = .ok (.ireturn, 1) := by decide +kernel
theorem dX6_casts_74 : decode cX6_casts 74 = .ok (.iconst 0, 1) := by decide +kernel
theorem dX6_casts_75 : decode cX6_casts 75 = .ok (.istore 5, 2) := by decide +kernel
theorem dX6_casts_77 : decode cX6_casts 77 = .ok (.iconst 0, 1) := by decide +kernel
theorem dX6_casts_78 : decode cX6_casts 78 = .ok (.istore 6, 2) := by decide +kernel
theorem dX6_casts_80 : decode cX6_casts 80 = .ok (.iload 6, 2) := by decide +kernel
theorem dX6_casts_82 : decode cX6_casts 82 = .ok (.bipush 8, 2) := by decide +kernel
theorem dX6_casts_84 : decode cX6_casts 84 = .ok (.if_icmp .ge 43, 3) := by decide +kernel
theorem dX6_casts_87 : decode cX6_casts 87 = .ok (.aload_n 0, 1) := by decide +kernel
theorem dX6_casts_88 : decode cX6_casts 88 = .ok (.iload_n 1, 1) := by decide +kernel
theorem dX6_casts_89 : decode cX6_casts 89 = .ok (.iload_n 2, 1) := by decide +kernel
theorem dX6_casts_90 : decode cX6_casts 90 = .ok (.iload 6, 2) := by decide +kernel
theorem dX6_casts_92 : decode cX6_casts 92 = .ok (.invokevirtual 77, 3) := by decide +kernel
theorem dX6_casts_95 : decode cX6_casts 95 = .ok (.iload 5, 2) := by decide +kernel
theorem dX6_casts_97 : decode cX6_casts 97 = .ok (.iload_n 3, 1) := by decide +kernel
theorem dX6_casts_98 : decode cX6_casts 98 = .ok (.ifCond .ne 13, 3) := by decide +kernel
theorem dX6_casts_101 : decode cX6_casts 101 = .ok (.aload_n 0, 1) := by decide +kernel
theorem dX6_casts_102 : decode cX6_casts 102 = .ok (.getfield 37, 3) := by decide +kernel
theorem dX6_casts_105 : decode cX6_casts 105 = .ok (.invokevirtual 81, 3) := by decide +kernel
theorem dX6_casts_108 : decode cX6_casts 108 = .ok (.goto 10, 3) := by decide +kernel
theorem dX6_casts_111 : decode cX6_casts 111 = .ok (.aload_n 0, 1) := by decide +kernel
theorem dX6_casts_112 : decode cX6_casts 112 = .ok (.getfield 37, 3) := by decide +kernel
theorem dX6_casts_115 : decode cX6_casts 115 = .ok (.invokevirtual 85, 3) := by decide +kernel
theorem dX6_casts_118 : decode cX6_casts 118 = .ok (.iadd, 1) := by decide +kernel
theorem dX6_casts_119 : decode cX6_casts 119 = .ok (.istore 5, 2) := by decide +kernel
theorem dX6_casts_121 : decode cX6_casts 121 = .ok (.iinc 6 1, 3) := by decide +kernel
theorem dX6_casts_124 : decode cX6_casts 124 = .ok (.goto (-44), 3) := by decide +kernel
theorem dX6_casts_127 : decode cX6_casts 127 = .ok (.iload 5, 2) := by decide +kernel
theorem dX6_casts_129 : decode cX6_casts 129 = .ok (.ireturn, 1) := by decide +kernel
theorem dX6_cast_0 : decode cX6_cast 0 = .ok (.aload_n 0, 1) := by decide +kernel
theorem dX6_cast_1 : decode cX6_cast 1 = .ok (.iload_n 1, 1) := by decide +kernel
theorem dX6_cast_2 : decode cX6_cast 2 = .ok (.invokevirtual 88, 3) := by decide +kernel
theorem dX6_cast_5 : decode cX6_cast 5 = .ok (.astore 4, 2) := by decide +kernel
theorem dX6_cast_7 : decode cX6_cast 7 = .ok (.aload 4, 2) := by decide +kernel
theorem dX6_cast_9 : decode cX6_cast 9 = .ok (.ifnull 24, 3) := by decide +kernel
theorem dX6_cast_12 : decode cX6_cast 12 = .ok (.aload_n 0, 1) := by decide +kernel
theorem dX6_cast_13 : decode cX6_cast 13 = .ok (.iload_n 2, 1) := by decide +kernel
theorem dX6_cast_14 : decode cX6_cast 14 = .ok (.invokevirtual 66, 3) := by decide +kernel
theorem dX6_cast_17 : decode cX6_cast 17 = .ok (.ifnull 16, 3) := by decide +kernel
theorem dX6_cast_20 : decode cX6_cast 20 = .ok (.iload_n 3, 1) := by decide +kernel
theorem dX6_cast_21 : decode cX6_cast 21 = .ok (.ifCond .eq 12, 3) := by decide +kernel
theorem dX6_cast_24 : decode cX6_cast 24 = .ok (.aload_n 0, 1) := by decide +kernel
theorem dX6_cast_25 : decode cX6_cast 25 = .ok (.iload_n 2, 1) := by decide +kernel
theorem dX6_cast_26 : decode cX6_cast 26 = .ok (.iload_n 3, 1) := by decide +kernel
theorem dX6_cast_27 : decode cX6_cast 27 = .ok (.invokevirtual 92, 3) := by decide +kernel
theorem dX6_cast_30 : decode cX6_cast 30 = .ok (.ifCond .ne 5, 3) := by decide +kernel
theorem dX6_cast_33 : decode cX6_cast 33 = .ok (.iconst (-1), 1) := by decide +kernel
theorem dX6_cast_34 : decode cX6_cast 34 = .ok (.ireturn, 1) := by decide +kernel
theorem dX6_cast_35 : decode cX6_cast 35 = .ok (.aload 4, 2) := by decide +kernel
theorem dX6_cast_37 : decode cX6_cast 37 = .ok (.getfield 96, 3) := by decide +kernel
theorem dX6_cast_40 : decode cX6_cast 40 = .ok (.ifCond .gt 12, 3) := by decide +kernel
theorem dX6_cast_43 : decode cX6_cast 43 = .ok (.aload_n 0, 1) := by decide +kernel
theorem dX6_cast_44 : decode cX6_cast 44 = .ok (.iload_n 2, 1) := by decide +kernel
theorem dX6_cast_45 : decode cX6_cast 45 = .ok (.iload_n 3, 1) := by decide +kernel
theorem dX6_cast_46 : decode cX6_cast 46 = .ok (.invokevirtual 98, 3) := by decide +kernel
theorem dX6_cast_49 : decode cX6_cast 49 = .ok (.ifCond .ne 6, 3) := by decide +kernel
theorem dX6_cast_52 : decode cX6_cast 52 = .ok (.bipush (-2), 2) := by decide +kernel
theorem dX6_cast_54 : decode cX6_cast 54 = .ok (.ireturn, 1) := by decide +kernel
theorem dX6_cast_55 : decode cX6_cast 55 = .ok (.iconst 0, 1) := by decide +kernel
theorem dX6_cast_56 : decode cX6_cast 56 = .ok (.istore 5, 2) := by decide +kernel
theorem dX6_cast_58 : decode cX6_cast 58 = .ok (.iload 5, 2) := by decide +kernel
theorem dX6_cast_60 : decode cX6_cast 60 = .ok (.bipush 32, 2) := by decide +kernel
theorem dX6_cast_62 : decode cX6_cast 62 = .ok (.if_icmp .ge 54, 3) := by decide +kernel
theorem dX6_cast_65 : decode cX6_cast 65 = .ok (.aload_n 0, 1) := by decide +kernel
theorem dX6_cast_66 : decode cX6_cast 66 = .ok (.iload_n 2, 1) := by decide +kernel
theorem dX6_cast_67 : decode cX6_cast 67 = .ok (.iload 5, 2) := by decide +kernel
theorem dX6_cast_69 : decode cX6_cast 69 = .ok (.iadd, 1) := by decide +kernel
theorem dX6_cast_70 : decode cX6_cast 70 = .ok (.invokevirtual 66, 3) := by decide +kernel
theorem dX6_cast_73 : decode cX6_cast 73 = .ok (.astore 6, 2) := by decide +kernel
theorem dX6_cast_75 : decode cX6_cast 75 = .ok (.aload 6, 2) := by decide +kernel
theorem dX6_cast_77 : decode cX6_cast 77 = .ok (.ifnull 33, 3) := by decide +kernel
theorem dX6_cast_80 : decode cX6_cast 80 = .ok (.iload_n 3, 1) := by decide +kernel
theorem dX6_cast_81 : decode cX6_cast 81 = .ok (.iload 5, 2) := by decide +kernel
theorem dX6_cast_83 : decode cX6_cast 83 = .ok (.invokestatic 101, 3) := by decide +kernel
theorem dX6_cast_86 : decode cX6_cast 86 = .ok (.ifCond .eq 24, 3) := by decide +kernel
theorem dX6_cast_89 : decode cX6_cast 89 = .ok (.aload 6, 2) := by decide +kernel
theorem dX6_cast_91 : decode cX6_cast 91 = .ok (.iconst 1, 1) := by decide +kernel
theorem dX6_cast_92 : decode cX6_cast 92 = .ok (.iload_n 1, 1) := by decide +kernel
theorem dX6_cast_93 : decode cX6_cast 93 = .ok (.invokevirtual 104, 3) := by decide +kernel
theorem dX6_cast_96 : decode cX6_cast 96 = .ok (.aload 4, 2) := by decide +kernel
theorem dX6_cast_98 : decode cX6_cast 98 = .ok (.aload 6, 2) := by decide +kernel
theorem dX6_cast_100 : decode cX6_cast 100 = .ok (.getfield 108, 3) := by decide +kernel
theorem dX6_cast_103 : decode cX6_cast 103 = .ok (.aload_n 0, 1) := by decide +kernel
theorem dX6_cast_104 : decode cX6_cast 104 = .ok (.getfield 111, 3) := by decide +kernel
theorem dX6_cast_107 : decode cX6_cast 107 = .ok (.invokevirtual 114, 3) := by decide +kernel
theorem dX6_cast_110 : decode cX6_cast 110 = .ok (.iinc 5 1, 3) := by decide +kernel
theorem dX6_cast_113 : decode cX6_cast 113 = .ok (.goto (-55), 3) := by decide +kernel
theorem dX6_cast_116 : decode cX6_cast 116 = .ok (.aload_n 0, 1) := by decide +kernel
theorem dX6_cast_117 : decode cX6_cast 117 = .ok (.dup, 1) := by decide +kernel
theorem dX6_cast_118 : decode cX6_cast 118 = .ok (.getfield 117, 3) := by decide +kernel
theorem dX6_cast_121 : decode cX6_cast 121 = .ok (.iconst 1, 1) := by decide +kernel
theorem dX6_cast_122 : decode cX6_cast 122 = .ok (.iadd, 1) := by decide +kernel
theorem dX6_cast_123 : decode cX6_cast 123 = .ok (.putfield 117, 3) := by decide +kernel
theorem dX6_cast_126 : decode cX6_cast 126 = .ok (.aload 4, 2) := by decide +kernel
theorem dX6_cast_128 : decode cX6_cast 128 = .ok (.getfield 96, 3) := by decide +kernel
theorem dX6_cast_131 : decode cX6_cast 131 = .ok (.ireturn, 1) := by decide +kernel
theorem dX6_warmth_0 : decode cX6_warmth 0 = .ok (.iload_n 1, 1) := by decide +kernel
theorem dX6_warmth_1 : decode cX6_warmth 1 = .ok (.bipush (-20), 2) := by decide +kernel
theorem dX6_warmth_3 : decode cX6_warmth 3 = .ok (.if_icmp .lt 9, 3) := by decide +kernel
theorem dX6_warmth_6 : decode cX6_warmth 6 = .ok (.iload_n 1, 1) := by decide +kernel
theorem dX6_warmth_7 : decode cX6_warmth 7 = .ok (.bipush 60, 2) := by decide +kernel
theorem dX6_warmth_9 : decode cX6_warmth 9 = .ok (.if_icmp .le 6, 3) := by decide +kernel
theorem dX6_warmth_12 : decode cX6_warmth 12 = .ok (.bipush (-100), 2) := by decide +kernel
theorem dX6_warmth_14 : decode cX6_warmth 14 = .ok (.ireturn, 1) := by decide +kernel
theorem dX6_warmth_15 : decode cX6_warmth 15 = .ok (.aload_n 0, 1) := by decide +kernel
theorem dX6_warmth_16 : decode cX6_warmth 16 = .ok (.getfield 51, 3) := by decide +kernel
theorem dX6_warmth_19 : decode cX6_warmth 19 = .ok (.istore_n 2, 1) := by decide +kernel
theorem dX6_warmth_20 : decode cX6_warmth 20 = .ok (.aload_n 0, 1) := by decide +kernel
theorem dX6_warmth_21 : decode cX6_warmth 21 = .ok (.iload_n 1, 1) := by decide +kernel
theorem dX6_warmth_22 : decode cX6_warmth 22 = .ok (.putfield 51, 3) := by decide +kernel
theorem dX6_warmth_25 : decode cX6_warmth 25 = .ok (.iload_n 2, 1) := by decide +kernel
theorem dX6_warmth_26 : decode cX6_warmth 26 = .ok (.ireturn, 1) := by decide +kernel
theorem dX6_hours_0 : decode cX6_hours 0 = .ok (.iload_n 1, 1) := by decide +kernel
theorem dX6_hours_1 : decode cX6_hours 1 = .ok (.iconst 1, 1) := by decide +kernel
theorem dX6_hours_2 : decode cX6_hours 2 = .ok (.if_icmp .lt 10, 3) := by decide +kernel
theorem dX6_hours_5 : decode cX6_hours 5 = .ok (.iload_n 1, 1) := by decide +kernel
theorem dX6_hours_6 : decode cX6_hours 6 = .ok (.sipush 200, 3) := by decide +kernel
theorem dX6_hours_9 : decode cX6_hours 9 = .ok (.if_icmp .le 5, 3) := by decide +kernel
theorem dX6_hours_12 : decode cX6_hours 12 = .ok (.iconst (-1), 1) := by decide +kernel
theorem dX6_hours_13 : decode cX6_hours 13 = .ok (.ireturn, 1) := by decide +kernel
theorem dX6_hours_14 : decode cX6_hours 14 = .ok (.aload_n 0, 1) := by decide +kernel
theorem dX6_hours_15 : decode cX6_hours 15 = .ok (.getfield 111, 3) := by decide +kernel
theorem dX6_hours_18 : decode cX6_hours 18 = .ok (.iload_n 1, 1) := by decide +kernel
theorem dX6_hours_19 : decode cX6_hours 19 = .ok (.iadd, 1) := by decide +kernel
theorem dX6_hours_20 : decode cX6_hours 20 = .ok (.ldc 120, 2) := by decide +kernel
theorem dX6_hours_22 : decode cX6_hours 22 = .ok (.if_icmp .le 6, 3) := by decide +kernel
theorem dX6_hours_25 : decode cX6_hours 25 = .ok (.bipush (-3), 2) := by decide +kernel
theorem dX6_hours_27 : decode cX6_hours 27 = .ok (.ireturn, 1) := by decide +kernel
theorem dX6_hours_28 : decode cX6_hours 28 = .ok (.aload_n 0, 1) := by decide +kernel
theorem dX6_hours_29 : decode cX6_hours 29 = .ok (.dup, 1) := by decide +kernel
theorem dX6_hours_30 : decode cX6_hours 30 = .ok (.getfield 111, 3) := by decide +kernel
theorem dX6_hours_33 : decode cX6_hours 33 = .ok (.iload_n 1, 1) := by decide +kernel
theorem dX6_hours_34 : decode cX6_hours 34 = .ok (.iadd, 1) := by decide +kernel
theorem dX6_hours_35 : decode cX6_hours 35 = .ok (.putfield 111, 3) := by decide +kernel
theorem dX6_hours_38 : decode cX6_hours 38 = .ok (.iconst 0, 1) := by decide +kernel
theorem dX6_hours_39 : decode cX6_hours 39 = .ok (.aload_n 0, 1) := by decide +kernel
theorem dX6_hours_40 : decode cX6_hours 40 = .ok (.getfield 51, 3) := by decide +kernel
theorem dX6_hours_43 : decode cX6_hours 43 = .ok (.bipush 10, 2) := by decide +kernel
theorem dX6_hours_45 : decode cX6_hours 45 = .ok (.iadd, 1) := by decide +kernel
theorem dX6_hours_46 : decode cX6_hours 46 = .ok (.invokestatic 121, 3) := by decide +kernel
theorem dX6_hours_49 : decode cX6_hours 49 = .ok (.iload_n 1, 1) := by decide +kernel
theorem dX6_hours_50 : decode cX6_hours 50 = .ok (.imul, 1) := by decide +kernel
theorem dX6_hours_51 : decode cX6_hours 51 = .ok (.istore_n 2, 1) := by decide +kernel
theorem dX6_hours_52 : decode cX6_hours 52 = .ok (.iconst 0, 1) := by decide +kernel
theorem dX6_hours_53 : decode cX6_hours 53 = .ok (.istore_n 3, 1) := by decide +kernel
theorem dX6_hours_54 : decode cX6_hours 54 = .ok (.iload_n 3, 1) := by decide +kernel
theorem dX6_hours_55 : decode cX6_hours 55 = .ok (.iconst 3, 1) := by decide +kernel
theorem dX6_hours_56 : decode cX6_hours 56 = .ok (.if_icmp .ge 40, 3) := by decide +kernel
theorem dX6_hours_59 : decode cX6_hours 59 = .ok (.aload_n 0, 1) := by decide +kernel
theorem dX6_hours_60 : decode cX6_hours 60 = .ok (.iload_n 3, 1) := by decide +kernel
theorem dX6_hours_61 : decode cX6_hours 61 = .ok (.invokevirtual 88, 3) := by decide +kernel
theorem dX6_hours_64 : decode cX6_hours 64 = .ok (.astore 4, 2) := by decide +kernel
theorem dX6_hours_66 : decode cX6_hours 66 = .ok (.aload 4, 2) := by decide +kernel
theorem dX6_hours_68 : decode cX6_hours 68 = .ok (.ifnull 22, 3) := by decide +kernel
theorem dX6_hours_71 : decode cX6_hours 71 = .ok (.aload 4, 2) := by decide +kernel
theorem dX6_hours_73 : decode cX6_hours 73 = .ok (.getfield 96, 3) := by decide +kernel
theorem dX6_hours_76 : decode cX6_hours 76 = .ok (.ifCond .le 14, 3) := by decide +kernel
theorem dX6_hours_79 : decode cX6_hours 79 = .ok (.aload 4, 2) := by decide +kernel
theorem dX6_hours_81 : decode cX6_hours 81 = .ok (.dup, 1) := by decide +kernel
theorem dX6_hours_82 : decode cX6_hours 82 = .ok (.getfield 127, 3) := by decide +kernel
theorem dX6_hours_85 : decode cX6_hours 85 = .ok (.iload_n 2, 1) := by decide +kernel
theorem dX6_hours_86 : decode cX6_hours 86 = .ok (.iadd, 1) := by decide +kernel
theorem dX6_hours_87 : decode cX6_hours 87 = .ok (.putfield 127, 3) := by decide +kernel
theorem dX6_hours_90 : decode cX6_hours 90 = .ok (.iinc 3 1, 3) := by decide +kernel
theorem dX6_hours_93 : decode cX6_hours 93 = .ok (.goto (-39), 3) := by decide +kernel
theorem dX6_hours_96 : decode cX6_hours 96 = .ok (.aload_n 0, 1) := by decide +kernel
theorem dX6_hours_97 : decode cX6_hours 97 = .ok (.getfield 111, 3) := by decide +kernel
theorem dX6_hours_100 : decode cX6_hours 100 = .ok (.ireturn, 1) := by decide +kernel
theorem dX6_letGo_0 : decode cX6_letGo 0 = .ok (.aload_n 0, 1) := by decide +kernel
theorem dX6_letGo_1 : decode cX6_letGo 1 = .ok (.iload_n 1, 1) := by decide +kernel
theorem dX6_letGo_2 : decode cX6_letGo 2 = .ok (.invokevirtual 88, 3) := by decide +kernel
theorem dX6_letGo_5 : decode cX6_letGo 5 = .ok (.astore_n 2, 1) := by decide +kernel
theorem dX6_letGo_6 : decode cX6_letGo 6 = .ok (.aload_n 2, 1) := by decide +kernel
theorem dX6_letGo_7 : decode cX6_letGo 7 = .ok (.ifnonnull 5, 3) := by decide +kernel
theorem dX6_letGo_10 : decode cX6_letGo 10 = .ok (.iconst (-1), 1) := by decide +kernel
theorem dX6_letGo_11 : decode cX6_letGo 11 = .ok (.ireturn, 1) := by decide +kernel
theorem dX6_letGo_12 : decode cX6_letGo 12 = .ok (.aload_n 2, 1) := by decide +kernel
theorem dX6_letGo_13 : decode cX6_letGo 13 = .ok (.getfield 96, 3) := by decide +kernel
theorem dX6_letGo_16 : decode cX6_letGo 16 = .ok (.ifCond .eq 27, 3) := by decide +kernel
theorem dX6_letGo_19 : decode cX6_letGo 19 = .ok (.aload_n 2, 1) := by decide +kernel
theorem dX6_letGo_20 : decode cX6_letGo 20 = .ok (.getfield 127, 3) := by decide +kernel
theorem dX6_letGo_23 : decode cX6_letGo 23 = .ok (.sipush 500, 3) := by decide +kernel
theorem dX6_letGo_26 : decode cX6_letGo 26 = .ok (.if_icmp .lt 17, 3) := by decide +kernel
theorem dX6_letGo_29 : decode cX6_letGo 29 = .ok (.aload_n 0, 1) := by decide +kernel
theorem dX6_letGo_30 : decode cX6_letGo 30 = .ok (.getfield 111, 3) := by decide +kernel
theorem dX6_letGo_33 : decode cX6_letGo 33 = .ok (.aload_n 2, 1) := by decide +kernel
theorem dX6_letGo_34 : decode cX6_letGo 34 = .ok (.getfield 130, 3) := by decide +kernel
theorem dX6_letGo_37 : decode cX6_letGo 37 = .ok (.isub, 1) := by decide +kernel
theorem dX6_letGo_38 : decode cX6_letGo 38 = .ok (.bipush 12, 2) := by decide +kernel
theorem dX6_letGo_40 : decode cX6_letGo 40 = .ok (.if_icmp .ge 6, 3) := by decide +kernel
theorem dX6_letGo_43 : decode cX6_letGo 43 = .ok (.bipush (-2), 2) := by decide +kernel
theorem dX6_letGo_45 : decode cX6_letGo 45 = .ok (.ireturn, 1) := by decide +kernel
theorem dX6_letGo_46 : decode cX6_letGo 46 = .ok (.iconst 0, 1) := by decide +kernel
theorem dX6_letGo_47 : decode cX6_letGo 47 = .ok (.istore_n 3, 1) := by decide +kernel
theorem dX6_letGo_48 : decode cX6_letGo 48 = .ok (.iconst 0, 1) := by decide +kernel
theorem dX6_letGo_49 : decode cX6_letGo 49 = .ok (.istore 4, 2) := by decide +kernel
theorem dX6_letGo_51 : decode cX6_letGo 51 = .ok (.iload 4, 2) := by decide +kernel
theorem dX6_letGo_53 : decode cX6_letGo 53 = .ok (.aload_n 0, 1) := by decide +kernel
theorem dX6_letGo_54 : decode cX6_letGo 54 = .ok (.getfield 59, 3) := by decide +kernel
theorem dX6_letGo_57 : decode cX6_letGo 57 = .ok (.if_icmp .ge 84, 3) := by decide +kernel
theorem dX6_letGo_60 : decode cX6_letGo 60 = .ok (.aload_n 0, 1) := by decide +kernel
theorem dX6_letGo_61 : decode cX6_letGo 61 = .ok (.iload 4, 2) := by decide +kernel
theorem dX6_letGo_63 : decode cX6_letGo 63 = .ok (.invokevirtual 66, 3) := by decide +kernel
theorem dX6_letGo_66 : decode cX6_letGo 66 = .ok (.astore 5, 2) := by decide +kernel
theorem dX6_letGo_68 : decode cX6_letGo 68 = .ok (.aload 5, 2) := by decide +kernel
theorem dX6_letGo_70 : decode cX6_letGo 70 = .ok (.ifnull 65, 3) := by decide +kernel
theorem dX6_letGo_73 : decode cX6_letGo 73 = .ok (.aload 5, 2) := by decide +kernel
theorem dX6_letGo_75 : decode cX6_letGo 75 = .ok (.getfield 133, 3) := by decide +kernel
theorem dX6_letGo_78 : decode cX6_letGo 78 = .ok (.iconst 1, 1) := by decide +kernel
theorem dX6_letGo_79 : decode cX6_letGo 79 = .ok (.if_icmp .ne 56, 3) := by decide +kernel
theorem dX6_letGo_82 : decode cX6_letGo 82 = .ok (.aload 5, 2) := by decide +kernel
theorem dX6_letGo_84 : decode cX6_letGo 84 = .ok (.getfield 136, 3) := by decide +kernel
theorem dX6_letGo_87 : decode cX6_letGo 87 = .ok (.iload_n 1, 1) := by decide +kernel
theorem dX6_letGo_88 : decode cX6_letGo 88 = .ok (.if_icmp .eq 6, 3) := by decide +kernel
theorem dX6_letGo_91 : decode cX6_letGo 91 = .ok (.goto 44, 3) := by decide +kernel
theorem dX6_letGo_94 : decode cX6_letGo 94 = .ok (.aload 5, 2) := by decide +kernel
theorem dX6_letGo_96 : decode cX6_letGo 96 = .ok (.aload 5, 2) := by decide +kernel
theorem dX6_letGo_98 : decode cX6_letGo 98 = .ok (.aload_n 2, 1) := by decide +kernel
theorem dX6_letGo_99 : decode cX6_letGo 99 = .ok (.getfield 127, 3) := by decide +kernel
theorem dX6_letGo_102 : decode cX6_letGo 102 = .ok (.invokestatic 139, 3) := by decide +kernel
theorem dX6_letGo_105 : decode cX6_letGo 105 = .ok (.putfield 143, 3) := by decide +kernel
theorem dX6_letGo_108 : decode cX6_letGo 108 = .ok (.aload 5, 2) := by decide +kernel
theorem dX6_letGo_110 : decode cX6_letGo 110 = .ok (.getfield 146, 3) := by decide +kernel
theorem dX6_letGo_113 : decode cX6_letGo 113 = .ok (.ifCond .eq 11, 3) := by decide +kernel
theorem dX6_letGo_116 : decode cX6_letGo 116 = .ok (.aload 5, 2) := by decide +kernel
theorem dX6_letGo_118 : decode cX6_letGo 118 = .ok (.invokevirtual 150, 3) := by decide +kernel
theorem dX6_letGo_121 : decode cX6_letGo 121 = .ok (.goto 14, 3) := by decide +kernel
theorem dX6_letGo_124 : decode cX6_letGo 124 = .ok (.aload 5, 2) := by decide +kernel
theorem dX6_letGo_126 : decode cX6_letGo 126 = .ok (.iconst 2, 1) := by decide +kernel
theorem dX6_letGo_127 : decode cX6_letGo 127 = .ok (.bipush (-4), 2) := by decide +kernel
theorem dX6_letGo_129 : decode cX6_letGo 129 = .ok (.invokevirtual 104, 3) := by decide +kernel
theorem dX6_letGo_132 : decode cX6_letGo 132 = .ok (.iinc 3 1, 3) := by decide +kernel
theorem dX6_letGo_135 : decode cX6_letGo 135 = .ok (.iinc 4 1, 3) := by decide +kernel
theorem dX6_letGo_138 : decode cX6_letGo 138 = .ok (.goto (-87), 3) := by decide +kernel
theorem dX6_letGo_141 : decode cX6_letGo 141 = .ok (.aload_n 2, 1) := by decide +kernel
theorem dX6_letGo_142 : decode cX6_letGo 142 = .ok (.invokevirtual 153, 3) := by decide +kernel
theorem dX6_letGo_145 : decode cX6_letGo 145 = .ok (.iload_n 3, 1) := by decide +kernel
theorem dX6_letGo_146 : decode cX6_letGo 146 = .ok (.ireturn, 1) := by decide +kernel
theorem dX6_stack_0 : decode cX6_stack 0 = .ok (.aload_n 0, 1) := by decide +kernel
theorem dX6_stack_1 : decode cX6_stack 1 = .ok (.iload_n 1, 1) := by decide +kernel
theorem dX6_stack_2 : decode cX6_stack 2 = .ok (.invokevirtual 66, 3) := by decide +kernel
theorem dX6_stack_5 : decode cX6_stack 5 = .ok (.astore_n 3, 1) := by decide +kernel
theorem dX6_stack_6 : decode cX6_stack 6 = .ok (.aload_n 0, 1) := by decide +kernel
theorem dX6_stack_7 : decode cX6_stack 7 = .ok (.iload_n 2, 1) := by decide +kernel
theorem dX6_stack_8 : decode cX6_stack 8 = .ok (.invokevirtual 156, 3) := by decide +kernel
theorem dX6_stack_11 : decode cX6_stack 11 = .ok (.astore 4, 2) := by decide +kernel
theorem dX6_stack_13 : decode cX6_stack 13 = .ok (.aload_n 3, 1) := by decide +kernel
theorem dX6_stack_14 : decode cX6_stack 14 = .ok (.ifnull 8, 3) := by decide +kernel
theorem dX6_stack_17 : decode cX6_stack 17 = .ok (.aload 4, 2) := by decide +kernel
theorem dX6_stack_19 : decode cX6_stack 19 = .ok (.ifnonnull 5, 3) := by decide +kernel
theorem dX6_stack_22 : decode cX6_stack 22 = .ok (.iconst (-1), 1) := by decide +kernel
theorem dX6_stack_23 : decode cX6_stack 23 = .ok (.ireturn, 1) := by decide +kernel
theorem dX6_stack_24 : decode cX6_stack 24 = .ok (.aload_n 3, 1) := by decide +kernel
theorem dX6_stack_25 : decode cX6_stack 25 = .ok (.getfield 133, 3) := by decide +kernel
theorem dX6_stack_28 : decode cX6_stack 28 = .ok (.iconst 2, 1) := by decide +kernel
theorem dX6_stack_29 : decode cX6_stack 29 = .ok (.if_icmp .eq 6, 3) := by decide +kernel
theorem dX6_stack_32 : decode cX6_stack 32 = .ok (.bipush (-2), 2) := by decide +kernel
theorem dX6_stack_34 : decode cX6_stack 34 = .ok (.ireturn, 1) := by decide +kernel
theorem dX6_stack_35 : decode cX6_stack 35 = .ok (.aload 4, 2) := by decide +kernel
theorem dX6_stack_37 : decode cX6_stack 37 = .ok (.invokevirtual 160, 3) := by decide +kernel
theorem dX6_stack_40 : decode cX6_stack 40 = .ok (.ifCond .ne 6, 3) := by decide +kernel
theorem dX6_stack_43 : decode cX6_stack 43 = .ok (.bipush (-3), 2) := by decide +kernel
theorem dX6_stack_45 : decode cX6_stack 45 = .ok (.ireturn, 1) := by decide +kernel
theorem dX6_stack_46 : decode cX6_stack 46 = .ok (.aload 4, 2) := by decide +kernel
theorem dX6_stack_48 : decode cX6_stack 48 = .ok (.iload_n 1, 1) := by decide +kernel
theorem dX6_stack_49 : decode cX6_stack 49 = .ok (.invokevirtual 164, 3) := by decide +kernel
theorem dX6_stack_52 : decode cX6_stack 52 = .ok (.aload_n 3, 1) := by decide +kernel
theorem dX6_stack_53 : decode cX6_stack 53 = .ok (.iconst 3, 1) := by decide +kernel
theorem dX6_stack_54 : decode cX6_stack 54 = .ok (.iload_n 2, 1) := by decide +kernel
theorem dX6_stack_55 : decode cX6_stack 55 = .ok (.invokevirtual 104, 3) := by decide +kernel
theorem dX6_stack_58 : decode cX6_stack 58 = .ok (.aload 4, 2) := by decide +kernel
theorem dX6_stack_60 : decode cX6_stack 60 = .ok (.getfield 168, 3) := by decide +kernel
theorem dX6_stack_63 : decode cX6_stack 63 = .ok (.ireturn, 1) := by decide +kernel
theorem dX6_move_0 : decode cX6_move 0 = .ok (.aload_n 0, 1) := by decide +kernel
theorem dX6_move_1 : decode cX6_move 1 = .ok (.iload_n 1, 1) := by decide +kernel
theorem dX6_move_2 : decode cX6_move 2 = .ok (.invokevirtual 156, 3) := by decide +kernel
theorem dX6_move_5 : decode cX6_move 5 = .ok (.astore_n 3, 1) := by decide +kernel
theorem dX6_move_6 : decode cX6_move 6 = .ok (.aload_n 0, 1) := by decide +kernel
theorem dX6_move_7 : decode cX6_move 7 = .ok (.iload_n 2, 1) := by decide +kernel
theorem dX6_move_8 : decode cX6_move 8 = .ok (.invokevirtual 156, 3) := by decide +kernel
theorem dX6_move_11 : decode cX6_move 11 = .ok (.astore 4, 2) := by decide +kernel
theorem dX6_move_13 : decode cX6_move 13 = .ok (.aload_n 3, 1) := by decide +kernel
theorem dX6_move_14 : decode cX6_move 14 = .ok (.ifnull 13, 3) := by decide +kernel
theorem dX6_move_17 : decode cX6_move 17 = .ok (.aload 4, 2) := by decide +kernel
theorem dX6_move_19 : decode cX6_move 19 = .ok (.ifnull 8, 3) := by decide +kernel
theorem dX6_move_22 : decode cX6_move 22 = .ok (.iload_n 1, 1) := by decide +kernel
theorem dX6_move_23 : decode cX6_move 23 = .ok (.iload_n 2, 1) := by decide +kernel
theorem dX6_move_24 : decode cX6_move 24 = .ok (.if_icmp .ne 5, 3) := by decide +kernel
theorem dX6_move_27 : decode cX6_move 27 = .ok (.iconst (-1), 1) := by decide +kernel
theorem dX6_move_28 : decode cX6_move 28 = .ok (.ireturn, 1) := by decide +kernel
theorem dX6_move_29 : decode cX6_move 29 = .ok (.aload_n 0, 1) := by decide +kernel
theorem dX6_move_30 : decode cX6_move 30 = .ok (.aload_n 3, 1) := by decide +kernel
theorem dX6_move_31 : decode cX6_move 31 = .ok (.invokevirtual 171, 3) := by decide +kernel
theorem dX6_move_34 : decode cX6_move 34 = .ok (.invokevirtual 66, 3) := by decide +kernel
theorem dX6_move_37 : decode cX6_move 37 = .ok (.astore 5, 2) := by decide +kernel
theorem dX6_move_39 : decode cX6_move 39 = .ok (.aload 5, 2) := by decide +kernel
theorem dX6_move_41 : decode cX6_move 41 = .ok (.ifnonnull 6, 3) := by decide +kernel
theorem dX6_move_44 : decode cX6_move 44 = .ok (.bipush (-2), 2) := by decide +kernel
theorem dX6_move_46 : decode cX6_move 46 = .ok (.ireturn, 1) := by decide +kernel
theorem dX6_move_47 : decode cX6_move 47 = .ok (.aload 4, 2) := by decide +kernel
theorem dX6_move_49 : decode cX6_move 49 = .ok (.invokevirtual 160, 3) := by decide +kernel
theorem dX6_move_52 : decode cX6_move 52 = .ok (.ifCond .ne 6, 3) := by decide +kernel
theorem dX6_move_55 : decode cX6_move 55 = .ok (.bipush (-3), 2) := by decide +kernel
theorem dX6_move_57 : decode cX6_move 57 = .ok (.ireturn, 1) := by decide +kernel
theorem dX6_move_58 : decode cX6_move 58 = .ok (.aload_n 3, 1) := by decide +kernel
theorem dX6_move_59 : decode cX6_move 59 = .ok (.invokevirtual 174, 3) := by decide +kernel
theorem dX6_move_62 : decode cX6_move 62 = .ok (.istore 6, 2) := by decide +kernel
theorem dX6_move_64 : decode cX6_move 64 = .ok (.aload 4, 2) := by decide +kernel
theorem dX6_move_66 : decode cX6_move 66 = .ok (.iload 6, 2) := by decide +kernel
theorem dX6_move_68 : decode cX6_move 68 = .ok (.invokevirtual 164, 3) := by decide +kernel
theorem dX6_move_71 : decode cX6_move 71 = .ok (.aload 5, 2) := by decide +kernel
theorem dX6_move_73 : decode cX6_move 73 = .ok (.iconst 3, 1) := by decide +kernel
theorem dX6_move_74 : decode cX6_move 74 = .ok (.iload_n 2, 1) := by decide +kernel
theorem dX6_move_75 : decode cX6_move 75 = .ok (.invokevirtual 104, 3) := by decide +kernel
theorem dX6_move_78 : decode cX6_move 78 = .ok (.aload_n 0, 1) := by decide +kernel
theorem dX6_move_79 : decode cX6_move 79 = .ok (.aload_n 3, 1) := by decide +kernel
theorem dX6_move_80 : decode cX6_move 80 = .ok (.invokevirtual 177, 3) := by decide +kernel
theorem dX6_move_83 : decode cX6_move 83 = .ok (.iload 6, 2) := by decide +kernel
theorem dX6_move_85 : decode cX6_move 85 = .ok (.ireturn, 1) := by decide +kernel
theorem dX6_diggings_0 : decode cX6_diggings 0 = .ok (.iload_n 1, 1) := by decide +kernel
theorem dX6_diggings_1 : decode cX6_diggings 1 = .ok (.ifCond .lt 20, 3) := by decide +kernel
theorem dX6_diggings_4 : decode cX6_diggings 4 = .ok (.iload_n 1, 1) := by decide +kernel
theorem dX6_diggings_5 : decode cX6_diggings 5 = .ok (.bipush 6, 2) := by decide +kernel
theorem dX6_diggings_7 : decode cX6_diggings 7 = .ok (.if_icmp .gt 14, 3) := by decide +kernel
theorem dX6_diggings_10 : decode cX6_diggings 10 = .ok (.lload_n 2, 1) := by decide +kernel
theorem dX6_diggings_11 : decode cX6_diggings 11 = .ok (.iload_n 1, 1) := by decide +kernel
theorem dX6_diggings_12 : decode cX6_diggings 12 = .ok (.bipush 6, 2) := by decide +kernel
theorem dX6_diggings_14 : decode cX6_diggings 14 = .ok (.imul, 1) := by decide +kernel
theorem dX6_diggings_15 : decode cX6_diggings 15 = .ok (.lushr, 1) := by decide +kernel
theorem dX6_diggings_16 : decode cX6_diggings 16 = .ok (.lconst 0, 1) := by decide +kernel
theorem dX6_diggings_17 : decode cX6_diggings 17 = .ok (.lcmp, 1) := by decide +kernel
theorem dX6_diggings_18 : decode cX6_diggings 18 = .ok (.ifCond .eq 5, 3) := by decide +kernel
theorem dX6_diggings_21 : decode cX6_diggings 21 = .ok (.iconst (-1), 1) := by decide +kernel
theorem dX6_diggings_22 : decode cX6_diggings 22 = .ok (.ireturn, 1) := by decide +kernel
theorem dX6_diggings_23 : decode cX6_diggings 23 = .ok (.aload_n 0, 1) := by decide +kernel
theorem dX6_diggings_24 : decode cX6_diggings 24 = .ok (.getfield 44, 3) := by decide +kernel
theorem dX6_diggings_27 : decode cX6_diggings 27 = .ok (.invokevirtual 181, 3) := by decide +kernel
theorem dX6_diggings_30 : decode cX6_diggings 30 = .ok (.iconst 0, 1) := by decide +kernel
theorem dX6_diggings_31 : decode cX6_diggings 31 = .ok (.istore 4, 2) := by decide +kernel
theorem dX6_diggings_33 : decode cX6_diggings 33 = .ok (.iload 4, 2) := by decide +kernel
theorem dX6_diggings_35 : decode cX6_diggings 35 = .ok (.iload_n 1, 1) := by decide +kernel
theorem dX6_diggings_36 : decode cX6_diggings 36 = .ok (.if_icmp .ge 40, 3) := by decide +kernel
theorem dX6_diggings_39 : decode cX6_diggings 39 = .ok (.lload_n 2, 1) := by decide +kernel
theorem dX6_diggings_40 : decode cX6_diggings 40 = .ok (.iload 4, 2) := by decide +kernel
theorem dX6_diggings_42 : decode cX6_diggings 42 = .ok (.invokestatic 182, 3) := by decide +kernel
theorem dX6_diggings_45 : decode cX6_diggings 45 = .ok (.istore 5, 2) := by decide +kernel
theorem dX6_diggings_47 : decode cX6_diggings 47 = .ok (.aload_n 0, 1) := by decide +kernel
theorem dX6_diggings_48 : decode cX6_diggings 48 = .ok (.iload 5, 2) := by decide +kernel
theorem dX6_diggings_50 : decode cX6_diggings 50 = .ok (.invokevirtual 66, 3) := by decide +kernel
theorem dX6_diggings_53 : decode cX6_diggings 53 = .ok (.ifnull 15, 3) := by decide +kernel
theorem dX6_diggings_56 : decode cX6_diggings 56 = .ok (.aload_n 0, 1) := by decide +kernel
theorem dX6_diggings_57 : decode cX6_diggings 57 = .ok (.getfield 44, 3) := by decide +kernel
theorem dX6_diggings_60 : decode cX6_diggings 60 = .ok (.iload 5, 2) := by decide +kernel
theorem dX6_diggings_62 : decode cX6_diggings 62 = .ok (.invokevirtual 186, 3) := by decide +kernel
theorem dX6_diggings_65 : decode cX6_diggings 65 = .ok (.ifCond .ne 5, 3) := by decide +kernel
theorem dX6_diggings_68 : decode cX6_diggings 68 = .ok (.iconst (-1), 1) := by decide +kernel
theorem dX6_diggings_69 : decode cX6_diggings 69 = .ok (.ireturn, 1) := by decide +kernel
theorem dX6_diggings_70 : decode cX6_diggings 70 = .ok (.iinc 4 1, 3) := by decide +kernel
theorem dX6_diggings_73 : decode cX6_diggings 73 = .ok (.goto (-40), 3) := by decide +kernel
theorem dX6_diggings_76 : decode cX6_diggings 76 = .ok (.aload_n 0, 1) := by decide +kernel
theorem dX6_diggings_77 : decode cX6_diggings 77 = .ok (.iconst 3, 1) := by decide +kernel
theorem dX6_diggings_78 : decode cX6_diggings 78 = .ok (.invokevirtual 190, 3) := by decide +kernel
theorem dX6_diggings_81 : decode cX6_diggings 81 = .ok (.bipush 10, 2) := by decide +kernel
theorem dX6_diggings_83 : decode cX6_diggings 83 = .ok (.if_icmp .le 6, 3) := by decide +kernel
theorem dX6_diggings_86 : decode cX6_diggings 86 = .ok (.bipush (-2), 2) := by decide +kernel
theorem dX6_diggings_88 : decode cX6_diggings 88 = .ok (.ireturn, 1) := by decide +kernel
theorem dX6_diggings_89 : decode cX6_diggings 89 = .ok (.iconst 0, 1) := by decide +kernel
theorem dX6_diggings_90 : decode cX6_diggings 90 = .ok (.istore 4, 2) := by decide +kernel
theorem dX6_diggings_92 : decode cX6_diggings 92 = .ok (.iload 4, 2) := by decide +kernel
theorem dX6_diggings_94 : decode cX6_diggings 94 = .ok (.iload_n 1, 1) := by decide +kernel
theorem dX6_diggings_95 : decode cX6_diggings 95 = .ok (.if_icmp .ge 38, 3) := by decide +kernel
theorem dX6_diggings_98 : decode cX6_diggings 98 = .ok (.aload_n 0, 1) := by decide +kernel
theorem dX6_diggings_99 : decode cX6_diggings 99 = .ok (.lload_n 2, 1) := by decide +kernel
theorem dX6_diggings_100 : decode cX6_diggings 100 = .ok (.iload 4, 2) := by decide +kernel
theorem dX6_diggings_102 : decode cX6_diggings 102 = .ok (.invokestatic 182, 3) := by decide +kernel
theorem dX6_diggings_105 : decode cX6_diggings 105 = .ok (.invokevirtual 66, 3) := by decide +kernel
theorem dX6_diggings_108 : decode cX6_diggings 108 = .ok (.astore 5, 2) := by decide +kernel
theorem dX6_diggings_110 : decode cX6_diggings 110 = .ok (.aload 5, 2) := by decide +kernel
theorem dX6_diggings_112 : decode cX6_diggings 112 = .ok (.ifnull 12, 3) := by decide +kernel
theorem dX6_diggings_115 : decode cX6_diggings 115 = .ok (.aload 5, 2) := by decide +kernel
theorem dX6_diggings_117 : decode cX6_diggings 117 = .ok (.getfield 133, 3) := by decide +kernel
theorem dX6_diggings_120 : decode cX6_diggings 120 = .ok (.iconst 3, 1) := by decide +kernel
theorem dX6_diggings_121 : decode cX6_diggings 121 = .ok (.if_icmp .eq 6, 3) := by decide +kernel
theorem dX6_diggings_124 : decode cX6_diggings 124 = .ok (.bipush (-2), 2) := by decide +kernel
theorem dX6_diggings_126 : decode cX6_diggings 126 = .ok (.ireturn, 1) := by decide +kernel
theorem dX6_diggings_127 : decode cX6_diggings 127 = .ok (.iinc 4 1, 3) := by decide +kernel
theorem dX6_diggings_130 : decode cX6_diggings 130 = .ok (.goto (-38), 3) := by decide +kernel
theorem dX6_diggings_133 : decode cX6_diggings 133 = .ok (.iconst 0, 1) := by decide +kernel
theorem dX6_diggings_134 : decode cX6_diggings 134 = .ok (.istore 4, 2) := by decide +kernel
theorem dX6_diggings_136 : decode cX6_diggings 136 = .ok (.iload 4, 2) := by decide +kernel
theorem dX6_diggings_138 : decode cX6_diggings 138 = .ok (.iconst 5, 1) := by decide +kernel
theorem dX6_diggings_139 : decode cX6_diggings 139 = .ok (.if_icmp .ge 24, 3) := by decide +kernel
theorem dX6_diggings_142 : decode cX6_diggings 142 = .ok (.aload_n 0, 1) := by decide +kernel
theorem dX6_diggings_143 : decode cX6_diggings 143 = .ok (.getfield 44, 3) := by decide +kernel
theorem dX6_diggings_146 : decode cX6_diggings 146 = .ok (.iload 4, 2) := by decide +kernel
theorem dX6_diggings_148 : decode cX6_diggings 148 = .ok (.aload_n 0, 1) := by decide +kernel
theorem dX6_diggings_149 : decode cX6_diggings 149 = .ok (.iload 4, 2) := by decide +kernel
theorem dX6_diggings_151 : decode cX6_diggings 151 = .ok (.invokevirtual 156, 3) := by decide +kernel
theorem dX6_diggings_154 : decode cX6_diggings 154 = .ok (.invokevirtual 194, 3) := by decide +kernel
theorem dX6_diggings_157 : decode cX6_diggings 157 = .ok (.iinc 4 1, 3) := by decide +kernel
theorem dX6_diggings_160 : decode cX6_diggings 160 = .ok (.goto (-24), 3) := by decide +kernel
theorem dX6_diggings_163 : decode cX6_diggings 163 = .ok (.aload_n 0, 1) := by decide +kernel
theorem dX6_diggings_164 : decode cX6_diggings 164 = .ok (.getfield 44, 3) := by decide +kernel
theorem dX6_diggings_167 : decode cX6_diggings 167 = .ok (.invokevirtual 198, 3) := by decide +kernel
theorem dX6_diggings_170 : decode cX6_diggings 170 = .ok (.ireturn, 1) := by decide +kernel
theorem dX6_load_0 : decode cX6_load 0 = .ok (.aload_n 0, 1) := by decide +kernel
theorem dX6_load_1 : decode cX6_load 1 = .ok (.iload_n 1, 1) := by decide +kernel
theorem dX6_load_2 : decode cX6_load 2 = .ok (.invokevirtual 156, 3) := by decide +kernel
theorem dX6_load_5 : decode cX6_load 5 = .ok (.astore_n 2, 1) := by decide +kernel
theorem dX6_load_6 : decode cX6_load 6 = .ok (.aload_n 2, 1) := by decide +kernel
theorem dX6_load_7 : decode cX6_load 7 = .ok (.ifnonnull 5, 3) := by decide +kernel
theorem dX6_load_10 : decode cX6_load 10 = .ok (.iconst (-1), 1) := by decide +kernel
theorem dX6_load_11 : decode cX6_load 11 = .ok (.ireturn, 1) := by decide +kernel
theorem dX6_load_12 : decode cX6_load 12 = .ok (.aload_n 0, 1) := by decide +kernel
theorem dX6_load_13 : decode cX6_load 13 = .ok (.aload_n 2, 1) := by decide +kernel
theorem dX6_load_14 : decode cX6_load 14 = .ok (.invokevirtual 171, 3) := by decide +kernel
theorem dX6_load_17 : decode cX6_load 17 = .ok (.invokevirtual 66, 3) := by decide +kernel
theorem dX6_load_20 : decode cX6_load 20 = .ok (.astore_n 3, 1) := by decide +kernel
theorem dX6_load_21 : decode cX6_load 21 = .ok (.aload_n 3, 1) := by decide +kernel
theorem dX6_load_22 : decode cX6_load 22 = .ok (.ifnonnull 6, 3) := by decide +kernel
theorem dX6_load_25 : decode cX6_load 25 = .ok (.bipush (-2), 2) := by decide +kernel
theorem dX6_load_27 : decode cX6_load 27 = .ok (.ireturn, 1) := by decide +kernel
theorem dX6_load_28 : decode cX6_load 28 = .ok (.aload_n 0, 1) := by decide +kernel
theorem dX6_load_29 : decode cX6_load 29 = .ok (.getfield 30, 3) := by decide +kernel
theorem dX6_load_32 : decode cX6_load 32 = .ok (.invokevirtual 201, 3) := by decide +kernel
theorem dX6_load_35 : decode cX6_load 35 = .ok (.ifCond .ne 6, 3) := by decide +kernel
theorem dX6_load_38 : decode cX6_load 38 = .ok (.bipush (-3), 2) := by decide +kernel
theorem dX6_load_40 : decode cX6_load 40 = .ok (.ireturn, 1) := by decide +kernel
theorem dX6_load_41 : decode cX6_load 41 = .ok (.aload_n 0, 1) := by decide +kernel
theorem dX6_load_42 : decode cX6_load 42 = .ok (.getfield 30, 3) := by decide +kernel
theorem dX6_load_45 : decode cX6_load 45 = .ok (.aload_n 3, 1) := by decide +kernel
theorem dX6_load_46 : decode cX6_load 46 = .ok (.getfield 204, 3) := by decide +kernel
theorem dX6_load_49 : decode cX6_load 49 = .ok (.invokevirtual 207, 3) := by decide +kernel
theorem dX6_load_52 : decode cX6_load 52 = .ok (.ifCond .ne 6, 3) := by decide +kernel
theorem dX6_load_55 : decode cX6_load 55 = .ok (.bipush (-2), 2) := by decide +kernel
theorem dX6_load_57 : decode cX6_load 57 = .ok (.ireturn, 1) := by decide +kernel
theorem dX6_load_58 : decode cX6_load 58 = .ok (.aload_n 0, 1) := by decide +kernel
theorem dX6_load_59 : decode cX6_load 59 = .ok (.getfield 30, 3) := by decide +kernel
theorem dX6_load_62 : decode cX6_load 62 = .ok (.aload_n 2, 1) := by decide +kernel
theorem dX6_load_63 : decode cX6_load 63 = .ok (.invokevirtual 174, 3) := by decide +kernel
theorem dX6_load_66 : decode cX6_load 66 = .ok (.aload_n 3, 1) := by decide +kernel
theorem dX6_load_67 : decode cX6_load 67 = .ok (.getfield 204, 3) := by decide +kernel
theorem dX6_load_70 : decode cX6_load 70 = .ok (.invokevirtual 210, 3) := by decide +kernel
theorem dX6_load_73 : decode cX6_load 73 = .ok (.istore 4, 2) := by decide +kernel
theorem dX6_load_75 : decode cX6_load 75 = .ok (.aload_n 3, 1) := by decide +kernel
theorem dX6_load_76 : decode cX6_load 76 = .ok (.bipush 6, 2) := by decide +kernel
theorem dX6_load_78 : decode cX6_load 78 = .ok (.bipush (-4), 2) := by decide +kernel
theorem dX6_load_80 : decode cX6_load 80 = .ok (.invokevirtual 104, 3) := by decide +kernel
theorem dX6_load_83 : decode cX6_load 83 = .ok (.aload_n 0, 1) := by decide +kernel
theorem dX6_load_84 : decode cX6_load 84 = .ok (.aload_n 2, 1) := by decide +kernel
theorem dX6_load_85 : decode cX6_load 85 = .ok (.invokevirtual 177, 3) := by decide +kernel
theorem dX6_load_88 : decode cX6_load 88 = .ok (.iload 4, 2) := by decide +kernel
theorem dX6_load_90 : decode cX6_load 90 = .ok (.ireturn, 1) := by decide +kernel
theorem dX6_go_0 : decode cX6_go 0 = .ok (.aload_n 0, 1) := by decide +kernel
theorem dX6_go_1 : decode cX6_go 1 = .ok (.getfield 30, 3) := by decide +kernel
theorem dX6_go_4 : decode cX6_go 4 = .ok (.getfield 212, 3) := by decide +kernel
theorem dX6_go_7 : decode cX6_go 7 = .ok (.istore_n 1, 1) := by decide +kernel
theorem dX6_go_8 : decode cX6_go 8 = .ok (.iload_n 1, 1) := by decide +kernel
theorem dX6_go_9 : decode cX6_go 9 = .ok (.ifCond .ne 6, 3) := by decide +kernel
theorem dX6_go_12 : decode cX6_go 12 = .ok (.bipush (-2), 2) := by decide +kernel
theorem dX6_go_14 : decode cX6_go 14 = .ok (.ireturn, 1) := by decide +kernel
theorem dX6_go_15 : decode cX6_go 15 = .ok (.iconst 0, 1) := by decide +kernel
theorem dX6_go_16 : decode cX6_go 16 = .ok (.istore_n 2, 1) := by decide +kernel
theorem dX6_go_17 : decode cX6_go 17 = .ok (.iload_n 2, 1) := by decide +kernel
theorem dX6_go_18 : decode cX6_go 18 = .ok (.iload_n 1, 1) := by decide +kernel
theorem dX6_go_19 : decode cX6_go 19 = .ok (.if_icmp .ge 35, 3) := by decide +kernel
theorem dX6_go_22 : decode cX6_go 22 = .ok (.aload_n 0, 1) := by decide +kernel
theorem dX6_go_23 : decode cX6_go 23 = .ok (.aload_n 0, 1) := by decide +kernel
theorem dX6_go_24 : decode cX6_go 24 = .ok (.getfield 30, 3) := by decide +kernel
theorem dX6_go_27 : decode cX6_go 27 = .ok (.iload_n 2, 1) := by decide +kernel
theorem dX6_go_28 : decode cX6_go 28 = .ok (.invokevirtual 213, 3) := by decide +kernel
theorem dX6_go_31 : decode cX6_go 31 = .ok (.invokevirtual 66, 3) := by decide +kernel
theorem dX6_go_34 : decode cX6_go 34 = .ok (.astore_n 3, 1) := by decide +kernel
theorem dX6_go_35 : decode cX6_go 35 = .ok (.aload_n 3, 1) := by decide +kernel
theorem dX6_go_36 : decode cX6_go 36 = .ok (.ifnull 12, 3) := by decide +kernel
theorem dX6_go_39 : decode cX6_go 39 = .ok (.aload_n 3, 1) := by decide +kernel
theorem dX6_go_40 : decode cX6_go 40 = .ok (.iconst 4, 1) := by decide +kernel
theorem dX6_go_41 : decode cX6_go 41 = .ok (.aload_n 0, 1) := by decide +kernel
theorem dX6_go_42 : decode cX6_go 42 = .ok (.getfield 216, 3) := by decide +kernel
theorem dX6_go_45 : decode cX6_go 45 = .ok (.invokevirtual 104, 3) := by decide +kernel
theorem dX6_go_48 : decode cX6_go 48 = .ok (.iinc 2 1, 3) := by decide +kernel
theorem dX6_go_51 : decode cX6_go 51 = .ok (.goto (-34), 3) := by decide +kernel
theorem dX6_go_54 : decode cX6_go 54 = .ok (.aload_n 0, 1) := by decide +kernel
theorem dX6_go_55 : decode cX6_go 55 = .ok (.dup, 1) := by decide +kernel
theorem dX6_go_56 : decode cX6_go 56 = .ok (.getfield 216, 3) := by decide +kernel
theorem dX6_go_59 : decode cX6_go 59 = .ok (.iconst 1, 1) := by decide +kernel
theorem dX6_go_60 : decode cX6_go 60 = .ok (.iadd, 1) := by decide +kernel
theorem dX6_go_61 : decode cX6_go 61 = .ok (.putfield 216, 3) := by decide +kernel
theorem dX6_go_64 : decode cX6_go 64 = .ok (.aload_n 0, 1) := by decide +kernel
theorem dX6_go_65 : decode cX6_go 65 = .ok (.getfield 30, 3) := by decide +kernel
theorem dX6_go_68 : decode cX6_go 68 = .ok (.invokevirtual 219, 3) := by decide +kernel
theorem dX6_go_71 : decode cX6_go 71 = .ok (.iload_n 1, 1) := by decide +kernel
theorem dX6_go_72 : decode cX6_go 72 = .ok (.ireturn, 1) := by decide +kernel
theorem dX6_lorry_0 : decode cX6_lorry 0 = .ok (.iload_n 1, 1) := by decide +kernel
theorem dX6_lorry_1 : decode cX6_lorry 1 = .ok (.tableswitch 80 0 4 #[35, 43, 51, 59, 67], 35) := by decide +kernel
theorem dX6_lorry_36 : decode cX6_lorry 36 = .ok (.aload_n 0, 1) := by decide +kernel
theorem dX6_lorry_37 : decode cX6_lorry 37 = .ok (.getfield 30, 3) := by decide +kernel
theorem dX6_lorry_40 : decode cX6_lorry 40 = .ok (.getfield 212, 3) := by decide +kernel
theorem dX6_lorry_43 : decode cX6_lorry 43 = .ok (.ireturn, 1) := by decide +kernel
theorem dX6_lorry_44 : decode cX6_lorry 44 = .ok (.aload_n 0, 1) := by decide +kernel
theorem dX6_lorry_45 : decode cX6_lorry 45 = .ok (.getfield 30, 3) := by decide +kernel
theorem dX6_lorry_48 : decode cX6_lorry 48 = .ok (.getfield 220, 3) := by decide +kernel
theorem dX6_lorry_51 : decode cX6_lorry 51 = .ok (.ireturn, 1) := by decide +kernel
theorem dX6_lorry_52 : decode cX6_lorry 52 = .ok (.aload_n 0, 1) := by decide +kernel
theorem dX6_lorry_53 : decode cX6_lorry 53 = .ok (.getfield 30, 3) := by decide +kernel
theorem dX6_lorry_56 : decode cX6_lorry 56 = .ok (.getfield 221, 3) := by decide +kernel
theorem dX6_lorry_59 : decode cX6_lorry 59 = .ok (.ireturn, 1) := by decide +kernel
theorem dX6_lorry_60 : decode cX6_lorry 60 = .ok (.aload_n 0, 1) := by decide +kernel
theorem dX6_lorry_61 : decode cX6_lorry 61 = .ok (.getfield 30, 3) := by decide +kernel
theorem dX6_lorry_64 : decode cX6_lorry 64 = .ok (.getfield 224, 3) := by decide +kernel
theorem dX6_lorry_67 : decode cX6_lorry 67 = .ok (.ireturn, 1) := by decide +kernel
theorem dX6_lorry_68 : decode cX6_lorry 68 = .ok (.aload_n 0, 1) := by decide +kernel
theorem dX6_lorry_69 : decode cX6_lorry 69 = .ok (.invokevirtual 227, 3) := by decide +kernel
theorem dX6_lorry_72 : decode cX6_lorry 72 = .ok (.ifCond .eq 7, 3) := by decide +kernel
theorem dX6_lorry_75 : decode cX6_lorry 75 = .ok (.iconst 1, 1) := by decide +kernel
theorem dX6_lorry_76 : decode cX6_lorry 76 = .ok (.goto 4, 3) := by decide +kernel
theorem dX6_lorry_79 : decode cX6_lorry 79 = .ok (.iconst 0, 1) := by decide +kernel
theorem dX6_lorry_80 : decode cX6_lorry 80 = .ok (.ireturn, 1) := by decide +kernel
theorem dX6_lorry_81 : decode cX6_lorry 81 = .ok (.iconst (-1), 1) := by decide +kernel
theorem dX6_lorry_82 : decode cX6_lorry 82 = .ok (.ireturn, 1) := by decide +kernel
theorem dX6_change_0 : decode cX6_change 0 = .ok (.aload_n 0, 1) := by decide +kernel
theorem dX6_change_1 : decode cX6_change 1 = .ok (.iload_n 1, 1) := by decide +kernel
theorem dX6_change_2 : decode cX6_change 2 = .ok (.invokevirtual 66, 3) := by decide +kernel
theorem dX6_change_5 : decode cX6_change 5 = .ok (.astore 5, 2) := by decide +kernel
theorem dX6_change_7 : decode cX6_change 7 = .ok (.aload 5, 2) := by decide +kernel
theorem dX6_change_9 : decode cX6_change 9 = .ok (.ifnull 13, 3) := by decide +kernel
theorem dX6_change_12 : decode cX6_change 12 = .ok (.iload_n 2, 1) := by decide +kernel
theorem dX6_change_13 : decode cX6_change 13 = .ok (.iload_n 3, 1) := by decide +kernel
theorem dX6_change_14 : decode cX6_change 14 = .ok (.iload 4, 2) := by decide +kernel
theorem dX6_change_16 : decode cX6_change 16 = .ok (.invokestatic 55, 3) := by decide +kernel
theorem dX6_change_19 : decode cX6_change 19 = .ok (.ifCond .ne 5, 3) := by decide +kernel
theorem dX6_change_22 : decode cX6_change 22 = .ok (.iconst (-1), 1) := by decide +kernel
theorem dX6_change_23 : decode cX6_change 23 = .ok (.ireturn, 1) := by decide +kernel
theorem dX6_change_24 : decode cX6_change 24 = .ok (.aload 5, 2) := by decide +kernel
theorem dX6_change_26 : decode cX6_change 26 = .ok (.getfield 133, 3) := by decide +kernel
theorem dX6_change_29 : decode cX6_change 29 = .ok (.iconst 4, 1) := by decide +kernel
theorem dX6_change_30 : decode cX6_change 30 = .ok (.if_icmp .eq 30, 3) := by decide +kernel
theorem dX6_change_33 : decode cX6_change 33 = .ok (.aload 5, 2) := by decide +kernel
theorem dX6_change_35 : decode cX6_change 35 = .ok (.getfield 133, 3) := by decide +kernel
theorem dX6_change_38 : decode cX6_change 38 = .ok (.bipush 6, 2) := by decide +kernel
theorem dX6_change_40 : decode cX6_change 40 = .ok (.if_icmp .eq 20, 3) := by decide +kernel
theorem dX6_change_43 : decode cX6_change 43 = .ok (.aload 5, 2) := by decide +kernel
theorem dX6_change_45 : decode cX6_change 45 = .ok (.getfield 133, 3) := by decide +kernel
theorem dX6_change_48 : decode cX6_change 48 = .ok (.iconst 5, 1) := by decide +kernel
theorem dX6_change_49 : decode cX6_change 49 = .ok (.if_icmp .eq 11, 3) := by decide +kernel
theorem dX6_change_52 : decode cX6_change 52 = .ok (.aload 5, 2) := by decide +kernel
theorem dX6_change_54 : decode cX6_change 54 = .ok (.getfield 146, 3) := by decide +kernel
theorem dX6_change_57 : decode cX6_change 57 = .ok (.ifCond .eq 6, 3) := by decide +kernel
theorem dX6_change_60 : decode cX6_change 60 = .ok (.bipush (-2), 2) := by decide +kernel
theorem dX6_change_62 : decode cX6_change 62 = .ok (.ireturn, 1) := by decide +kernel
theorem dX6_change_63 : decode cX6_change 63 = .ok (.aload 5, 2) := by decide +kernel
theorem dX6_change_65 : decode cX6_change 65 = .ok (.getfield 108, 3) := by decide +kernel
theorem dX6_change_68 : decode cX6_change 68 = .ok (.iload_n 2, 1) := by decide +kernel
theorem dX6_change_69 : decode cX6_change 69 = .ok (.if_icmp .ne 24, 3) := by decide +kernel
theorem dX6_change_72 : decode cX6_change 72 = .ok (.aload 5, 2) := by decide +kernel
theorem dX6_change_74 : decode cX6_change 74 = .ok (.getfield 230, 3) := by decide +kernel
theorem dX6_change_77 : decode cX6_change 77 = .ok (.iload_n 3, 1) := by decide +kernel
theorem dX6_change_78 : decode cX6_change 78 = .ok (.if_icmp .ne 15, 3) := by decide +kernel
theorem dX6_change_81 : decode cX6_change 81 = .ok (.aload 5, 2) := by decide +kernel
theorem dX6_change_83 : decode cX6_change 83 = .ok (.getfield 204, 3) := by decide +kernel
theorem dX6_change_86 : decode cX6_change 86 = .ok (.iload 4, 2) := by decide +kernel
theorem dX6_change_88 : decode cX6_change 88 = .ok (.if_icmp .ne 5, 3) := by decide +kernel
theorem dX6_change_91 : decode cX6_change 91 = .ok (.iconst 2, 1) := by decide +kernel
end
section
theorem dX6_change_92 : decode cX6_change 92 = .ok (.ireturn, 1) := by decide +kernel
theorem dX6_change_93 : decode cX6_change 93 = .ok (.aload 5, 2) := by decide +kernel
theorem dX6_change_95 : decode cX6_change 95 = .ok (.getfield 133, 3) := by decide +kernel
theorem dX6_change_98 : decode cX6_change 98 = .ok (.ifCond .ne 14, 3) := by decide +kernel
theorem dX6_change_101 : decode cX6_change 101 = .ok (.aload 5, 2) := by decide +kernel
theorem dX6_change_103 : decode cX6_change 103 = .ok (.iload_n 2, 1) := by decide +kernel
theorem dX6_change_104 : decode cX6_change 104 = .ok (.iload_n 3, 1) := by decide +kernel
theorem dX6_change_105 : decode cX6_change 105 = .ok (.iload 4, 2) := by decide +kernel
theorem dX6_change_107 : decode cX6_change 107 = .ok (.invokevirtual 233, 3) := by decide +kernel
theorem dX6_change_110 : decode cX6_change 110 = .ok (.iconst 0, 1) := by decide +kernel
theorem dX6_change_111 : decode cX6_change 111 = .ok (.ireturn, 1) := by decide +kernel
theorem dX6_change_112 : decode cX6_change 112 = .ok (.aload 5, 2) := by decide +kernel
theorem dX6_change_114 : decode cX6_change 114 = .ok (.getfield 230, 3) := by decide +kernel
theorem dX6_change_117 : decode cX6_change 117 = .ok (.iload_n 3, 1) := by decide +kernel
theorem dX6_change_118 : decode cX6_change 118 = .ok (.if_icmp .ne 45, 3) := by decide +kernel
theorem dX6_change_121 : decode cX6_change 121 = .ok (.iload_n 2, 1) := by decide +kernel
theorem dX6_change_122 : decode cX6_change 122 = .ok (.aload 5, 2) := by decide +kernel
theorem dX6_change_124 : decode cX6_change 124 = .ok (.getfield 108, 3) := by decide +kernel
theorem dX6_change_127 : decode cX6_change 127 = .ok (.if_icmp .ge 36, 3) := by decide +kernel
theorem dX6_change_130 : decode cX6_change 130 = .ok (.iload 4, 2) := by decide +kernel
theorem dX6_change_132 : decode cX6_change 132 = .ok (.aload 5, 2) := by decide +kernel
theorem dX6_change_134 : decode cX6_change 134 = .ok (.getfield 204, 3) := by decide +kernel
theorem dX6_change_137 : decode cX6_change 137 = .ok (.if_icmp .gt 26, 3) := by decide +kernel
theorem dX6_change_140 : decode cX6_change 140 = .ok (.aload 5, 2) := by decide +kernel
theorem dX6_change_142 : decode cX6_change 142 = .ok (.getfield 133, 3) := by decide +kernel
theorem dX6_change_145 : decode cX6_change 145 = .ok (.iconst 2, 1) := by decide +kernel
theorem dX6_change_146 : decode cX6_change 146 = .ok (.if_icmp .eq 6, 3) := by decide +kernel
theorem dX6_change_149 : decode cX6_change 149 = .ok (.bipush (-2), 2) := by decide +kernel
theorem dX6_change_151 : decode cX6_change 151 = .ok (.ireturn, 1) := by decide +kernel
theorem dX6_change_152 : decode cX6_change 152 = .ok (.aload 5, 2) := by decide +kernel
theorem dX6_change_154 : decode cX6_change 154 = .ok (.iload_n 2, 1) := by decide +kernel
theorem dX6_change_155 : decode cX6_change 155 = .ok (.iload_n 3, 1) := by decide +kernel
theorem dX6_change_156 : decode cX6_change 156 = .ok (.iload 4, 2) := by decide +kernel
theorem dX6_change_158 : decode cX6_change 158 = .ok (.invokevirtual 233, 3) := by decide +kernel
theorem dX6_change_161 : decode cX6_change 161 = .ok (.iconst 1, 1) := by decide +kernel
theorem dX6_change_162 : decode cX6_change 162 = .ok (.ireturn, 1) := by decide +kernel
theorem dX6_change_163 : decode cX6_change 163 = .ok (.aload_n 0, 1) := by decide +kernel
theorem dX6_change_164 : decode cX6_change 164 = .ok (.getfield 59, 3) := by decide +kernel
theorem dX6_change_167 : decode cX6_change 167 = .ok (.bipush 40, 2) := by decide +kernel
theorem dX6_change_169 : decode cX6_change 169 = .ok (.if_icmp .lt 6, 3) := by decide +kernel
theorem dX6_change_172 : decode cX6_change 172 = .ok (.bipush (-3), 2) := by decide +kernel
theorem dX6_change_174 : decode cX6_change 174 = .ok (.ireturn, 1) := by decide +kernel
theorem dX6_change_175 : decode cX6_change 175 = .ok (.aload_n 0, 1) := by decide +kernel
theorem dX6_change_176 : decode cX6_change 176 = .ok (.iload_n 2, 1) := by decide +kernel
theorem dX6_change_177 : decode cX6_change 177 = .ok (.iload_n 3, 1) := by decide +kernel
theorem dX6_change_178 : decode cX6_change 178 = .ok (.iload 4, 2) := by decide +kernel
theorem dX6_change_180 : decode cX6_change 180 = .ok (.aload 5, 2) := by decide +kernel
theorem dX6_change_182 : decode cX6_change 182 = .ok (.getfield 70, 3) := by decide +kernel
theorem dX6_change_185 : decode cX6_change 185 = .ok (.invokevirtual 62, 3) := by decide +kernel
theorem dX6_change_188 : decode cX6_change 188 = .ok (.istore 6, 2) := by decide +kernel
theorem dX6_change_190 : decode cX6_change 190 = .ok (.aload_n 0, 1) := by decide +kernel
theorem dX6_change_191 : decode cX6_change 191 = .ok (.aload 5, 2) := by decide +kernel
theorem dX6_change_193 : decode cX6_change 193 = .ok (.invokevirtual 236, 3) := by decide +kernel
theorem dX6_change_196 : decode cX6_change 196 = .ok (.bipush 100, 2) := by decide +kernel
theorem dX6_change_198 : decode cX6_change 198 = .ok (.iload 6, 2) := by decide +kernel
theorem dX6_change_200 : decode cX6_change 200 = .ok (.iadd, 1) := by decide +kernel
theorem dX6_change_201 : decode cX6_change 201 = .ok (.ireturn, 1) := by decide +kernel
theorem dX6_told_0 : decode cX6_told 0 = .ok (.aload_n 0, 1) := by decide +kernel
theorem dX6_told_1 : decode cX6_told 1 = .ok (.iload_n 1, 1) := by decide +kernel
theorem dX6_told_2 : decode cX6_told 2 = .ok (.invokevirtual 66, 3) := by decide +kernel
theorem dX6_told_5 : decode cX6_told 5 = .ok (.astore_n 3, 1) := by decide +kernel
theorem dX6_told_6 : decode cX6_told 6 = .ok (.aload_n 3, 1) := by decide +kernel
theorem dX6_told_7 : decode cX6_told 7 = .ok (.ifnonnull 5, 3) := by decide +kernel
theorem dX6_told_10 : decode cX6_told 10 = .ok (.iconst (-1), 1) := by decide +kernel
theorem dX6_told_11 : decode cX6_told 11 = .ok (.ireturn, 1) := by decide +kernel
theorem dX6_told_12 : decode cX6_told 12 = .ok (.iload_n 2, 1) := by decide +kernel
theorem dX6_told_13 : decode cX6_told 13 = .ok (.tableswitch 95 0 7 #[47, 52, 57, 62, 67, 72, 77, 82], 47) := by decide +kernel
theorem dX6_told_60 : decode cX6_told 60 = .ok (.aload_n 3, 1) := by decide +kernel
theorem dX6_told_61 : decode cX6_told 61 = .ok (.getfield 108, 3) := by decide +kernel
theorem dX6_told_64 : decode cX6_told 64 = .ok (.ireturn, 1) := by decide +kernel
theorem dX6_told_65 : decode cX6_told 65 = .ok (.aload_n 3, 1) := by decide +kernel
theorem dX6_told_66 : decode cX6_told 66 = .ok (.getfield 230, 3) := by decide +kernel
theorem dX6_told_69 : decode cX6_told 69 = .ok (.ireturn, 1) := by decide +kernel
theorem dX6_told_70 : decode cX6_told 70 = .ok (.aload_n 3, 1) := by decide +kernel
theorem dX6_told_71 : decode cX6_told 71 = .ok (.getfield 204, 3) := by decide +kernel
theorem dX6_told_74 : decode cX6_told 74 = .ok (.ireturn, 1) := by decide +kernel
theorem dX6_told_75 : decode cX6_told 75 = .ok (.aload_n 3, 1) := by decide +kernel
theorem dX6_told_76 : decode cX6_told 76 = .ok (.getfield 70, 3) := by decide +kernel
theorem dX6_told_79 : decode cX6_told 79 = .ok (.ireturn, 1) := by decide +kernel
theorem dX6_told_80 : decode cX6_told 80 = .ok (.aload_n 3, 1) := by decide +kernel
theorem dX6_told_81 : decode cX6_told 81 = .ok (.getfield 133, 3) := by decide +kernel
theorem dX6_told_84 : decode cX6_told 84 = .ok (.ireturn, 1) := by decide +kernel
theorem dX6_told_85 : decode cX6_told 85 = .ok (.aload_n 3, 1) := by decide +kernel
theorem dX6_told_86 : decode cX6_told 86 = .ok (.getfield 136, 3) := by decide +kernel
theorem dX6_told_89 : decode cX6_told 89 = .ok (.ireturn, 1) := by decide +kernel
theorem dX6_told_90 : decode cX6_told 90 = .ok (.aload_n 3, 1) := by decide +kernel
theorem dX6_told_91 : decode cX6_told 91 = .ok (.getfield 143, 3) := by decide +kernel
theorem dX6_told_94 : decode cX6_told 94 = .ok (.ireturn, 1) := by decide +kernel
theorem dX6_told_95 : decode cX6_told 95 = .ok (.aload_n 3, 1) := by decide +kernel
theorem dX6_told_96 : decode cX6_told 96 = .ok (.getfield 146, 3) := by decide +kernel
theorem dX6_told_99 : decode cX6_told 99 = .ok (.ifCond .eq 7, 3) := by decide +kernel
theorem dX6_told_102 : decode cX6_told 102 = .ok (.iconst 1, 1) := by decide +kernel
theorem dX6_told_103 : decode cX6_told 103 = .ok (.goto 4, 3) := by decide +kernel
theorem dX6_told_106 : decode cX6_told 106 = .ok (.iconst 0, 1) := by decide +kernel
theorem dX6_told_107 : decode cX6_told 107 = .ok (.ireturn, 1) := by decide +kernel
theorem dX6_told_108 : decode cX6_told 108 = .ok (.iconst (-1), 1) := by decide +kernel
theorem dX6_told_109 : decode cX6_told 109 = .ok (.ireturn, 1) := by decide +kernel
theorem dX6_at_0 : decode cX6_at 0 = .ok (.aload_n 0, 1) := by decide +kernel
theorem dX6_at_1 : decode cX6_at 1 = .ok (.iload_n 1, 1) := by decide +kernel
theorem dX6_at_2 : decode cX6_at 2 = .ok (.invokevirtual 156, 3) := by decide +kernel
theorem dX6_at_5 : decode cX6_at 5 = .ok (.astore_n 3, 1) := by decide +kernel
theorem dX6_at_6 : decode cX6_at 6 = .ok (.aload_n 3, 1) := by decide +kernel
theorem dX6_at_7 : decode cX6_at 7 = .ok (.ifnull 7, 3) := by decide +kernel
theorem dX6_at_10 : decode cX6_at 10 = .ok (.iload_n 2, 1) := by decide +kernel
theorem dX6_at_11 : decode cX6_at 11 = .ok (.ifCond .ge 7, 3) := by decide +kernel
theorem dX6_at_14 : decode cX6_at 14 = .ok (.iconst (-1), 1) := by decide +kernel
theorem dX6_at_15 : decode cX6_at 15 = .ok (.goto 8, 3) := by decide +kernel
theorem dX6_at_18 : decode cX6_at 18 = .ok (.aload_n 3, 1) := by decide +kernel
theorem dX6_at_19 : decode cX6_at 19 = .ok (.iload_n 2, 1) := by decide +kernel
theorem dX6_at_20 : decode cX6_at 20 = .ok (.invokevirtual 240, 3) := by decide +kernel
theorem dX6_at_23 : decode cX6_at 23 = .ok (.ireturn, 1) := by decide +kernel
theorem dX6_bed_0 : decode cX6_bed 0 = .ok (.aload_n 0, 1) := by decide +kernel
theorem dX6_bed_1 : decode cX6_bed 1 = .ok (.iload_n 1, 1) := by decide +kernel
theorem dX6_bed_2 : decode cX6_bed 2 = .ok (.invokevirtual 88, 3) := by decide +kernel
theorem dX6_bed_5 : decode cX6_bed 5 = .ok (.astore_n 3, 1) := by decide +kernel
theorem dX6_bed_6 : decode cX6_bed 6 = .ok (.aload_n 3, 1) := by decide +kernel
theorem dX6_bed_7 : decode cX6_bed 7 = .ok (.ifnonnull 5, 3) := by decide +kernel
theorem dX6_bed_10 : decode cX6_bed 10 = .ok (.iconst (-1), 1) := by decide +kernel
theorem dX6_bed_11 : decode cX6_bed 11 = .ok (.ireturn, 1) := by decide +kernel
theorem dX6_bed_12 : decode cX6_bed 12 = .ok (.iload_n 2, 1) := by decide +kernel
theorem dX6_bed_13 : decode cX6_bed 13 = .ok (.tableswitch 67 0 3 #[31, 36, 41, 46], 31) := by decide +kernel
theorem dX6_bed_44 : decode cX6_bed 44 = .ok (.aload_n 3, 1) := by decide +kernel
theorem dX6_bed_45 : decode cX6_bed 45 = .ok (.getfield 96, 3) := by decide +kernel
theorem dX6_bed_48 : decode cX6_bed 48 = .ok (.ireturn, 1) := by decide +kernel
theorem dX6_bed_49 : decode cX6_bed 49 = .ok (.aload_n 3, 1) := by decide +kernel
theorem dX6_bed_50 : decode cX6_bed 50 = .ok (.getfield 243, 3) := by decide +kernel
theorem dX6_bed_53 : decode cX6_bed 53 = .ok (.ireturn, 1) := by decide +kernel
theorem dX6_bed_54 : decode cX6_bed 54 = .ok (.aload_n 3, 1) := by decide +kernel
theorem dX6_bed_55 : decode cX6_bed 55 = .ok (.getfield 127, 3) := by decide +kernel
theorem dX6_bed_58 : decode cX6_bed 58 = .ok (.ireturn, 1) := by decide +kernel
theorem dX6_bed_59 : decode cX6_bed 59 = .ok (.aload_n 3, 1) := by decide +kernel
theorem dX6_bed_60 : decode cX6_bed 60 = .ok (.getfield 96, 3) := by decide +kernel
theorem dX6_bed_63 : decode cX6_bed 63 = .ok (.ifCond .ne 7, 3) := by decide +kernel
theorem dX6_bed_66 : decode cX6_bed 66 = .ok (.iconst 0, 1) := by decide +kernel
theorem dX6_bed_67 : decode cX6_bed 67 = .ok (.goto 12, 3) := by decide +kernel
theorem dX6_bed_70 : decode cX6_bed 70 = .ok (.aload_n 0, 1) := by decide +kernel
theorem dX6_bed_71 : decode cX6_bed 71 = .ok (.getfield 111, 3) := by decide +kernel
theorem dX6_bed_74 : decode cX6_bed 74 = .ok (.aload_n 3, 1) := by decide +kernel
theorem dX6_bed_75 : decode cX6_bed 75 = .ok (.getfield 130, 3) := by decide +kernel
theorem dX6_bed_78 : decode cX6_bed 78 = .ok (.isub, 1) := by decide +kernel
theorem dX6_bed_79 : decode cX6_bed 79 = .ok (.ireturn, 1) := by decide +kernel
theorem dX6_bed_80 : decode cX6_bed 80 = .ok (.iconst (-1), 1) := by decide +kernel
theorem dX6_bed_81 : decode cX6_bed 81 = .ok (.ireturn, 1) := by decide +kernel
theorem dX6_count_0 : decode cX6_count 0 = .ok (.iload_n 1, 1) := by decide +kernel
theorem dX6_count_1 : decode cX6_count 1 = .ok (.tableswitch 51 0 3 #[31, 36, 41, 46], 31) := by decide +kernel
theorem dX6_count_32 : decode cX6_count 32 = .ok (.aload_n 0, 1) := by decide +kernel
theorem dX6_count_33 : decode cX6_count 33 = .ok (.getfield 59, 3) := by decide +kernel
theorem dX6_count_36 : decode cX6_count 36 = .ok (.ireturn, 1) := by decide +kernel
theorem dX6_count_37 : decode cX6_count 37 = .ok (.aload_n 0, 1) := by decide +kernel
theorem dX6_count_38 : decode cX6_count 38 = .ok (.getfield 111, 3) := by decide +kernel
theorem dX6_count_41 : decode cX6_count 41 = .ok (.ireturn, 1) := by decide +kernel
theorem dX6_count_42 : decode cX6_count 42 = .ok (.aload_n 0, 1) := by decide +kernel
theorem dX6_count_43 : decode cX6_count 43 = .ok (.getfield 216, 3) := by decide +kernel
theorem dX6_count_46 : decode cX6_count 46 = .ok (.ireturn, 1) := by decide +kernel
theorem dX6_count_47 : decode cX6_count 47 = .ok (.aload_n 0, 1) := by decide +kernel
theorem dX6_count_48 : decode cX6_count 48 = .ok (.getfield 117, 3) := by decide +kernel
theorem dX6_count_51 : decode cX6_count 51 = .ok (.ireturn, 1) := by decide +kernel
theorem dX6_count_52 : decode cX6_count 52 = .ok (.iload_n 1, 1) := by decide +kernel
theorem dX6_count_53 : decode cX6_count 53 = .ok (.iconst 4, 1) := by decide +kernel
theorem dX6_count_54 : decode cX6_count 54 = .ok (.if_icmp .lt 19, 3) := by decide +kernel
theorem dX6_count_57 : decode cX6_count 57 = .ok (.iload_n 1, 1) := by decide +kernel
theorem dX6_count_58 : decode cX6_count 58 = .ok (.bipush 10, 2) := by decide +kernel
theorem dX6_count_60 : decode cX6_count 60 = .ok (.if_icmp .gt 13, 3) := by decide +kernel
theorem dX6_count_63 : decode cX6_count 63 = .ok (.aload_n 0, 1) := by decide +kernel
theorem dX6_count_64 : decode cX6_count 64 = .ok (.iload_n 1, 1) := by decide +kernel
theorem dX6_count_65 : decode cX6_count 65 = .ok (.iconst 4, 1) := by decide +kernel
theorem dX6_count_66 : decode cX6_count 66 = .ok (.isub, 1) := by decide +kernel
theorem dX6_count_67 : decode cX6_count 67 = .ok (.invokevirtual 190, 3) := by decide +kernel
theorem dX6_count_70 : decode cX6_count 70 = .ok (.goto 4, 3) := by decide +kernel
theorem dX6_count_73 : decode cX6_count 73 = .ok (.iconst (-1), 1) := by decide +kernel
theorem dX6_count_74 : decode cX6_count 74 = .ok (.ireturn, 1) := by decide +kernel
theorem dX6_partOf_0 : decode cX6_partOf 0 = .ok (.iload_n 1, 1) := by decide +kernel
theorem dX6_partOf_1 : decode cX6_partOf 1 = .ok (.ifCond .lt 20, 3) := by decide +kernel
theorem dX6_partOf_4 : decode cX6_partOf 4 = .ok (.iload_n 1, 1) := by decide +kernel
theorem dX6_partOf_5 : decode cX6_partOf 5 = .ok (.aload_n 0, 1) := by decide +kernel
theorem dX6_partOf_6 : decode cX6_partOf 6 = .ok (.getfield 59, 3) := by decide +kernel
theorem dX6_partOf_9 : decode cX6_partOf 9 = .ok (.if_icmp .ge 12, 3) := by decide +kernel
theorem dX6_partOf_12 : decode cX6_partOf 12 = .ok (.iload_n 1, 1) := by decide +kernel
theorem dX6_partOf_13 : decode cX6_partOf 13 = .ok (.aload_n 0, 1) := by decide +kernel
theorem dX6_partOf_14 : decode cX6_partOf 14 = .ok (.getfield 11, 3) := by decide +kernel
theorem dX6_partOf_17 : decode cX6_partOf 17 = .ok (.arraylength, 1) := by decide +kernel
theorem dX6_partOf_18 : decode cX6_partOf 18 = .ok (.if_icmp .lt 7, 3) := by decide +kernel
theorem dX6_partOf_21 : decode cX6_partOf 21 = .ok (.aconst_null, 1) := by decide +kernel
theorem dX6_partOf_22 : decode cX6_partOf 22 = .ok (.goto 9, 3) := by decide +kernel
theorem dX6_partOf_25 : decode cX6_partOf 25 = .ok (.aload_n 0, 1) := by decide +kernel
theorem dX6_partOf_26 : decode cX6_partOf 26 = .ok (.getfield 11, 3) := by decide +kernel
theorem dX6_partOf_29 : decode cX6_partOf 29 = .ok (.iload_n 1, 1) := by decide +kernel
theorem dX6_partOf_30 : decode cX6_partOf 30 = .ok (.aaload, 1) := by decide +kernel
theorem dX6_partOf_31 : decode cX6_partOf 31 = .ok (.areturn, 1) := by decide +kernel
theorem dX6_bedOf_0 : decode cX6_bedOf 0 = .ok (.iload_n 1, 1) := by decide +kernel
theorem dX6_bedOf_1 : decode cX6_bedOf 1 = .ok (.ifCond .lt 12, 3) := by decide +kernel
theorem dX6_bedOf_4 : decode cX6_bedOf 4 = .ok (.iload_n 1, 1) := by decide +kernel
theorem dX6_bedOf_5 : decode cX6_bedOf 5 = .ok (.aload_n 0, 1) := by decide +kernel
theorem dX6_bedOf_6 : decode cX6_bedOf 6 = .ok (.getfield 17, 3) := by decide +kernel
theorem dX6_bedOf_9 : decode cX6_bedOf 9 = .ok (.arraylength, 1) := by decide +kernel
theorem dX6_bedOf_10 : decode cX6_bedOf 10 = .ok (.if_icmp .lt 7, 3) := by decide +kernel
theorem dX6_bedOf_13 : decode cX6_bedOf 13 = .ok (.aconst_null, 1) := by decide +kernel
theorem dX6_bedOf_14 : decode cX6_bedOf 14 = .ok (.goto 9, 3) := by decide +kernel
theorem dX6_bedOf_17 : decode cX6_bedOf 17 = .ok (.aload_n 0, 1) := by decide +kernel
theorem dX6_bedOf_18 : decode cX6_bedOf 18 = .ok (.getfield 17, 3) := by decide +kernel
theorem dX6_bedOf_21 : decode cX6_bedOf 21 = .ok (.iload_n 1, 1) := by decide +kernel
theorem dX6_bedOf_22 : decode cX6_bedOf 22 = .ok (.aaload, 1) := by decide +kernel
theorem dX6_bedOf_23 : decode cX6_bedOf 23 = .ok (.areturn, 1) := by decide +kernel
theorem dX6_stackOf_0 : decode cX6_stackOf 0 = .ok (.iload_n 1, 1) := by decide +kernel
theorem dX6_stackOf_1 : decode cX6_stackOf 1 = .ok (.ifCond .lt 12, 3) := by decide +kernel
theorem dX6_stackOf_4 : decode cX6_stackOf 4 = .ok (.iload_n 1, 1) := by decide +kernel
theorem dX6_stackOf_5 : decode cX6_stackOf 5 = .ok (.aload_n 0, 1) := by decide +kernel
theorem dX6_stackOf_6 : decode cX6_stackOf 6 = .ok (.getfield 23, 3) := by decide +kernel
theorem dX6_stackOf_9 : decode cX6_stackOf 9 = .ok (.arraylength, 1) := by decide +kernel
theorem dX6_stackOf_10 : decode cX6_stackOf 10 = .ok (.if_icmp .lt 7, 3) := by decide +kernel
theorem dX6_stackOf_13 : decode cX6_stackOf 13 = .ok (.aconst_null, 1) := by decide +kernel
theorem dX6_stackOf_14 : decode cX6_stackOf 14 = .ok (.goto 9, 3) := by decide +kernel
theorem dX6_stackOf_17 : decode cX6_stackOf 17 = .ok (.aload_n 0, 1) := by decide +kernel
theorem dX6_stackOf_18 : decode cX6_stackOf 18 = .ok (.getfield 23, 3) := by decide +kernel
theorem dX6_stackOf_21 : decode cX6_stackOf 21 = .ok (.iload_n 1, 1) := by decide +kernel
theorem dX6_stackOf_22 : decode cX6_stackOf 22 = .ok (.aaload, 1) := by decide +kernel
theorem dX6_stackOf_23 : decode cX6_stackOf 23 = .ok (.areturn, 1) := by decide +kernel
theorem dX6_areMeasures_0 : decode cX6_areMeasures 0 = .ok (.iload_n 0, 1) := by decide +kernel
theorem dX6_areMeasures_1 : decode cX6_areMeasures 1 = .ok (.iconst 1, 1) := by decide +kernel
theorem dX6_areMeasures_2 : decode cX6_areMeasures 2 = .ok (.if_icmp .lt 35, 3) := by decide +kernel
theorem dX6_areMeasures_5 : decode cX6_areMeasures 5 = .ok (.iload_n 0, 1) := by decide +kernel
theorem dX6_areMeasures_6 : decode cX6_areMeasures 6 = .ok (.sipush 200, 3) := by decide +kernel
theorem dX6_areMeasures_9 : decode cX6_areMeasures 9 = .ok (.if_icmp .gt 28, 3) := by decide +kernel
theorem dX6_areMeasures_12 : decode cX6_areMeasures 12 = .ok (.iload_n 1, 1) := by decide +kernel
theorem dX6_areMeasures_13 : decode cX6_areMeasures 13 = .ok (.ifCond .lt 24, 3) := by decide +kernel
theorem dX6_areMeasures_16 : decode cX6_areMeasures 16 = .ok (.iload_n 1, 1) := by decide +kernel
theorem dX6_areMeasures_17 : decode cX6_areMeasures 17 = .ok (.bipush 8, 2) := by decide +kernel
theorem dX6_areMeasures_19 : decode cX6_areMeasures 19 = .ok (.if_icmp .ge 18, 3) := by decide +kernel
theorem dX6_areMeasures_22 : decode cX6_areMeasures 22 = .ok (.iload_n 2, 1) := by decide +kernel
theorem dX6_areMeasures_23 : decode cX6_areMeasures 23 = .ok (.iconst 1, 1) := by decide +kernel
theorem dX6_areMeasures_24 : decode cX6_areMeasures 24 = .ok (.if_icmp .lt 13, 3) := by decide +kernel
theorem dX6_areMeasures_27 : decode cX6_areMeasures 27 = .ok (.iload_n 2, 1) := by decide +kernel
theorem dX6_areMeasures_28 : decode cX6_areMeasures 28 = .ok (.bipush 100, 2) := by decide +kernel
theorem dX6_areMeasures_30 : decode cX6_areMeasures 30 = .ok (.if_icmp .gt 7, 3) := by decide +kernel
theorem dX6_areMeasures_33 : decode cX6_areMeasures 33 = .ok (.iconst 1, 1) := by decide +kernel
theorem dX6_areMeasures_34 : decode cX6_areMeasures 34 = .ok (.goto 4, 3) := by decide +kernel
theorem dX6_areMeasures_37 : decode cX6_areMeasures 37 = .ok (.iconst 0, 1) := by decide +kernel
theorem dX6_areMeasures_38 : decode cX6_areMeasures 38 = .ok (.ireturn, 1) := by decide +kernel
theorem dX6_hasBit_0 : decode cX6_hasBit 0 = .ok (.iload_n 0, 1) := by decide +kernel
theorem dX6_hasBit_1 : decode cX6_hasBit 1 = .ok (.iload_n 1, 1) := by decide +kernel
theorem dX6_hasBit_2 : decode cX6_hasBit 2 = .ok (.iushr, 1) := by decide +kernel
theorem dX6_hasBit_3 : decode cX6_hasBit 3 = .ok (.iconst 1, 1) := by decide +kernel
theorem dX6_hasBit_4 : decode cX6_hasBit 4 = .ok (.iand, 1) := by decide +kernel
theorem dX6_hasBit_5 : decode cX6_hasBit 5 = .ok (.ifCond .eq 7, 3) := by decide +kernel
theorem dX6_hasBit_8 : decode cX6_hasBit 8 = .ok (.iconst 1, 1) := by decide +kernel
theorem dX6_hasBit_9 : decode cX6_hasBit 9 = .ok (.goto 4, 3) := by decide +kernel
theorem dX6_hasBit_12 : decode cX6_hasBit 12 = .ok (.iconst 0, 1) := by decide +kernel
theorem dX6_hasBit_13 : decode cX6_hasBit 13 = .ok (.ireturn, 1) := by decide +kernel
theorem dX6_ordered_0 : decode cX6_ordered 0 = .ok (.lload_n 0, 1) := by decide +kernel
theorem dX6_ordered_1 : decode cX6_ordered 1 = .ok (.iload_n 2, 1) := by decide +kernel
theorem dX6_ordered_2 : decode cX6_ordered 2 = .ok (.bipush 6, 2) := by decide +kernel
theorem dX6_ordered_4 : decode cX6_ordered 4 = .ok (.imul, 1) := by decide +kernel
theorem dX6_ordered_5 : decode cX6_ordered 5 = .ok (.lushr, 1) := by decide +kernel
theorem dX6_ordered_6 : decode cX6_ordered 6 = .ok (.l2i, 1) := by decide +kernel
theorem dX6_ordered_7 : decode cX6_ordered 7 = .ok (.bipush 63, 2) := by decide +kernel
theorem dX6_ordered_9 : decode cX6_ordered 9 = .ok (.iand, 1) := by decide +kernel
theorem dX6_ordered_10 : decode cX6_ordered 10 = .ok (.ireturn, 1) := by decide +kernel
theorem dX6_isDrawn_0 : decode cX6_isDrawn 0 = .ok (.aload_n 0, 1) := by decide +kernel
theorem dX6_isDrawn_1 : decode cX6_isDrawn 1 = .ok (.ifnull 14, 3) := by decide +kernel
theorem dX6_isDrawn_4 : decode cX6_isDrawn 4 = .ok (.aload_n 0, 1) := by decide +kernel
theorem dX6_isDrawn_5 : decode cX6_isDrawn 5 = .ok (.getfield 133, 3) := by decide +kernel
theorem dX6_isDrawn_8 : decode cX6_isDrawn 8 = .ok (.ifCond .ne 7, 3) := by decide +kernel
theorem dX6_isDrawn_11 : decode cX6_isDrawn 11 = .ok (.iconst 1, 1) := by decide +kernel
theorem dX6_isDrawn_12 : decode cX6_isDrawn 12 = .ok (.goto 4, 3) := by decide +kernel
theorem dX6_isDrawn_15 : decode cX6_isDrawn 15 = .ok (.iconst 0, 1) := by decide +kernel
theorem dX6_isDrawn_16 : decode cX6_isDrawn 16 = .ok (.ireturn, 1) := by decide +kernel
theorem dX6_camberOf_0 : decode cX6_camberOf 0 = .ok (.iload_n 1, 1) := by decide +kernel
theorem dX6_camberOf_1 : decode cX6_camberOf 1 = .ok (.sipush 1000, 3) := by decide +kernel
theorem dX6_camberOf_4 : decode cX6_camberOf 4 = .ok (.iadd, 1) := by decide +kernel
theorem dX6_camberOf_5 : decode cX6_camberOf 5 = .ok (.istore_n 2, 1) := by decide +kernel
theorem dX6_camberOf_6 : decode cX6_camberOf 6 = .ok (.iload_n 2, 1) := by decide +kernel
theorem dX6_camberOf_7 : decode cX6_camberOf 7 = .ok (.ifCond .gt 7, 3) := by decide +kernel
theorem dX6_camberOf_10 : decode cX6_camberOf 10 = .ok (.iconst 0, 1) := by decide +kernel
theorem dX6_camberOf_11 : decode cX6_camberOf 11 = .ok (.goto 21, 3) := by decide +kernel
theorem dX6_camberOf_14 : decode cX6_camberOf 14 = .ok (.aload_n 0, 1) := by decide +kernel
theorem dX6_camberOf_15 : decode cX6_camberOf 15 = .ok (.getfield 108, 3) := by decide +kernel
theorem dX6_camberOf_18 : decode cX6_camberOf 18 = .ok (.aload_n 0, 1) := by decide +kernel
theorem dX6_camberOf_19 : decode cX6_camberOf 19 = .ok (.getfield 108, 3) := by decide +kernel
theorem dX6_camberOf_22 : decode cX6_camberOf 22 = .ok (.imul, 1) := by decide +kernel
theorem dX6_camberOf_23 : decode cX6_camberOf 23 = .ok (.aload_n 0, 1) := by decide +kernel
theorem dX6_camberOf_24 : decode cX6_camberOf 24 = .ok (.getfield 230, 3) := by decide +kernel
theorem dX6_camberOf_27 : decode cX6_camberOf 27 = .ok (.iconst 1, 1) := by decide +kernel
theorem dX6_camberOf_28 : decode cX6_camberOf 28 = .ok (.iadd, 1) := by decide +kernel
theorem dX6_camberOf_29 : decode cX6_camberOf 29 = .ok (.imul, 1) := by decide +kernel
theorem dX6_camberOf_30 : decode cX6_camberOf 30 = .ok (.iload_n 2, 1) := by decide +kernel
theorem dX6_camberOf_31 : decode cX6_camberOf 31 = .ok (.idiv, 1) := by decide +kernel
theorem dX6_camberOf_32 : decode cX6_camberOf 32 = .ok (.ireturn, 1) := by decide +kernel
theorem dX6_draw_0 : decode cX6_draw 0 = .ok (.aload_n 0, 1) := by decide +kernel
theorem dX6_draw_1 : decode cX6_draw 1 = .ok (.getfield 59, 3) := by decide +kernel
theorem dX6_draw_4 : decode cX6_draw 4 = .ok (.istore 5, 2) := by decide +kernel
theorem dX6_draw_6 : decode cX6_draw 6 = .ok (.aload_n 0, 1) := by decide +kernel
theorem dX6_draw_7 : decode cX6_draw 7 = .ok (.dup, 1) := by decide +kernel
theorem dX6_draw_8 : decode cX6_draw 8 = .ok (.getfield 59, 3) := by decide +kernel
theorem dX6_draw_11 : decode cX6_draw 11 = .ok (.iconst 1, 1) := by decide +kernel
theorem dX6_draw_12 : decode cX6_draw 12 = .ok (.iadd, 1) := by decide +kernel
theorem dX6_draw_13 : decode cX6_draw 13 = .ok (.putfield 59, 3) := by decide +kernel
theorem dX6_draw_16 : decode cX6_draw 16 = .ok (.aload_n 0, 1) := by decide +kernel
theorem dX6_draw_17 : decode cX6_draw 17 = .ok (.iload 5, 2) := by decide +kernel
theorem dX6_draw_19 : decode cX6_draw 19 = .ok (.invokevirtual 66, 3) := by decide +kernel
theorem dX6_draw_22 : decode cX6_draw 22 = .ok (.astore 6, 2) := by decide +kernel
theorem dX6_draw_24 : decode cX6_draw 24 = .ok (.aload 6, 2) := by decide +kernel
theorem dX6_draw_26 : decode cX6_draw 26 = .ok (.ifnull 18, 3) := by decide +kernel
theorem dX6_draw_29 : decode cX6_draw 29 = .ok (.aload 6, 2) := by decide +kernel
theorem dX6_draw_31 : decode cX6_draw 31 = .ok (.iload_n 1, 1) := by decide +kernel
theorem dX6_draw_32 : decode cX6_draw 32 = .ok (.iload_n 2, 1) := by decide +kernel
theorem dX6_draw_33 : decode cX6_draw 33 = .ok (.iload_n 3, 1) := by decide +kernel
theorem dX6_draw_34 : decode cX6_draw 34 = .ok (.invokevirtual 233, 3) := by decide +kernel
theorem dX6_draw_37 : decode cX6_draw 37 = .ok (.aload 6, 2) := by decide +kernel
theorem dX6_draw_39 : decode cX6_draw 39 = .ok (.iload 4, 2) := by decide +kernel
theorem dX6_draw_41 : decode cX6_draw 41 = .ok (.putfield 70, 3) := by decide +kernel
theorem dX6_draw_44 : decode cX6_draw 44 = .ok (.iload 5, 2) := by decide +kernel
theorem dX6_draw_46 : decode cX6_draw 46 = .ok (.ireturn, 1) := by decide +kernel
theorem dX6_countWhere_0 : decode cX6_countWhere 0 = .ok (.iconst 0, 1) := by decide +kernel
theorem dX6_countWhere_1 : decode cX6_countWhere 1 = .ok (.istore_n 2, 1) := by decide +kernel
theorem dX6_countWhere_2 : decode cX6_countWhere 2 = .ok (.iconst 0, 1) := by decide +kernel
theorem dX6_countWhere_3 : decode cX6_countWhere 3 = .ok (.istore_n 3, 1) := by decide +kernel
theorem dX6_countWhere_4 : decode cX6_countWhere 4 = .ok (.iload_n 3, 1) := by decide +kernel
theorem dX6_countWhere_5 : decode cX6_countWhere 5 = .ok (.aload_n 0, 1) := by decide +kernel
theorem dX6_countWhere_6 : decode cX6_countWhere 6 = .ok (.getfield 59, 3) := by decide +kernel
theorem dX6_countWhere_9 : decode cX6_countWhere 9 = .ok (.if_icmp .ge 33, 3) := by decide +kernel
theorem dX6_countWhere_12 : decode cX6_countWhere 12 = .ok (.aload_n 0, 1) := by decide +kernel
theorem dX6_countWhere_13 : decode cX6_countWhere 13 = .ok (.iload_n 3, 1) := by decide +kernel
theorem dX6_countWhere_14 : decode cX6_countWhere 14 = .ok (.invokevirtual 66, 3) := by decide +kernel
theorem dX6_countWhere_17 : decode cX6_countWhere 17 = .ok (.astore 4, 2) := by decide +kernel
theorem dX6_countWhere_19 : decode cX6_countWhere 19 = .ok (.aload 4, 2) := by decide +kernel
theorem dX6_countWhere_21 : decode cX6_countWhere 21 = .ok (.ifnull 15, 3) := by decide +kernel
theorem dX6_countWhere_24 : decode cX6_countWhere 24 = .ok (.aload 4, 2) := by decide +kernel
theorem dX6_countWhere_26 : decode cX6_countWhere 26 = .ok (.getfield 133, 3) := by decide +kernel
theorem dX6_countWhere_29 : decode cX6_countWhere 29 = .ok (.iload_n 1, 1) := by decide +kernel
theorem dX6_countWhere_30 : decode cX6_countWhere 30 = .ok (.if_icmp .ne 6, 3) := by decide +kernel
theorem dX6_countWhere_33 : decode cX6_countWhere 33 = .ok (.iinc 2 1, 3) := by decide +kernel
theorem dX6_countWhere_36 : decode cX6_countWhere 36 = .ok (.iinc 3 1, 3) := by decide +kernel
theorem dX6_countWhere_39 : decode cX6_countWhere 39 = .ok (.goto (-35), 3) := by decide +kernel
theorem dX6_countWhere_42 : decode cX6_countWhere 42 = .ok (.iload_n 2, 1) := by decide +kernel
theorem dX6_countWhere_43 : decode cX6_countWhere 43 = .ok (.ireturn, 1) := by decide +kernel
theorem dX6_givePacker_0 : decode cX6_givePacker 0 = .ok (.aload_n 0, 1) := by decide +kernel
theorem dX6_givePacker_1 : decode cX6_givePacker 1 = .ok (.getfield 37, 3) := by decide +kernel
theorem dX6_givePacker_4 : decode cX6_givePacker 4 = .ok (.invokevirtual 244, 3) := by decide +kernel
theorem dX6_givePacker_7 : decode cX6_givePacker 7 = .ok (.iload_n 1, 1) := by decide +kernel
theorem dX6_givePacker_8 : decode cX6_givePacker 8 = .ok (.istore 4, 2) := by decide +kernel
theorem dX6_givePacker_10 : decode cX6_givePacker 10 = .ok (.iload 4, 2) := by decide +kernel
theorem dX6_givePacker_12 : decode cX6_givePacker 12 = .ok (.iload_n 2, 1) := by decide +kernel
theorem dX6_givePacker_13 : decode cX6_givePacker 13 = .ok (.if_icmp .gt 51, 3) := by decide +kernel
theorem dX6_givePacker_16 : decode cX6_givePacker 16 = .ok (.aload_n 0, 1) := by decide +kernel
theorem dX6_givePacker_17 : decode cX6_givePacker 17 = .ok (.iload 4, 2) := by decide +kernel
theorem dX6_givePacker_19 : decode cX6_givePacker 19 = .ok (.invokevirtual 66, 3) := by decide +kernel
theorem dX6_givePacker_22 : decode cX6_givePacker 22 = .ok (.astore 5, 2) := by decide +kernel
theorem dX6_givePacker_24 : decode cX6_givePacker 24 = .ok (.aload 5, 2) := by decide +kernel
theorem dX6_givePacker_26 : decode cX6_givePacker 26 = .ok (.ifnull 32, 3) := by decide +kernel
theorem dX6_givePacker_29 : decode cX6_givePacker 29 = .ok (.aload 5, 2) := by decide +kernel
theorem dX6_givePacker_31 : decode cX6_givePacker 31 = .ok (.getfield 133, 3) := by decide +kernel
theorem dX6_givePacker_34 : decode cX6_givePacker 34 = .ok (.ifCond .ne 24, 3) := by decide +kernel
theorem dX6_givePacker_37 : decode cX6_givePacker 37 = .ok (.aload 5, 2) := by decide +kernel
theorem dX6_givePacker_39 : decode cX6_givePacker 39 = .ok (.getfield 230, 3) := by decide +kernel
theorem dX6_givePacker_42 : decode cX6_givePacker 42 = .ok (.iload_n 3, 1) := by decide +kernel
theorem dX6_givePacker_43 : decode cX6_givePacker 43 = .ok (.if_icmp .ne 15, 3) := by decide +kernel
theorem dX6_givePacker_46 : decode cX6_givePacker 46 = .ok (.aload_n 0, 1) := by decide +kernel
theorem dX6_givePacker_47 : decode cX6_givePacker 47 = .ok (.getfield 37, 3) := by decide +kernel
theorem dX6_givePacker_50 : decode cX6_givePacker 50 = .ok (.aload 5, 2) := by decide +kernel
theorem dX6_givePacker_52 : decode cX6_givePacker 52 = .ok (.getfield 108, 3) := by decide +kernel
theorem dX6_givePacker_55 : decode cX6_givePacker 55 = .ok (.invokevirtual 245, 3) := by decide +kernel
theorem dX6_givePacker_58 : decode cX6_givePacker 58 = .ok (.iinc 4 1, 3) := by decide +kernel
theorem dX6_givePacker_61 : decode cX6_givePacker 61 = .ok (.goto (-51), 3) := by decide +kernel
theorem dX6_givePacker_64 : decode cX6_givePacker 64 = .ok (.return_, 1) := by decide +kernel
theorem dX6_areParts_0 : decode cX6_areParts 0 = .ok (.iconst 0, 1) := by decide +kernel
theorem dX6_areParts_1 : decode cX6_areParts 1 = .ok (.istore_n 3, 1) := by decide +kernel
theorem dX6_areParts_2 : decode cX6_areParts 2 = .ok (.iload_n 3, 1) := by decide +kernel
theorem dX6_areParts_3 : decode cX6_areParts 3 = .ok (.bipush 32, 2) := by decide +kernel
theorem dX6_areParts_5 : decode cX6_areParts 5 = .ok (.if_icmp .ge 29, 3) := by decide +kernel
theorem dX6_areParts_8 : decode cX6_areParts 8 = .ok (.iload_n 2, 1) := by decide +kernel
theorem dX6_areParts_9 : decode cX6_areParts 9 = .ok (.iload_n 3, 1) := by decide +kernel
theorem dX6_areParts_10 : decode cX6_areParts 10 = .ok (.invokestatic 101, 3) := by decide +kernel
theorem dX6_areParts_13 : decode cX6_areParts 13 = .ok (.ifCond .eq 15, 3) := by decide +kernel
theorem dX6_areParts_16 : decode cX6_areParts 16 = .ok (.aload_n 0, 1) := by decide +kernel
theorem dX6_areParts_17 : decode cX6_areParts 17 = .ok (.iload_n 1, 1) := by decide +kernel
theorem dX6_areParts_18 : decode cX6_areParts 18 = .ok (.iload_n 3, 1) := by decide +kernel
theorem dX6_areParts_19 : decode cX6_areParts 19 = .ok (.iadd, 1) := by decide +kernel
theorem dX6_areParts_20 : decode cX6_areParts 20 = .ok (.invokevirtual 66, 3) := by decide +kernel
theorem dX6_areParts_23 : decode cX6_areParts 23 = .ok (.ifnonnull 5, 3) := by decide +kernel
theorem dX6_areParts_26 : decode cX6_areParts 26 = .ok (.iconst 0, 1) := by decide +kernel
theorem dX6_areParts_27 : decode cX6_areParts 27 = .ok (.ireturn, 1) := by decide +kernel
theorem dX6_areParts_28 : decode cX6_areParts 28 = .ok (.iinc 3 1, 3) := by decide +kernel
theorem dX6_areParts_31 : decode cX6_areParts 31 = .ok (.goto (-29), 3) := by decide +kernel
theorem dX6_areParts_34 : decode cX6_areParts 34 = .ok (.iconst 1, 1) := by decide +kernel
theorem dX6_areParts_35 : decode cX6_areParts 35 = .ok (.ireturn, 1) := by decide +kernel
theorem dX6_areDrawnAndFit_0 : decode cX6_areDrawnAndFit 0 = .ok (.bipush (-4), 2) := by decide +kernel
theorem dX6_areDrawnAndFit_2 : decode cX6_areDrawnAndFit 2 = .ok (.istore_n 3, 1) := by decide +kernel
theorem dX6_areDrawnAndFit_3 : decode cX6_areDrawnAndFit 3 = .ok (.bipush (-4), 2) := by decide +kernel
theorem dX6_areDrawnAndFit_5 : decode cX6_areDrawnAndFit 5 = .ok (.istore 4, 2) := by decide +kernel
theorem dX6_areDrawnAndFit_7 : decode cX6_areDrawnAndFit 7 = .ok (.iconst 0, 1) := by decide +kernel
theorem dX6_areDrawnAndFit_8 : decode cX6_areDrawnAndFit 8 = .ok (.istore 5, 2) := by decide +kernel
theorem dX6_areDrawnAndFit_10 : decode cX6_areDrawnAndFit 10 = .ok (.iload 5, 2) := by decide +kernel
theorem dX6_areDrawnAndFit_12 : decode cX6_areDrawnAndFit 12 = .ok (.bipush 32, 2) := by decide +kernel
theorem dX6_areDrawnAndFit_14 : decode cX6_areDrawnAndFit 14 = .ok (.if_icmp .ge 79, 3) := by decide +kernel
theorem dX6_areDrawnAndFit_17 : decode cX6_areDrawnAndFit 17 = .ok (.iload_n 2, 1) := by decide +kernel
theorem dX6_areDrawnAndFit_18 : decode cX6_areDrawnAndFit 18 = .ok (.iload 5, 2) := by decide +kernel
theorem dX6_areDrawnAndFit_20 : decode cX6_areDrawnAndFit 20 = .ok (.invokestatic 101, 3) := by decide +kernel
theorem dX6_areDrawnAndFit_23 : decode cX6_areDrawnAndFit 23 = .ok (.ifCond .ne 6, 3) := by decide +kernel
theorem dX6_areDrawnAndFit_26 : decode cX6_areDrawnAndFit 26 = .ok (.goto 61, 3) := by decide +kernel
theorem dX6_areDrawnAndFit_29 : decode cX6_areDrawnAndFit 29 = .ok (.aload_n 0, 1) := by decide +kernel
theorem dX6_areDrawnAndFit_30 : decode cX6_areDrawnAndFit 30 = .ok (.iload_n 1, 1) := by decide +kernel
theorem dX6_areDrawnAndFit_31 : decode cX6_areDrawnAndFit 31 = .ok (.iload 5, 2) := by decide +kernel
theorem dX6_areDrawnAndFit_33 : decode cX6_areDrawnAndFit 33 = .ok (.iadd, 1) := by decide +kernel
theorem dX6_areDrawnAndFit_34 : decode cX6_areDrawnAndFit 34 = .ok (.invokevirtual 66, 3) := by decide +kernel
theorem dX6_areDrawnAndFit_37 : decode cX6_areDrawnAndFit 37 = .ok (.astore 6, 2) := by decide +kernel
theorem dX6_areDrawnAndFit_39 : decode cX6_areDrawnAndFit 39 = .ok (.aload 6, 2) := by decide +kernel
theorem dX6_areDrawnAndFit_41 : decode cX6_areDrawnAndFit 41 = .ok (.ifnull 26, 3) := by decide +kernel
theorem dX6_areDrawnAndFit_44 : decode cX6_areDrawnAndFit 44 = .ok (.aload 6, 2) := by decide +kernel
theorem dX6_areDrawnAndFit_46 : decode cX6_areDrawnAndFit 46 = .ok (.getfield 133, 3) := by decide +kernel
theorem dX6_areDrawnAndFit_49 : decode cX6_areDrawnAndFit 49 = .ok (.ifCond .ne 18, 3) := by decide +kernel
theorem dX6_areDrawnAndFit_52 : decode cX6_areDrawnAndFit 52 = .ok (.iload_n 3, 1) := by decide +kernel
theorem dX6_areDrawnAndFit_53 : decode cX6_areDrawnAndFit 53 = .ok (.bipush (-4), 2) := by decide +kernel
theorem dX6_areDrawnAndFit_55 : decode cX6_areDrawnAndFit 55 = .ok (.if_icmp .eq 14, 3) := by decide +kernel
theorem dX6_areDrawnAndFit_58 : decode cX6_areDrawnAndFit 58 = .ok (.aload 6, 2) := by decide +kernel
theorem dX6_areDrawnAndFit_60 : decode cX6_areDrawnAndFit 60 = .ok (.getfield 230, 3) := by decide +kernel
theorem dX6_areDrawnAndFit_63 : decode cX6_areDrawnAndFit 63 = .ok (.iload_n 3, 1) := by decide +kernel
theorem dX6_areDrawnAndFit_64 : decode cX6_areDrawnAndFit 64 = .ok (.if_icmp .eq 5, 3) := by decide +kernel
theorem dX6_areDrawnAndFit_67 : decode cX6_areDrawnAndFit 67 = .ok (.iconst 0, 1) := by decide +kernel
theorem dX6_areDrawnAndFit_68 : decode cX6_areDrawnAndFit 68 = .ok (.ireturn, 1) := by decide +kernel
theorem dX6_areDrawnAndFit_69 : decode cX6_areDrawnAndFit 69 = .ok (.aload 6, 2) := by decide +kernel
theorem dX6_areDrawnAndFit_71 : decode cX6_areDrawnAndFit 71 = .ok (.getfield 230, 3) := by decide +kernel
theorem dX6_areDrawnAndFit_74 : decode cX6_areDrawnAndFit 74 = .ok (.istore_n 3, 1) := by decide +kernel
theorem dX6_areDrawnAndFit_75 : decode cX6_areDrawnAndFit 75 = .ok (.iload 4, 2) := by decide +kernel
theorem dX6_areDrawnAndFit_77 : decode cX6_areDrawnAndFit 77 = .ok (.iconst 4, 1) := by decide +kernel
theorem dX6_areDrawnAndFit_78 : decode cX6_areDrawnAndFit 78 = .ok (.aload 6, 2) := by decide +kernel
theorem dX6_areDrawnAndFit_80 : decode cX6_areDrawnAndFit 80 = .ok (.getfield 108, 3) := by decide +kernel
theorem dX6_areDrawnAndFit_83 : decode cX6_areDrawnAndFit 83 = .ok (.iadd, 1) := by decide +kernel
theorem dX6_areDrawnAndFit_84 : decode cX6_areDrawnAndFit 84 = .ok (.iadd, 1) := by decide +kernel
theorem dX6_areDrawnAndFit_85 : decode cX6_areDrawnAndFit 85 = .ok (.istore 4, 2) := by decide +kernel
theorem dX6_areDrawnAndFit_87 : decode cX6_areDrawnAndFit 87 = .ok (.iinc 5 1, 3) := by decide +kernel
theorem dX6_areDrawnAndFit_90 : decode cX6_areDrawnAndFit 90 = .ok (.goto (-80), 3) := by decide +kernel
theorem dX6_areDrawnAndFit_93 : decode cX6_areDrawnAndFit 93 = .ok (.iload 4, 2) := by decide +kernel
theorem dX6_areDrawnAndFit_95 : decode cX6_areDrawnAndFit 95 = .ok (.sipush 300, 3) := by decide +kernel
theorem dX6_areDrawnAndFit_98 : decode cX6_areDrawnAndFit 98 = .ok (.if_icmp .gt 7, 3) := by decide +kernel
theorem dX6_areDrawnAndFit_101 : decode cX6_areDrawnAndFit 101 = .ok (.iconst 1, 1) := by decide +kernel
theorem dX6_areDrawnAndFit_102 : decode cX6_areDrawnAndFit 102 = .ok (.goto 4, 3) := by decide +kernel
theorem dX6_areDrawnAndFit_105 : decode cX6_areDrawnAndFit 105 = .ok (.iconst 0, 1) := by decide +kernel
theorem dX6_areDrawnAndFit_106 : decode cX6_areDrawnAndFit 106 = .ok (.ireturn, 1) := by decide +kernel
theorem dX6_isRight_0 : decode cX6_isRight 0 = .ok (.iconst 1, 1) := by decide +kernel
theorem dX6_isRight_1 : decode cX6_isRight 1 = .ok (.istore_n 1, 1) := by decide +kernel
theorem dX6_isRight_2 : decode cX6_isRight 2 = .ok (.iload_n 1, 1) := by decide +kernel
theorem dX6_isRight_3 : decode cX6_isRight 3 = .ok (.aload_n 0, 1) := by decide +kernel
theorem dX6_isRight_4 : decode cX6_isRight 4 = .ok (.getfield 30, 3) := by decide +kernel
theorem dX6_isRight_7 : decode cX6_isRight 7 = .ok (.getfield 212, 3) := by decide +kernel
theorem dX6_isRight_10 : decode cX6_isRight 10 = .ok (.if_icmp .ge 58, 3) := by decide +kernel
theorem dX6_isRight_13 : decode cX6_isRight 13 = .ok (.aload_n 0, 1) := by decide +kernel
theorem dX6_isRight_14 : decode cX6_isRight 14 = .ok (.aload_n 0, 1) := by decide +kernel
theorem dX6_isRight_15 : decode cX6_isRight 15 = .ok (.getfield 30, 3) := by decide +kernel
theorem dX6_isRight_18 : decode cX6_isRight 18 = .ok (.iload_n 1, 1) := by decide +kernel
theorem dX6_isRight_19 : decode cX6_isRight 19 = .ok (.iconst 1, 1) := by decide +kernel
theorem dX6_isRight_20 : decode cX6_isRight 20 = .ok (.isub, 1) := by decide +kernel
theorem dX6_isRight_21 : decode cX6_isRight 21 = .ok (.invokevirtual 213, 3) := by decide +kernel
theorem dX6_isRight_24 : decode cX6_isRight 24 = .ok (.invokevirtual 66, 3) := by decide +kernel
theorem dX6_isRight_27 : decode cX6_isRight 27 = .ok (.astore_n 2, 1) := by decide +kernel
theorem dX6_isRight_28 : decode cX6_isRight 28 = .ok (.aload_n 0, 1) := by decide +kernel
theorem dX6_isRight_29 : decode cX6_isRight 29 = .ok (.aload_n 0, 1) := by decide +kernel
theorem dX6_isRight_30 : decode cX6_isRight 30 = .ok (.getfield 30, 3) := by decide +kernel
theorem dX6_isRight_33 : decode cX6_isRight 33 = .ok (.iload_n 1, 1) := by decide +kernel
theorem dX6_isRight_34 : decode cX6_isRight 34 = .ok (.invokevirtual 213, 3) := by decide +kernel
theorem dX6_isRight_37 : decode cX6_isRight 37 = .ok (.invokevirtual 66, 3) := by decide +kernel
theorem dX6_isRight_40 : decode cX6_isRight 40 = .ok (.astore_n 3, 1) := by decide +kernel
theorem dX6_isRight_41 : decode cX6_isRight 41 = .ok (.aload_n 2, 1) := by decide +kernel
theorem dX6_isRight_42 : decode cX6_isRight 42 = .ok (.ifnull 20, 3) := by decide +kernel
theorem dX6_isRight_45 : decode cX6_isRight 45 = .ok (.aload_n 3, 1) := by decide +kernel
theorem dX6_isRight_46 : decode cX6_isRight 46 = .ok (.ifnull 16, 3) := by decide +kernel
theorem dX6_isRight_49 : decode cX6_isRight 49 = .ok (.aload_n 3, 1) := by decide +kernel
theorem dX6_isRight_50 : decode cX6_isRight 50 = .ok (.getfield 70, 3) := by decide +kernel
theorem dX6_isRight_53 : decode cX6_isRight 53 = .ok (.aload_n 2, 1) := by decide +kernel
theorem dX6_isRight_54 : decode cX6_isRight 54 = .ok (.getfield 70, 3) := by decide +kernel
theorem dX6_isRight_57 : decode cX6_isRight 57 = .ok (.if_icmp .le 5, 3) := by decide +kernel
theorem dX6_isRight_60 : decode cX6_isRight 60 = .ok (.iconst 0, 1) := by decide +kernel
theorem dX6_isRight_61 : decode cX6_isRight 61 = .ok (.ireturn, 1) := by decide +kernel
theorem dX6_isRight_62 : decode cX6_isRight 62 = .ok (.iinc 1 1, 3) := by decide +kernel
theorem dX6_isRight_65 : decode cX6_isRight 65 = .ok (.goto (-63), 3) := by decide +kernel
theorem dX6_isRight_68 : decode cX6_isRight 68 = .ok (.iconst 1, 1) := by decide +kernel
theorem dX6_isRight_69 : decode cX6_isRight 69 = .ok (.ireturn, 1) := by decide +kernel
theorem dX6_strikeWhereItIs_0 : decode cX6_strikeWhereItIs 0 = .ok (.aload_n 1, 1) := by decide +kernel
theorem dX6_strikeWhereItIs_1 : decode cX6_strikeWhereItIs 1 = .ok (.getfield 133, 3) := by decide +kernel
theorem dX6_strikeWhereItIs_4 : decode cX6_strikeWhereItIs 4 = .ok (.iconst 2, 1) := by decide +kernel
theorem dX6_strikeWhereItIs_5 : decode cX6_strikeWhereItIs 5 = .ok (.if_icmp .ne 8, 3) := by decide +kernel
theorem dX6_strikeWhereItIs_8 : decode cX6_strikeWhereItIs 8 = .ok (.aload_n 1, 1) := by decide +kernel
theorem dX6_strikeWhereItIs_9 : decode cX6_strikeWhereItIs 9 = .ok (.invokevirtual 150, 3) := by decide +kernel
theorem dX6_strikeWhereItIs_12 : decode cX6_strikeWhereItIs 12 = .ok (.return_, 1) := by decide +kernel
theorem dX6_strikeWhereItIs_13 : decode cX6_strikeWhereItIs 13 = .ok (.aload_n 1, 1) := by decide +kernel
theorem dX6_strikeWhereItIs_14 : decode cX6_strikeWhereItIs 14 = .ok (.iconst 1, 1) := by decide +kernel
theorem dX6_strikeWhereItIs_15 : decode cX6_strikeWhereItIs 15 = .ok (.putfield 146, 3) := by decide +kernel
theorem dX6_strikeWhereItIs_18 : decode cX6_strikeWhereItIs 18 = .ok (.aload_n 1, 1) := by decide +kernel
theorem dX6_strikeWhereItIs_19 : decode cX6_strikeWhereItIs 19 = .ok (.getfield 133, 3) := by decide +kernel
theorem dX6_strikeWhereItIs_22 : decode cX6_strikeWhereItIs 22 = .ok (.iconst 3, 1) := by decide +kernel
theorem dX6_strikeWhereItIs_23 : decode cX6_strikeWhereItIs 23 = .ok (.if_icmp .ne 15, 3) := by decide +kernel
theorem dX6_strikeWhereItIs_26 : decode cX6_strikeWhereItIs 26 = .ok (.aload_n 0, 1) := by decide +kernel
theorem dX6_strikeWhereItIs_27 : decode cX6_strikeWhereItIs 27 = .ok (.aload_n 0, 1) := by decide +kernel
theorem dX6_strikeWhereItIs_28 : decode cX6_strikeWhereItIs 28 = .ok (.aload_n 1, 1) := by decide +kernel
theorem dX6_strikeWhereItIs_29 : decode cX6_strikeWhereItIs 29 = .ok (.getfield 136, 3) := by decide +kernel
theorem dX6_strikeWhereItIs_32 : decode cX6_strikeWhereItIs 32 = .ok (.invokevirtual 156, 3) := by decide +kernel
theorem dX6_strikeWhereItIs_35 : decode cX6_strikeWhereItIs 35 = .ok (.invokevirtual 177, 3) := by decide +kernel
theorem dX6_strikeWhereItIs_38 : decode cX6_strikeWhereItIs 38 = .ok (.return_, 1) := by decide +kernel
theorem dX6_strikeTops_0 : decode cX6_strikeTops 0 = .ok (.iconst 0, 1) := by decide +kernel
theorem dX6_strikeTops_1 : decode cX6_strikeTops 1 = .ok (.istore_n 2, 1) := by decide +kernel
theorem dX6_strikeTops_2 : decode cX6_strikeTops 2 = .ok (.aload_n 1, 1) := by decide +kernel
theorem dX6_strikeTops_3 : decode cX6_strikeTops 3 = .ok (.ifnull 44, 3) := by decide +kernel
theorem dX6_strikeTops_6 : decode cX6_strikeTops 6 = .ok (.iload_n 2, 1) := by decide +kernel
theorem dX6_strikeTops_7 : decode cX6_strikeTops 7 = .ok (.iconst 4, 1) := by decide +kernel
theorem dX6_strikeTops_8 : decode cX6_strikeTops 8 = .ok (.if_icmp .ge 39, 3) := by decide +kernel
theorem dX6_strikeTops_11 : decode cX6_strikeTops 11 = .ok (.aload_n 0, 1) := by decide +kernel
theorem dX6_strikeTops_12 : decode cX6_strikeTops 12 = .ok (.aload_n 1, 1) := by decide +kernel
theorem dX6_strikeTops_13 : decode cX6_strikeTops 13 = .ok (.invokevirtual 171, 3) := by decide +kernel
theorem dX6_strikeTops_16 : decode cX6_strikeTops 16 = .ok (.invokevirtual 66, 3) := by decide +kernel
theorem dX6_strikeTops_19 : decode cX6_strikeTops 19 = .ok (.astore_n 3, 1) := by decide +kernel
theorem dX6_strikeTops_20 : decode cX6_strikeTops 20 = .ok (.aload_n 3, 1) := by decide +kernel
theorem dX6_strikeTops_21 : decode cX6_strikeTops 21 = .ok (.ifnull 10, 3) := by decide +kernel
theorem dX6_strikeTops_24 : decode cX6_strikeTops 24 = .ok (.aload_n 3, 1) := by decide +kernel
theorem dX6_strikeTops_25 : decode cX6_strikeTops 25 = .ok (.getfield 146, 3) := by decide +kernel
theorem dX6_strikeTops_28 : decode cX6_strikeTops 28 = .ok (.ifCond .ne 4, 3) := by decide +kernel
theorem dX6_strikeTops_31 : decode cX6_strikeTops 31 = .ok (.return_, 1) := by decide +kernel
theorem dX6_strikeTops_32 : decode cX6_strikeTops 32 = .ok (.aload_n 1, 1) := by decide +kernel
theorem dX6_strikeTops_33 : decode cX6_strikeTops 33 = .ok (.invokevirtual 174, 3) := by decide +kernel
theorem dX6_strikeTops_36 : decode cX6_strikeTops 36 = .ok (.pop, 1) := by decide +kernel
theorem dX6_strikeTops_37 : decode cX6_strikeTops 37 = .ok (.aload_n 3, 1) := by decide +kernel
theorem dX6_strikeTops_38 : decode cX6_strikeTops 38 = .ok (.invokevirtual 150, 3) := by decide +kernel
theorem dX6_strikeTops_41 : decode cX6_strikeTops 41 = .ok (.iinc 2 1, 3) := by decide +kernel
theorem dX6_strikeTops_44 : decode cX6_strikeTops 44 = .ok (.goto (-42), 3) := by decide +kernel
theorem dX6_strikeTops_47 : decode cX6_strikeTops 47 = .ok (.return_, 1) := by decide +kernel
theorem dX7_init_0 : decode cX7_init 0 = .ok (.aload_n 0, 1) := by decide +kernel
theorem dX7_init_1 : decode cX7_init 1 = .ok (.invokespecial 1, 3) := by decide +kernel
theorem dX7_init_4 : decode cX7_init 4 = .ok (.aload_n 0, 1) := by decide +kernel
theorem dX7_init_5 : decode cX7_init 5 = .ok (.bipush 40, 2) := by decide +kernel
theorem dX7_init_7 : decode cX7_init 7 = .ok (.newarray .int, 2) := by decide +kernel
theorem dX7_init_9 : decode cX7_init 9 = .ok (.putfield 7, 3) := by decide +kernel
theorem dX7_init_12 : decode cX7_init 12 = .ok (.aload_n 0, 1) := by decide +kernel
theorem dX7_init_13 : decode cX7_init 13 = .ok (.bipush 40, 2) := by decide +kernel
theorem dX7_init_15 : decode cX7_init 15 = .ok (.newarray .int, 2) := by decide +kernel
theorem dX7_init_17 : decode cX7_init 17 = .ok (.putfield 13, 3) := by decide +kernel
theorem dX7_init_20 : decode cX7_init 20 = .ok (.aload_n 0, 1) := by decide +kernel
theorem dX7_init_21 : decode cX7_init 21 = .ok (.bipush 40, 2) := by decide +kernel
theorem dX7_init_23 : decode cX7_init 23 = .ok (.newarray .int, 2) := by decide +kernel
theorem dX7_init_25 : decode cX7_init 25 = .ok (.putfield 16, 3) := by decide +kernel
theorem dX7_init_28 : decode cX7_init 28 = .ok (.aload_n 0, 1) := by decide +kernel
theorem dX7_init_29 : decode cX7_init 29 = .ok (.bipush 40, 2) := by decide +kernel
theorem dX7_init_31 : decode cX7_init 31 = .ok (.newarray .int, 2) := by decide +kernel
theorem dX7_init_33 : decode cX7_init 33 = .ok (.putfield 19, 3) := by decide +kernel
theorem dX7_init_36 : decode cX7_init 36 = .ok (.aload_n 0, 1) := by decide +kernel
theorem dX7_init_37 : decode cX7_init 37 = .ok (.bipush 40, 2) := by decide +kernel
theorem dX7_init_39 : decode cX7_init 39 = .ok (.newarray .int, 2) := by decide +kernel
theorem dX7_init_41 : decode cX7_init 41 = .ok (.putfield 22, 3) := by decide +kernel
theorem dX7_init_44 : decode cX7_init 44 = .ok (.aload_n 0, 1) := by decide +kernel
theorem dX7_init_45 : decode cX7_init 45 = .ok (.bipush 40, 2) := by decide +kernel
theorem dX7_init_47 : decode cX7_init 47 = .ok (.newarray .int, 2) := by decide +kernel
theorem dX7_init_49 : decode cX7_init 49 = .ok (.putfield 25, 3) := by decide +kernel
theorem dX7_init_52 : decode cX7_init 52 = .ok (.aload_n 0, 1) := by decide +kernel
theorem dX7_init_53 : decode cX7_init 53 = .ok (.bipush 40, 2) := by decide +kernel
theorem dX7_init_55 : decode cX7_init 55 = .ok (.newarray .int, 2) := by decide +kernel
theorem dX7_init_57 : decode cX7_init 57 = .ok (.putfield 28, 3) := by decide +kernel
theorem dX7_init_60 : decode cX7_init 60 = .ok (.aload_n 0, 1) := by decide +kernel
theorem dX7_init_61 : decode cX7_init 61 = .ok (.bipush 40, 2) := by decide +kernel
theorem dX7_init_63 : decode cX7_init 63 = .ok (.newarray .boolean, 2) := by decide +kernel
theorem dX7_init_65 : decode cX7_init 65 = .ok (.putfield 31, 3) := by decide +kernel
theorem dX7_init_68 : decode cX7_init 68 = .ok (.aload_n 0, 1) := by decide +kernel
theorem dX7_init_69 : decode cX7_init 69 = .ok (.iconst 3, 1) := by decide +kernel
theorem dX7_init_70 : decode cX7_init 70 = .ok (.newarray .int, 2) := by decide +kernel
theorem dX7_init_72 : decode cX7_init 72 = .ok (.putfield 35, 3) := by decide +kernel
theorem dX7_init_75 : decode cX7_init 75 = .ok (.aload_n 0, 1) := by decide +kernel
theorem dX7_init_76 : decode cX7_init 76 = .ok (.bipush 120, 2) := by decide +kernel
theorem dX7_init_78 : decode cX7_init 78 = .ok (.newarray .int, 2) := by decide +kernel
theorem dX7_init_80 : decode cX7_init 80 = .ok (.putfield 38, 3) := by decide +kernel
theorem dX7_init_83 : decode cX7_init 83 = .ok (.aload_n 0, 1) := by decide +kernel
theorem dX7_init_84 : decode cX7_init 84 = .ok (.iconst 3, 1) := by decide +kernel
theorem dX7_init_85 : decode cX7_init 85 = .ok (.newarray .int, 2) := by decide +kernel
theorem dX7_init_87 : decode cX7_init 87 = .ok (.putfield 41, 3) := by decide +kernel
theorem dX7_init_90 : decode cX7_init 90 = .ok (.aload_n 0, 1) := by decide +kernel
theorem dX7_init_91 : decode cX7_init 91 = .ok (.iconst 3, 1) := by decide +kernel
theorem dX7_init_92 : decode cX7_init 92 = .ok (.newarray .int, 2) := by decide +kernel
theorem dX7_init_94 : decode cX7_init 94 = .ok (.putfield 44, 3) := by decide +kernel
theorem dX7_init_97 : decode cX7_init 97 = .ok (.aload_n 0, 1) := by decide +kernel
theorem dX7_init_98 : decode cX7_init 98 = .ok (.bipush 15, 2) := by decide +kernel
theorem dX7_init_100 : decode cX7_init 100 = .ok (.putfield 47, 3) := by decide +kernel
theorem dX7_init_103 : decode cX7_init 103 = .ok (.aload_n 0, 1) := by decide +kernel
theorem dX7_init_104 : decode cX7_init 104 = .ok (.iconst 5, 1) := by decide +kernel
theorem dX7_init_105 : decode cX7_init 105 = .ok (.newarray .int, 2) := by decide +kernel
theorem dX7_init_107 : decode cX7_init 107 = .ok (.putfield 51, 3) := by decide +kernel
theorem dX7_init_110 : decode cX7_init 110 = .ok (.aload_n 0, 1) := by decide +kernel
theorem dX7_init_111 : decode cX7_init 111 = .ok (.bipush 20, 2) := by decide +kernel
theorem dX7_init_113 : decode cX7_init 113 = .ok (.newarray .int, 2) := by decide +kernel
theorem dX7_init_115 : decode cX7_init 115 = .ok (.putfield 54, 3) := by decide +kernel
theorem dX7_init_118 : decode cX7_init 118 = .ok (.aload_n 0, 1) := by decide +kernel
theorem dX7_init_119 : decode cX7_init 119 = .ok (.iconst 4, 1) := by decide +kernel
theorem dX7_init_120 : decode cX7_init 120 = .ok (.newarray .int, 2) := by decide +kernel
theorem dX7_init_122 : decode cX7_init 122 = .ok (.putfield 57, 3) := by decide +kernel
theorem dX7_init_125 : decode cX7_init 125 = .ok (.aload_n 0, 1) := by decide +kernel
theorem dX7_init_126 : decode cX7_init 126 = .ok (.bipush 12, 2) := by decide +kernel
theorem dX7_init_128 : decode cX7_init 128 = .ok (.newarray .int, 2) := by decide +kernel
theorem dX7_init_130 : decode cX7_init 130 = .ok (.putfield 60, 3) := by decide +kernel
theorem dX7_init_133 : decode cX7_init 133 = .ok (.aload_n 0, 1) := by decide +kernel
theorem dX7_init_134 : decode cX7_init 134 = .ok (.sipush 4096, 3) := by decide +kernel
theorem dX7_init_137 : decode cX7_init 137 = .ok (.newarray .int, 2) := by decide +kernel
theorem dX7_init_139 : decode cX7_init 139 = .ok (.putfield 63, 3) := by decide +kernel
theorem dX7_init_142 : decode cX7_init 142 = .ok (.aload_n 0, 1) := by decide +kernel
theorem dX7_init_143 : decode cX7_init 143 = .ok (.bipush 12, 2) := by decide +kernel
theorem dX7_init_145 : decode cX7_init 145 = .ok (.newarray .int, 2) := by decide +kernel
theorem dX7_init_147 : decode cX7_init 147 = .ok (.putfield 66, 3) := by decide +kernel
theorem dX7_init_150 : decode cX7_init 150 = .ok (.aload_n 0, 1) := by decide +kernel
theorem dX7_init_151 : decode cX7_init 151 = .ok (.bipush 6, 2) := by decide +kernel
theorem dX7_init_153 : decode cX7_init 153 = .ok (.newarray .int, 2) := by decide +kernel
theorem dX7_init_155 : decode cX7_init 155 = .ok (.putfield 69, 3) := by decide +kernel
theorem dX7_init_158 : decode cX7_init 158 = .ok (.aload_n 0, 1) := by decide +kernel
theorem dX7_init_159 : decode cX7_init 159 = .ok (.iconst 5, 1) := by decide +kernel
theorem dX7_init_160 : decode cX7_init 160 = .ok (.newarray .int, 2) := by decide +kernel
theorem dX7_init_162 : decode cX7_init 162 = .ok (.putfield 72, 3) := by decide +kernel
theorem dX7_init_165 : decode cX7_init 165 = .ok (.aload_n 0, 1) := by decide +kernel
theorem dX7_init_166 : decode cX7_init 166 = .ok (.bipush 20, 2) := by decide +kernel
theorem dX7_init_168 : decode cX7_init 168 = .ok (.newarray .int, 2) := by decide +kernel
theorem dX7_init_170 : decode cX7_init 170 = .ok (.putfield 75, 3) := by decide +kernel
theorem dX7_init_173 : decode cX7_init 173 = .ok (.aload_n 0, 1) := by decide +kernel
theorem dX7_init_174 : decode cX7_init 174 = .ok (.bipush 32, 2) := by decide +kernel
theorem dX7_init_176 : decode cX7_init 176 = .ok (.newarray .int, 2) := by decide +kernel
theorem dX7_init_178 : decode cX7_init 178 = .ok (.putfield 78, 3) := by decide +kernel
theorem dX7_init_181 : decode cX7_init 181 = .ok (.aload_n 0, 1) := by decide +kernel
theorem dX7_init_182 : decode cX7_init 182 = .ok (.bipush 32, 2) := by decide +kernel
theorem dX7_init_184 : decode cX7_init 184 = .ok (.newarray .int, 2) := by decide +kernel
theorem dX7_init_186 : decode cX7_init 186 = .ok (.putfield 81, 3) := by decide +kernel
theorem dX7_init_189 : decode cX7_init 189 = .ok (.aload_n 0, 1) := by decide +kernel
theorem dX7_init_190 : decode cX7_init 190 = .ok (.sipush 192, 3) := by decide +kernel
theorem dX7_init_193 : decode cX7_init 193 = .ok (.newarray .int, 2) := by decide +kernel
theorem dX7_init_195 : decode cX7_init 195 = .ok (.putfield 84, 3) := by decide +kernel
theorem dX7_init_198 : decode cX7_init 198 = .ok (.aload_n 0, 1) := by decide +kernel
theorem dX7_init_199 : decode cX7_init 199 = .ok (.bipush 32, 2) := by decide +kernel
theorem dX7_init_201 : decode cX7_init 201 = .ok (.newarray .int, 2) := by decide +kernel
theorem dX7_init_203 : decode cX7_init 203 = .ok (.putfield 87, 3) := by decide +kernel
theorem dX7_init_206 : decode cX7_init 206 = .ok (.aload_n 0, 1) := by decide +kernel
theorem dX7_init_207 : decode cX7_init 207 = .ok (.bipush 32, 2) := by decide +kernel
theorem dX7_init_209 : decode cX7_init 209 = .ok (.newarray .int, 2) := by decide +kernel
theorem dX7_init_211 : decode cX7_init 211 = .ok (.putfield 90, 3) := by decide +kernel
theorem dX7_init_214 : decode cX7_init 214 = .ok (.return_, 1) := by decide +kernel
theorem dX7_in_0 : decode cX7_in 0 = .ok (.lload_n 0, 1) := by decide +kernel
theorem dX7_in_1 : decode cX7_in 1 = .ok (.lload_n 2, 1) := by decide +kernel
theorem dX7_in_2 : decode cX7_in 2 = .ok (.lcmp, 1) := by decide +kernel
theorem dX7_in_3 : decode cX7_in 3 = .ok (.ifCond .lt 14, 3) := by decide +kernel
theorem dX7_in_6 : decode cX7_in 6 = .ok (.lload_n 0, 1) := by decide +kernel
theorem dX7_in_7 : decode cX7_in 7 = .ok (.lload 4, 2) := by decide +kernel
theorem dX7_in_9 : decode cX7_in 9 = .ok (.lcmp, 1) := by decide +kernel
theorem dX7_in_10 : decode cX7_in 10 = .ok (.ifCond .gt 7, 3) := by decide +kernel
theorem dX7_in_13 : decode cX7_in 13 = .ok (.iconst 1, 1) := by decide +kernel
theorem dX7_in_14 : decode cX7_in 14 = .ok (.goto 4, 3) := by decide +kernel
theorem dX7_in_17 : decode cX7_in 17 = .ok (.iconst 0, 1) := by decide +kernel
theorem dX7_in_18 : decode cX7_in 18 = .ok (.ireturn, 1) := by decide +kernel
theorem dX7_isPart_0 : decode cX7_isPart 0 = .ok (.iload_n 1, 1) := by decide +kernel
theorem dX7_isPart_1 : decode cX7_isPart 1 = .ok (.i2l, 1) := by decide +kernel
theorem dX7_isPart_2 : decode cX7_isPart 2 = .ok (.lconst 0, 1) := by decide +kernel
theorem dX7_isPart_3 : decode cX7_isPart 3 = .ok (.aload_n 0, 1) := by decide +kernel
theorem dX7_isPart_4 : decode cX7_isPart 4 = .ok (.getfield 93, 3) := by decide +kernel
theorem dX7_isPart_7 : decode cX7_isPart 7 = .ok (.iconst 1, 1) := by decide +kernel
theorem dX7_isPart_8 : decode cX7_isPart 8 = .ok (.isub, 1) := by decide +kernel
theorem dX7_isPart_9 : decode cX7_isPart 9 = .ok (.i2l, 1) := by decide +kernel
theorem dX7_isPart_10 : decode cX7_isPart 10 = .ok (.invokestatic 96, 3) := by decide +kernel
theorem dX7_isPart_13 : decode cX7_isPart 13 = .ok (.ireturn, 1) := by decide +kernel
theorem dX7_areWell_0 : decode cX7_areWell 0 = .ok (.iload_n 0, 1) := by decide +kernel
theorem dX7_areWell_1 : decode cX7_areWell 1 = .ok (.i2l, 1) := by decide +kernel
theorem dX7_areWell_2 : decode cX7_areWell 2 = .ok (.lconst 1, 1) := by decide +kernel
theorem dX7_areWell_3 : decode cX7_areWell 3 = .ok (.ldc2_w 100, 3) := by decide +kernel
theorem dX7_areWell_6 : decode cX7_areWell 6 = .ok (.invokestatic 96, 3) := by decide +kernel
theorem dX7_areWell_9 : decode cX7_areWell 9 = .ok (.ifCond .eq 31, 3) := by decide +kernel
theorem dX7_areWell_12 : decode cX7_areWell 12 = .ok (.iload_n 1, 1) := by decide +kernel
theorem dX7_areWell_13 : decode cX7_areWell 13 = .ok (.i2l, 1) := by decide +kernel
theorem dX7_areWell_14 : decode cX7_areWell 14 = .ok (.lconst 0, 1) := by decide +kernel
theorem dX7_areWell_15 : decode cX7_areWell 15 = .ok (.ldc2_w 102, 3) := by decide +kernel
theorem dX7_areWell_18 : decode cX7_areWell 18 = .ok (.invokestatic 96, 3) := by decide +kernel
theorem dX7_areWell_21 : decode cX7_areWell 21 = .ok (.ifCond .eq 19, 3) := by decide +kernel
theorem dX7_areWell_24 : decode cX7_areWell 24 = .ok (.iload_n 2, 1) := by decide +kernel
theorem dX7_areWell_25 : decode cX7_areWell 25 = .ok (.i2l, 1) := by decide +kernel
theorem dX7_areWell_26 : decode cX7_areWell 26 = .ok (.lconst 1, 1) := by decide +kernel
theorem dX7_areWell_27 : decode cX7_areWell 27 = .ok (.ldc2_w 104, 3) := by decide +kernel
theorem dX7_areWell_30 : decode cX7_areWell 30 = .ok (.invokestatic 96, 3) := by decide +kernel
theorem dX7_areWell_33 : decode cX7_areWell 33 = .ok (.ifCond .eq 7, 3) := by decide +kernel
theorem dX7_areWell_36 : decode cX7_areWell 36 = .ok (.iconst 1, 1) := by decide +kernel
theorem dX7_areWell_37 : decode cX7_areWell 37 = .ok (.goto 4, 3) := by decide +kernel
theorem dX7_areWell_40 : decode cX7_areWell 40 = .ok (.iconst 0, 1) := by decide +kernel
theorem dX7_areWell_41 : decode cX7_areWell 41 = .ok (.ireturn, 1) := by decide +kernel
theorem dX7_comes_0 : decode cX7_comes 0 = .ok (.aload_n 0, 1) := by decide +kernel
theorem dX7_comes_1 : decode cX7_comes 1 = .ok (.getfield 7, 3) := by decide +kernel
theorem dX7_comes_4 : decode cX7_comes 4 = .ok (.aload_n 0, 1) := by decide +kernel
theorem dX7_comes_5 : decode cX7_comes 5 = .ok (.getfield 93, 3) := by decide +kernel
theorem dX7_comes_8 : decode cX7_comes 8 = .ok (.iload_n 1, 1) := by decide +kernel
theorem dX7_comes_9 : decode cX7_comes 9 = .ok (.iastore, 1) := by decide +kernel
theorem dX7_comes_10 : decode cX7_comes 10 = .ok (.aload_n 0, 1) := by decide +kernel
theorem dX7_comes_11 : decode cX7_comes 11 = .ok (.getfield 13, 3) := by decide +kernel
theorem dX7_comes_14 : decode cX7_comes 14 = .ok (.aload_n 0, 1) := by decide +kernel
theorem dX7_comes_15 : decode cX7_comes 15 = .ok (.getfield 93, 3) := by decide +kernel
theorem dX7_comes_18 : decode cX7_comes 18 = .ok (.iload_n 2, 1) := by decide +kernel
theorem dX7_comes_19 : decode cX7_comes 19 = .ok (.iastore, 1) := by decide +kernel
theorem dX7_comes_20 : decode cX7_comes 20 = .ok (.aload_n 0, 1) := by decide +kernel
theorem dX7_comes_21 : decode cX7_comes 21 = .ok (.getfield 16, 3) := by decide +kernel
theorem dX7_comes_24 : decode cX7_comes 24 = .ok (.aload_n 0, 1) := by decide +kernel
theorem dX7_comes_25 : decode cX7_comes 25 = .ok (.getfield 93, 3) := by decide +kernel
theorem dX7_comes_28 : decode cX7_comes 28 = .ok (.iload_n 3, 1) := by decide +kernel
theorem dX7_comes_29 : decode cX7_comes 29 = .ok (.iastore, 1) := by decide +kernel
theorem dX7_comes_30 : decode cX7_comes 30 = .ok (.aload_n 0, 1) := by decide +kernel
theorem dX7_comes_31 : decode cX7_comes 31 = .ok (.getfield 19, 3) := by decide +kernel
theorem dX7_comes_34 : decode cX7_comes 34 = .ok (.aload_n 0, 1) := by decide +kernel
theorem dX7_comes_35 : decode cX7_comes 35 = .ok (.getfield 93, 3) := by decide +kernel
theorem dX7_comes_38 : decode cX7_comes 38 = .ok (.iload 4, 2) := by decide +kernel
theorem dX7_comes_40 : decode cX7_comes 40 = .ok (.iastore, 1) := by decide +kernel
theorem dX7_comes_41 : decode cX7_comes 41 = .ok (.aload_n 0, 1) := by decide +kernel
theorem dX7_comes_42 : decode cX7_comes 42 = .ok (.getfield 22, 3) := by decide +kernel
theorem dX7_comes_45 : decode cX7_comes 45 = .ok (.aload_n 0, 1) := by decide +kernel
theorem dX7_comes_46 : decode cX7_comes 46 = .ok (.getfield 93, 3) := by decide +kernel
theorem dX7_comes_49 : decode cX7_comes 49 = .ok (.iconst 0, 1) := by decide +kernel
theorem dX7_comes_50 : decode cX7_comes 50 = .ok (.iastore, 1) := by decide +kernel
theorem dX7_comes_51 : decode cX7_comes 51 = .ok (.aload_n 0, 1) := by decide +kernel
theorem dX7_comes_52 : decode cX7_comes 52 = .ok (.getfield 25, 3) := by decide +kernel
theorem dX7_comes_55 : decode cX7_comes 55 = .ok (.aload_n 0, 1) := by decide +kernel
theorem dX7_comes_56 : decode cX7_comes 56 = .ok (.getfield 93, 3) := by decide +kernel
theorem dX7_comes_59 : decode cX7_comes 59 = .ok (.bipush (-4), 2) := by decide +kernel
theorem dX7_comes_61 : decode cX7_comes 61 = .ok (.iastore, 1) := by decide +kernel
theorem dX7_comes_62 : decode cX7_comes 62 = .ok (.aload_n 0, 1) := by decide +kernel
theorem dX7_comes_63 : decode cX7_comes 63 = .ok (.dup, 1) := by decide +kernel
theorem dX7_comes_64 : decode cX7_comes 64 = .ok (.getfield 93, 3) := by decide +kernel
theorem dX7_comes_67 : decode cX7_comes 67 = .ok (.iconst 1, 1) := by decide +kernel
theorem dX7_comes_68 : decode cX7_comes 68 = .ok (.iadd, 1) := by decide +kernel
theorem dX7_comes_69 : decode cX7_comes 69 = .ok (.putfield 93, 3) := by decide +kernel
theorem dX7_comes_72 : decode cX7_comes 72 = .ok (.aload_n 0, 1) := by decide +kernel
theorem dX7_comes_73 : decode cX7_comes 73 = .ok (.getfield 93, 3) := by decide +kernel
theorem dX7_comes_76 : decode cX7_comes 76 = .ok (.iconst 1, 1) := by decide +kernel
theorem dX7_comes_77 : decode cX7_comes 77 = .ok (.isub, 1) := by decide +kernel
theorem dX7_comes_78 : decode cX7_comes 78 = .ok (.ireturn, 1) := by decide +kernel
theorem dX7_part_0 : decode cX7_part 0 = .ok (.iload_n 1, 1) := by decide +kernel
theorem dX7_part_1 : decode cX7_part 1 = .ok (.iload_n 2, 1) := by decide +kernel
theorem dX7_part_2 : decode cX7_part 2 = .ok (.iload_n 3, 1) := by decide +kernel
theorem dX7_part_3 : decode cX7_part 3 = .ok (.invokestatic 106, 3) := by decide +kernel
theorem dX7_part_6 : decode cX7_part 6 = .ok (.ifCond .ne 5, 3) := by decide +kernel
theorem dX7_part_9 : decode cX7_part 9 = .ok (.iconst (-1), 1) := by decide +kernel
theorem dX7_part_10 : decode cX7_part 10 = .ok (.ireturn, 1) := by decide +kernel
theorem dX7_part_11 : decode cX7_part 11 = .ok (.aload_n 0, 1) := by decide +kernel
theorem dX7_part_12 : decode cX7_part 12 = .ok (.getfield 93, 3) := by decide +kernel
theorem dX7_part_15 : decode cX7_part 15 = .ok (.bipush 40, 2) := by decide +kernel
theorem dX7_part_17 : decode cX7_part 17 = .ok (.if_icmp .ne 8, 3) := by decide +kernel
theorem dX7_part_20 : decode cX7_part 20 = .ok (.bipush (-3), 2) := by decide +kernel
theorem dX7_part_22 : decode cX7_part 22 = .ok (.goto 11, 3) := by decide +kernel
theorem dX7_part_25 : decode cX7_part 25 = .ok (.aload_n 0, 1) := by decide +kernel
theorem dX7_part_26 : decode cX7_part 26 = .ok (.iload_n 1, 1) := by decide +kernel
theorem dX7_part_27 : decode cX7_part 27 = .ok (.iload_n 2, 1) := by decide +kernel
theorem dX7_part_28 : decode cX7_part 28 = .ok (.iload_n 3, 1) := by decide +kernel
theorem dX7_part_29 : decode cX7_part 29 = .ok (.iconst 0, 1) := by decide +kernel
theorem dX7_part_30 : decode cX7_part 30 = .ok (.invokevirtual 110, 3) := by decide +kernel
theorem dX7_part_33 : decode cX7_part 33 = .ok (.ireturn, 1) := by decide +kernel
theorem dX7_need_0 : decode cX7_need 0 = .ok (.aload_n 0, 1) := by decide +kernel
theorem dX7_need_1 : decode cX7_need 1 = .ok (.iload_n 1, 1) := by decide +kernel
theorem dX7_need_2 : decode cX7_need 2 = .ok (.invokevirtual 114, 3) := by decide +kernel
theorem dX7_need_5 : decode cX7_need 5 = .ok (.ifCond .eq 15, 3) := by decide +kernel
theorem dX7_need_8 : decode cX7_need 8 = .ok (.iload_n 2, 1) := by decide +kernel
theorem dX7_need_9 : decode cX7_need 9 = .ok (.i2l, 1) := by decide +kernel
theorem dX7_need_10 : decode cX7_need 10 = .ok (.lconst 0, 1) := by decide +kernel
theorem dX7_need_11 : decode cX7_need 11 = .ok (.ldc2_w 118, 3) := by decide +kernel
theorem dX7_need_14 : decode cX7_need 14 = .ok (.invokestatic 96, 3) := by decide +kernel
theorem dX7_need_17 : decode cX7_need 17 = .ok (.ifCond .ne 5, 3) := by decide +kernel
theorem dX7_need_20 : decode cX7_need 20 = .ok (.iconst (-1), 1) := by decide +kernel
theorem dX7_need_21 : decode cX7_need 21 = .ok (.ireturn, 1) := by decide +kernel
theorem dX7_need_22 : decode cX7_need 22 = .ok (.aload_n 0, 1) := by decide +kernel
theorem dX7_need_23 : decode cX7_need 23 = .ok (.getfield 19, 3) := by decide +kernel
theorem dX7_need_26 : decode cX7_need 26 = .ok (.iload_n 1, 1) := by decide +kernel
theorem dX7_need_27 : decode cX7_need 27 = .ok (.iaload, 1) := by decide +kernel
theorem dX7_need_28 : decode cX7_need 28 = .ok (.istore_n 3, 1) := by decide +kernel
theorem dX7_need_29 : decode cX7_need 29 = .ok (.aload_n 0, 1) := by decide +kernel
theorem dX7_need_30 : decode cX7_need 30 = .ok (.getfield 19, 3) := by decide +kernel
theorem dX7_need_33 : decode cX7_need 33 = .ok (.iload_n 1, 1) := by decide +kernel
theorem dX7_need_34 : decode cX7_need 34 = .ok (.iload_n 2, 1) := by decide +kernel
theorem dX7_need_35 : decode cX7_need 35 = .ok (.iastore, 1) := by decide +kernel
theorem dX7_need_36 : decode cX7_need 36 = .ok (.iload_n 3, 1) := by decide +kernel
theorem dX7_need_37 : decode cX7_need 37 = .ok (.ireturn, 1) := by decide +kernel
theorem dX7_fits_0 : decode cX7_fits 0 = .ok (.bipush (-4), 2) := by decide +kernel
theorem dX7_fits_2 : decode cX7_fits 2 = .ok (.istore_n 2, 1) := by decide +kernel
theorem dX7_fits_3 : decode cX7_fits 3 = .ok (.iconst (-1), 1) := by decide +kernel
theorem dX7_fits_4 : decode cX7_fits 4 = .ok (.istore_n 3, 1) := by decide +kernel
theorem dX7_fits_5 : decode cX7_fits 5 = .ok (.iconst 1, 1) := by decide +kernel
theorem dX7_fits_6 : decode cX7_fits 6 = .ok (.istore 4, 2) := by decide +kernel
theorem dX7_fits_8 : decode cX7_fits 8 = .ok (.iconst 0, 1) := by decide +kernel
theorem dX7_fits_9 : decode cX7_fits 9 = .ok (.istore 5, 2) := by decide +kernel
theorem dX7_fits_11 : decode cX7_fits 11 = .ok (.iload 5, 2) := by decide +kernel
theorem dX7_fits_13 : decode cX7_fits 13 = .ok (.aload_n 0, 1) := by decide +kernel
theorem dX7_fits_14 : decode cX7_fits 14 = .ok (.getfield 120, 3) := by decide +kernel
theorem dX7_fits_17 : decode cX7_fits 17 = .ok (.if_icmp .ge 81, 3) := by decide +kernel
theorem dX7_fits_20 : decode cX7_fits 20 = .ok (.iload_n 1, 1) := by decide +kernel
theorem dX7_fits_21 : decode cX7_fits 21 = .ok (.iload 5, 2) := by decide +kernel
theorem dX7_fits_23 : decode cX7_fits 23 = .ok (.ishr, 1) := by decide +kernel
theorem dX7_fits_24 : decode cX7_fits 24 = .ok (.iconst 1, 1) := by decide +kernel
theorem dX7_fits_25 : decode cX7_fits 25 = .ok (.iand, 1) := by decide +kernel
theorem dX7_fits_26 : decode cX7_fits 26 = .ok (.iconst 1, 1) := by decide +kernel
theorem dX7_fits_27 : decode cX7_fits 27 = .ok (.if_icmp .ne 65, 3) := by decide +kernel
theorem dX7_fits_30 : decode cX7_fits 30 = .ok (.iload_n 2, 1) := by decide +kernel
theorem dX7_fits_31 : decode cX7_fits 31 = .ok (.aload_n 0, 1) := by decide +kernel
theorem dX7_fits_32 : decode cX7_fits 32 = .ok (.getfield 7, 3) := by decide +kernel
theorem dX7_fits_35 : decode cX7_fits 35 = .ok (.aload_n 0, 1) := by decide +kernel
theorem dX7_fits_36 : decode cX7_fits 36 = .ok (.getfield 60, 3) := by decide +kernel
theorem dX7_fits_39 : decode cX7_fits 39 = .ok (.iload 5, 2) := by decide +kernel
theorem dX7_fits_41 : decode cX7_fits 41 = .ok (.iaload, 1) := by decide +kernel
theorem dX7_fits_42 : decode cX7_fits 42 = .ok (.iaload, 1) := by decide +kernel
theorem dX7_fits_43 : decode cX7_fits 43 = .ok (.iconst 4, 1) := by decide +kernel
theorem dX7_fits_44 : decode cX7_fits 44 = .ok (.iadd, 1) := by decide +kernel
theorem dX7_fits_45 : decode cX7_fits 45 = .ok (.iadd, 1) := by decide +kernel
theorem dX7_fits_46 : decode cX7_fits 46 = .ok (.istore_n 2, 1) := by decide +kernel
theorem dX7_fits_47 : decode cX7_fits 47 = .ok (.iload 4, 2) := by decide +kernel
theorem dX7_fits_49 : decode cX7_fits 49 = .ok (.ifCond .eq 27, 3) := by decide +kernel
theorem dX7_fits_52 : decode cX7_fits 52 = .ok (.iload_n 3, 1) := by decide +kernel
theorem dX7_fits_53 : decode cX7_fits 53 = .ok (.ifCond .lt 19, 3) := by decide +kernel
theorem dX7_fits_56 : decode cX7_fits 56 = .ok (.aload_n 0, 1) := by decide +kernel
theorem dX7_fits_57 : decode cX7_fits 57 = .ok (.getfield 13, 3) := by decide +kernel
theorem dX7_fits_60 : decode cX7_fits 60 = .ok (.aload_n 0, 1) := by decide +kernel
theorem dX7_fits_61 : decode cX7_fits 61 = .ok (.getfield 60, 3) := by decide +kernel
theorem dX7_fits_64 : decode cX7_fits 64 = .ok (.iload 5, 2) := by decide +kernel
theorem dX7_fits_66 : decode cX7_fits 66 = .ok (.iaload, 1) := by decide +kernel
theorem dX7_fits_67 : decode cX7_fits 67 = .ok (.iaload, 1) := by decide +kernel
theorem dX7_fits_68 : decode cX7_fits 68 = .ok (.iload_n 3, 1) := by decide +kernel
theorem dX7_fits_69 : decode cX7_fits 69 = .ok (.if_icmp .ne 7, 3) := by decide +kernel
theorem dX7_fits_72 : decode cX7_fits 72 = .ok (.iconst 1, 1) := by decide +kernel
theorem dX7_fits_73 : decode cX7_fits 73 = .ok (.goto 4, 3) := by decide +kernel
theorem dX7_fits_76 : decode cX7_fits 76 = .ok (.iconst 0, 1) := by decide +kernel
theorem dX7_fits_77 : decode cX7_fits 77 = .ok (.istore 4, 2) := by decide +kernel
theorem dX7_fits_79 : decode cX7_fits 79 = .ok (.aload_n 0, 1) := by decide +kernel
theorem dX7_fits_80 : decode cX7_fits 80 = .ok (.getfield 13, 3) := by decide +kernel
theorem dX7_fits_83 : decode cX7_fits 83 = .ok (.aload_n 0, 1) := by decide +kernel
theorem dX7_fits_84 : decode cX7_fits 84 = .ok (.getfield 60, 3) := by decide +kernel
theorem dX7_fits_87 : decode cX7_fits 87 = .ok (.iload 5, 2) := by decide +kernel
theorem dX7_fits_89 : decode cX7_fits 89 = .ok (.iaload, 1) := by decide +kernel
theorem dX7_fits_90 : decode cX7_fits 90 = .ok (.iaload, 1) := by decide +kernel
theorem dX7_fits_91 : decode cX7_fits 91 = .ok (.istore_n 3, 1) := by decide +kernel
theorem dX7_fits_92 : decode cX7_fits 92 = .ok (.iinc 5 1, 3) := by decide +kernel
theorem dX7_fits_95 : decode cX7_fits 95 = .ok (.goto (-84), 3) := by decide +kernel
theorem dX7_fits_98 : decode cX7_fits 98 = .ok (.iload 4, 2) := by decide +kernel
theorem dX7_fits_100 : decode cX7_fits 100 = .ok (.ifCond .eq 14, 3) := by decide +kernel
theorem dX7_fits_103 : decode cX7_fits 103 = .ok (.iload_n 2, 1) := by decide +kernel
theorem dX7_fits_104 : decode cX7_fits 104 = .ok (.sipush 300, 3) := by decide +kernel
theorem dX7_fits_107 : decode cX7_fits 107 = .ok (.if_icmp .gt 7, 3) := by decide +kernel
theorem dX7_fits_110 : decode cX7_fits 110 = .ok (.iconst 1, 1) := by decide +kernel
theorem dX7_fits_111 : decode cX7_fits 111 = .ok (.goto 4, 3) := by decide +kernel
theorem dX7_fits_114 : decode cX7_fits 114 = .ok (.iconst 0, 1) := by decide +kernel
theorem dX7_fits_115 : decode cX7_fits 115 = .ok (.ireturn, 1) := by decide +kernel
theorem dX7_fewestCasts_0 : decode cX7_fewestCasts 0 = .ok (.iconst 1, 1) := by decide +kernel
theorem dX7_fewestCasts_1 : decode cX7_fewestCasts 1 = .ok (.istore_n 1, 1) := by decide +kernel
theorem dX7_fewestCasts_2 : decode cX7_fewestCasts 2 = .ok (.iload_n 1, 1) := by decide +kernel
theorem dX7_fewestCasts_3 : decode cX7_fewestCasts 3 = .ok (.iconst 1, 1) := by decide +kernel
theorem dX7_fewestCasts_4 : decode cX7_fewestCasts 4 = .ok (.aload_n 0, 1) := by decide +kernel
theorem dX7_fewestCasts_5 : decode cX7_fewestCasts 5 = .ok (.getfield 120, 3) := by decide +kernel
theorem dX7_fewestCasts_8 : decode cX7_fewestCasts 8 = .ok (.ishl, 1) := by decide +kernel
theorem dX7_fewestCasts_9 : decode cX7_fewestCasts 9 = .ok (.if_icmp .ge 90, 3) := by decide +kernel
theorem dX7_fewestCasts_12 : decode cX7_fewestCasts 12 = .ok (.bipush 99, 2) := by decide +kernel
theorem dX7_fewestCasts_14 : decode cX7_fewestCasts 14 = .ok (.istore_n 2, 1) := by decide +kernel
theorem dX7_fewestCasts_15 : decode cX7_fewestCasts 15 = .ok (.iload_n 1, 1) := by decide +kernel
theorem dX7_fewestCasts_16 : decode cX7_fewestCasts 16 = .ok (.iload_n 1, 1) := by decide +kernel
theorem dX7_fewestCasts_17 : decode cX7_fewestCasts 17 = .ok (.ineg, 1) := by decide +kernel
theorem dX7_fewestCasts_18 : decode cX7_fewestCasts 18 = .ok (.iand, 1) := by decide +kernel
theorem dX7_fewestCasts_19 : decode cX7_fewestCasts 19 = .ok (.istore_n 3, 1) := by decide +kernel
theorem dX7_fewestCasts_20 : decode cX7_fewestCasts 20 = .ok (.iload_n 1, 1) := by decide +kernel
theorem dX7_fewestCasts_21 : decode cX7_fewestCasts 21 = .ok (.istore 4, 2) := by decide +kernel
theorem dX7_fewestCasts_23 : decode cX7_fewestCasts 23 = .ok (.iload 4, 2) := by decide +kernel
theorem dX7_fewestCasts_25 : decode cX7_fewestCasts 25 = .ok (.ifCond .le 61, 3) := by decide +kernel
theorem dX7_fewestCasts_28 : decode cX7_fewestCasts 28 = .ok (.iload 4, 2) := by decide +kernel
theorem dX7_fewestCasts_30 : decode cX7_fewestCasts 30 = .ok (.iload_n 3, 1) := by decide +kernel
theorem dX7_fewestCasts_31 : decode cX7_fewestCasts 31 = .ok (.iand, 1) := by decide +kernel
theorem dX7_fewestCasts_32 : decode cX7_fewestCasts 32 = .ok (.ifCond .le 43, 3) := by decide +kernel
theorem dX7_fewestCasts_35 : decode cX7_fewestCasts 35 = .ok (.aload_n 0, 1) := by decide +kernel
theorem dX7_fewestCasts_36 : decode cX7_fewestCasts 36 = .ok (.getfield 63, 3) := by decide +kernel
theorem dX7_fewestCasts_39 : decode cX7_fewestCasts 39 = .ok (.iload_n 1, 1) := by decide +kernel
theorem dX7_fewestCasts_40 : decode cX7_fewestCasts 40 = .ok (.iload 4, 2) := by decide +kernel
theorem dX7_fewestCasts_42 : decode cX7_fewestCasts 42 = .ok (.iconst (-1), 1) := by decide +kernel
theorem dX7_fewestCasts_43 : decode cX7_fewestCasts 43 = .ok (.ixor, 1) := by decide +kernel
theorem dX7_fewestCasts_44 : decode cX7_fewestCasts 44 = .ok (.iand, 1) := by decide +kernel
theorem dX7_fewestCasts_45 : decode cX7_fewestCasts 45 = .ok (.iaload, 1) := by decide +kernel
theorem dX7_fewestCasts_46 : decode cX7_fewestCasts 46 = .ok (.iconst 1, 1) := by decide +kernel
theorem dX7_fewestCasts_47 : decode cX7_fewestCasts 47 = .ok (.iadd, 1) := by decide +kernel
theorem dX7_fewestCasts_48 : decode cX7_fewestCasts 48 = .ok (.iload_n 2, 1) := by decide +kernel
theorem dX7_fewestCasts_49 : decode cX7_fewestCasts 49 = .ok (.if_icmp .ge 26, 3) := by decide +kernel
theorem dX7_fewestCasts_52 : decode cX7_fewestCasts 52 = .ok (.aload_n 0, 1) := by decide +kernel
theorem dX7_fewestCasts_53 : decode cX7_fewestCasts 53 = .ok (.iload 4, 2) := by decide +kernel
theorem dX7_fewestCasts_55 : decode cX7_fewestCasts 55 = .ok (.invokevirtual 123, 3) := by decide +kernel
theorem dX7_fewestCasts_58 : decode cX7_fewestCasts 58 = .ok (.ifCond .eq 17, 3) := by decide +kernel
theorem dX7_fewestCasts_61 : decode cX7_fewestCasts 61 = .ok (.aload_n 0, 1) := by decide +kernel
theorem dX7_fewestCasts_62 : decode cX7_fewestCasts 62 = .ok (.getfield 63, 3) := by decide +kernel
theorem dX7_fewestCasts_65 : decode cX7_fewestCasts 65 = .ok (.iload_n 1, 1) := by decide +kernel
theorem dX7_fewestCasts_66 : decode cX7_fewestCasts 66 = .ok (.iload 4, 2) := by decide +kernel
theorem dX7_fewestCasts_68 : decode cX7_fewestCasts 68 = .ok (.iconst (-1), 1) := by decide +kernel
theorem dX7_fewestCasts_69 : decode cX7_fewestCasts 69 = .ok (.ixor, 1) := by decide +kernel
theorem dX7_fewestCasts_70 : decode cX7_fewestCasts 70 = .ok (.iand, 1) := by decide +kernel
theorem dX7_fewestCasts_71 : decode cX7_fewestCasts 71 = .ok (.iaload, 1) := by decide +kernel
theorem dX7_fewestCasts_72 : decode cX7_fewestCasts 72 = .ok (.iconst 1, 1) := by decide +kernel
theorem dX7_fewestCasts_73 : decode cX7_fewestCasts 73 = .ok (.iadd, 1) := by decide +kernel
theorem dX7_fewestCasts_74 : decode cX7_fewestCasts 74 = .ok (.istore_n 2, 1) := by decide +kernel
theorem dX7_fewestCasts_75 : decode cX7_fewestCasts 75 = .ok (.iload 4, 2) := by decide +kernel
theorem dX7_fewestCasts_77 : decode cX7_fewestCasts 77 = .ok (.iconst 1, 1) := by decide +kernel
theorem dX7_fewestCasts_78 : decode cX7_fewestCasts 78 = .ok (.isub, 1) := by decide +kernel
theorem dX7_fewestCasts_79 : decode cX7_fewestCasts 79 = .ok (.iload_n 1, 1) := by decide +kernel
theorem dX7_fewestCasts_80 : decode cX7_fewestCasts 80 = .ok (.iand, 1) := by decide +kernel
theorem dX7_fewestCasts_81 : decode cX7_fewestCasts 81 = .ok (.istore 4, 2) := by decide +kernel
theorem dX7_fewestCasts_83 : decode cX7_fewestCasts 83 = .ok (.goto (-60), 3) := by decide +kernel
theorem dX7_fewestCasts_86 : decode cX7_fewestCasts 86 = .ok (.aload_n 0, 1) := by decide +kernel
theorem dX7_fewestCasts_87 : decode cX7_fewestCasts 87 = .ok (.getfield 63, 3) := by decide +kernel
theorem dX7_fewestCasts_90 : decode cX7_fewestCasts 90 = .ok (.iload_n 1, 1) := by decide +kernel
theorem dX7_fewestCasts_91 : decode cX7_fewestCasts 91 = .ok (.iload_n 2, 1) := by decide +kernel
theorem dX7_fewestCasts_92 : decode cX7_fewestCasts 92 = .ok (.iastore, 1) := by decide +kernel
theorem dX7_fewestCasts_93 : decode cX7_fewestCasts 93 = .ok (.iinc 1 1, 3) := by decide +kernel
theorem dX7_fewestCasts_96 : decode cX7_fewestCasts 96 = .ok (.goto (-94), 3) := by decide +kernel
theorem dX7_fewestCasts_99 : decode cX7_fewestCasts 99 = .ok (.aload_n 0, 1) := by decide +kernel
theorem dX7_fewestCasts_100 : decode cX7_fewestCasts 100 = .ok (.getfield 63, 3) := by decide +kernel
theorem dX7_fewestCasts_103 : decode cX7_fewestCasts 103 = .ok (.iconst 1, 1) := by decide +kernel
theorem dX7_fewestCasts_104 : decode cX7_fewestCasts 104 = .ok (.aload_n 0, 1) := by decide +kernel
theorem dX7_fewestCasts_105 : decode cX7_fewestCasts 105 = .ok (.getfield 120, 3) := by decide +kernel
theorem dX7_fewestCasts_108 : decode cX7_fewestCasts 108 = .ok (.ishl, 1) := by decide +kernel
theorem dX7_fewestCasts_109 : decode cX7_fewestCasts 109 = .ok (.iconst 1, 1) := by decide +kernel
theorem dX7_fewestCasts_110 : decode cX7_fewestCasts 110 = .ok (.isub, 1) := by decide +kernel
theorem dX7_fewestCasts_111 : decode cX7_fewestCasts 111 = .ok (.iaload, 1) := by decide +kernel
theorem dX7_fewestCasts_112 : decode cX7_fewestCasts 112 = .ok (.ireturn, 1) := by decide +kernel
theorem dX7_plainCasts_0 : decode cX7_plainCasts 0 = .ok (.iconst 0, 1) := by decide +kernel
theorem dX7_plainCasts_1 : decode cX7_plainCasts 1 = .ok (.istore_n 1, 1) := by decide +kernel
theorem dX7_plainCasts_2 : decode cX7_plainCasts 2 = .ok (.iconst 0, 1) := by decide +kernel
theorem dX7_plainCasts_3 : decode cX7_plainCasts 3 = .ok (.istore_n 2, 1) := by decide +kernel
theorem dX7_plainCasts_4 : decode cX7_plainCasts 4 = .ok (.iload_n 2, 1) := by decide +kernel
theorem dX7_plainCasts_5 : decode cX7_plainCasts 5 = .ok (.bipush 8, 2) := by decide +kernel
theorem dX7_plainCasts_7 : decode cX7_plainCasts 7 = .ok (.if_icmp .ge 262, 3) := by decide +kernel
theorem dX7_plainCasts_10 : decode cX7_plainCasts 10 = .ok (.iconst 0, 1) := by decide +kernel
theorem dX7_plainCasts_11 : decode cX7_plainCasts 11 = .ok (.istore_n 3, 1) := by decide +kernel
theorem dX7_plainCasts_12 : decode cX7_plainCasts 12 = .ok (.iconst 0, 1) := by decide +kernel
theorem dX7_plainCasts_13 : decode cX7_plainCasts 13 = .ok (.istore 4, 2) := by decide +kernel
theorem dX7_plainCasts_15 : decode cX7_plainCasts 15 = .ok (.iconst 1, 1) := by decide +kernel
theorem dX7_plainCasts_16 : decode cX7_plainCasts 16 = .ok (.istore 5, 2) := by decide +kernel
theorem dX7_plainCasts_18 : decode cX7_plainCasts 18 = .ok (.iload 5, 2) := by decide +kernel
theorem dX7_plainCasts_20 : decode cX7_plainCasts 20 = .ok (.ifCond .eq 239, 3) := by decide +kernel
theorem dX7_plainCasts_23 : decode cX7_plainCasts 23 = .ok (.iconst (-1), 1) := by decide +kernel
theorem dX7_plainCasts_24 : decode cX7_plainCasts 24 = .ok (.istore 6, 2) := by decide +kernel
theorem dX7_plainCasts_26 : decode cX7_plainCasts 26 = .ok (.iconst 0, 1) := by decide +kernel
theorem dX7_plainCasts_27 : decode cX7_plainCasts 27 = .ok (.istore 7, 2) := by decide +kernel
theorem dX7_plainCasts_29 : decode cX7_plainCasts 29 = .ok (.iload 7, 2) := by decide +kernel
theorem dX7_plainCasts_31 : decode cX7_plainCasts 31 = .ok (.aload_n 0, 1) := by decide +kernel
theorem dX7_plainCasts_32 : decode cX7_plainCasts 32 = .ok (.getfield 120, 3) := by decide +kernel
theorem dX7_plainCasts_35 : decode cX7_plainCasts 35 = .ok (.if_icmp .ge 88, 3) := by decide +kernel
theorem dX7_plainCasts_38 : decode cX7_plainCasts 38 = .ok (.aload_n 0, 1) := by decide +kernel
theorem dX7_plainCasts_39 : decode cX7_plainCasts 39 = .ok (.getfield 13, 3) := by decide +kernel
theorem dX7_plainCasts_42 : decode cX7_plainCasts 42 = .ok (.aload_n 0, 1) := by decide +kernel
theorem dX7_plainCasts_43 : decode cX7_plainCasts 43 = .ok (.getfield 60, 3) := by decide +kernel
theorem dX7_plainCasts_46 : decode cX7_plainCasts 46 = .ok (.iload 7, 2) := by decide +kernel
theorem dX7_plainCasts_48 : decode cX7_plainCasts 48 = .ok (.iaload, 1) := by decide +kernel
theorem dX7_plainCasts_49 : decode cX7_plainCasts 49 = .ok (.iaload, 1) := by decide +kernel
theorem dX7_plainCasts_50 : decode cX7_plainCasts 50 = .ok (.iload_n 2, 1) := by decide +kernel
theorem dX7_plainCasts_51 : decode cX7_plainCasts 51 = .ok (.if_icmp .ne 17, 3) := by decide +kernel
theorem dX7_plainCasts_54 : decode cX7_plainCasts 54 = .ok (.iload 4, 2) := by decide +kernel
theorem dX7_plainCasts_56 : decode cX7_plainCasts 56 = .ok (.iload 7, 2) := by decide +kernel
theorem dX7_plainCasts_58 : decode cX7_plainCasts 58 = .ok (.ishr, 1) := by decide +kernel
theorem dX7_plainCasts_59 : decode cX7_plainCasts 59 = .ok (.iconst 1, 1) := by decide +kernel
theorem dX7_plainCasts_60 : decode cX7_plainCasts 60 = .ok (.iand, 1) := by decide +kernel
theorem dX7_plainCasts_61 : decode cX7_plainCasts 61 = .ok (.ifCond .ne 7, 3) := by decide +kernel
theorem dX7_plainCasts_64 : decode cX7_plainCasts 64 = .ok (.iconst 1, 1) := by decide +kernel
theorem dX7_plainCasts_65 : decode cX7_plainCasts 65 = .ok (.goto 4, 3) := by decide +kernel
theorem dX7_plainCasts_68 : decode cX7_plainCasts 68 = .ok (.iconst 0, 1) := by decide +kernel
theorem dX7_plainCasts_69 : decode cX7_plainCasts 69 = .ok (.istore 8, 2) := by decide +kernel
theorem dX7_plainCasts_71 : decode cX7_plainCasts 71 = .ok (.iload 8, 2) := by decide +kernel
theorem dX7_plainCasts_73 : decode cX7_plainCasts 73 = .ok (.ifCond .eq 40, 3) := by decide +kernel
theorem dX7_plainCasts_76 : decode cX7_plainCasts 76 = .ok (.iload 6, 2) := by decide +kernel
theorem dX7_plainCasts_78 : decode cX7_plainCasts 78 = .ok (.ifCond .lt 30, 3) := by decide +kernel
theorem dX7_plainCasts_81 : decode cX7_plainCasts 81 = .ok (.aload_n 0, 1) := by decide +kernel
theorem dX7_plainCasts_82 : decode cX7_plainCasts 82 = .ok (.getfield 7, 3) := by decide +kernel
theorem dX7_plainCasts_85 : decode cX7_plainCasts 85 = .ok (.aload_n 0, 1) := by decide +kernel
theorem dX7_plainCasts_86 : decode cX7_plainCasts 86 = .ok (.getfield 60, 3) := by decide +kernel
theorem dX7_plainCasts_89 : decode cX7_plainCasts 89 = .ok (.iload 7, 2) := by decide +kernel
theorem dX7_plainCasts_91 : decode cX7_plainCasts 91 = .ok (.iaload, 1) := by decide +kernel
theorem dX7_plainCasts_92 : decode cX7_plainCasts 92 = .ok (.iaload, 1) := by decide +kernel
theorem dX7_plainCasts_93 : decode cX7_plainCasts 93 = .ok (.aload_n 0, 1) := by decide +kernel
theorem dX7_plainCasts_94 : decode cX7_plainCasts 94 = .ok (.getfield 7, 3) := by decide +kernel
theorem dX7_plainCasts_97 : decode cX7_plainCasts 97 = .ok (.aload_n 0, 1) := by decide +kernel
theorem dX7_plainCasts_98 : decode cX7_plainCasts 98 = .ok (.getfield 60, 3) := by decide +kernel
theorem dX7_plainCasts_101 : decode cX7_plainCasts 101 = .ok (.iload 6, 2) := by decide +kernel
theorem dX7_plainCasts_103 : decode cX7_plainCasts 103 = .ok (.iaload, 1) := by decide +kernel
theorem dX7_plainCasts_104 : decode cX7_plainCasts 104 = .ok (.iaload, 1) := by decide +kernel
theorem dX7_plainCasts_105 : decode cX7_plainCasts 105 = .ok (.if_icmp .le 8, 3) := by decide +kernel
theorem dX7_plainCasts_108 : decode cX7_plainCasts 108 = .ok (.iload 7, 2) := by decide +kernel
theorem dX7_plainCasts_110 : decode cX7_plainCasts 110 = .ok (.goto 5, 3) := by decide +kernel
theorem dX7_plainCasts_113 : decode cX7_plainCasts 113 = .ok (.iload 6, 2) := by decide +kernel
theorem dX7_plainCasts_115 : decode cX7_plainCasts 115 = .ok (.istore 6, 2) := by decide +kernel
theorem dX7_plainCasts_117 : decode cX7_plainCasts 117 = .ok (.iinc 7 1, 3) := by decide +kernel
theorem dX7_plainCasts_120 : decode cX7_plainCasts 120 = .ok (.goto (-91), 3) := by decide +kernel
theorem dX7_plainCasts_123 : decode cX7_plainCasts 123 = .ok (.iload 6, 2) := by decide +kernel
theorem dX7_plainCasts_125 : decode cX7_plainCasts 125 = .ok (.ifCond .lt 7, 3) := by decide +kernel
theorem dX7_plainCasts_128 : decode cX7_plainCasts 128 = .ok (.iconst 1, 1) := by decide +kernel
theorem dX7_plainCasts_129 : decode cX7_plainCasts 129 = .ok (.goto 4, 3) := by decide +kernel
theorem dX7_plainCasts_132 : decode cX7_plainCasts 132 = .ok (.iconst 0, 1) := by decide +kernel
theorem dX7_plainCasts_133 : decode cX7_plainCasts 133 = .ok (.istore 5, 2) := by decide +kernel
theorem dX7_plainCasts_135 : decode cX7_plainCasts 135 = .ok (.iload 5, 2) := by decide +kernel
theorem dX7_plainCasts_137 : decode cX7_plainCasts 137 = .ok (.ifCond .eq 119, 3) := by decide +kernel
theorem dX7_plainCasts_140 : decode cX7_plainCasts 140 = .ok (.iload 4, 2) := by decide +kernel
theorem dX7_plainCasts_142 : decode cX7_plainCasts 142 = .ok (.iconst 1, 1) := by decide +kernel
theorem dX7_plainCasts_143 : decode cX7_plainCasts 143 = .ok (.iload 6, 2) := by decide +kernel
theorem dX7_plainCasts_145 : decode cX7_plainCasts 145 = .ok (.ishl, 1) := by decide +kernel
theorem dX7_plainCasts_146 : decode cX7_plainCasts 146 = .ok (.ior, 1) := by decide +kernel
theorem dX7_plainCasts_147 : decode cX7_plainCasts 147 = .ok (.istore 4, 2) := by decide +kernel
theorem dX7_plainCasts_149 : decode cX7_plainCasts 149 = .ok (.iconst 0, 1) := by decide +kernel
theorem dX7_plainCasts_150 : decode cX7_plainCasts 150 = .ok (.istore 7, 2) := by decide +kernel
theorem dX7_plainCasts_152 : decode cX7_plainCasts 152 = .ok (.iload 7, 2) := by decide +kernel
theorem dX7_plainCasts_154 : decode cX7_plainCasts 154 = .ok (.iload_n 3, 1) := by decide +kernel
theorem dX7_plainCasts_155 : decode cX7_plainCasts 155 = .ok (.if_icmp .ge 33, 3) := by decide +kernel
theorem dX7_plainCasts_158 : decode cX7_plainCasts 158 = .ok (.aload_n 0, 1) := by decide +kernel
theorem dX7_plainCasts_159 : decode cX7_plainCasts 159 = .ok (.getfield 66, 3) := by decide +kernel
theorem dX7_plainCasts_162 : decode cX7_plainCasts 162 = .ok (.iload 7, 2) := by decide +kernel
theorem dX7_plainCasts_164 : decode cX7_plainCasts 164 = .ok (.iaload, 1) := by decide +kernel
theorem dX7_plainCasts_165 : decode cX7_plainCasts 165 = .ok (.aload_n 0, 1) := by decide +kernel
theorem dX7_plainCasts_166 : decode cX7_plainCasts 166 = .ok (.getfield 7, 3) := by decide +kernel
theorem dX7_plainCasts_169 : decode cX7_plainCasts 169 = .ok (.aload_n 0, 1) := by decide +kernel
theorem dX7_plainCasts_170 : decode cX7_plainCasts 170 = .ok (.getfield 60, 3) := by decide +kernel
theorem dX7_plainCasts_173 : decode cX7_plainCasts 173 = .ok (.iload 6, 2) := by decide +kernel
theorem dX7_plainCasts_175 : decode cX7_plainCasts 175 = .ok (.iaload, 1) := by decide +kernel
theorem dX7_plainCasts_176 : decode cX7_plainCasts 176 = .ok (.iaload, 1) := by decide +kernel
theorem dX7_plainCasts_177 : decode cX7_plainCasts 177 = .ok (.iconst 4, 1) := by decide +kernel
theorem dX7_plainCasts_178 : decode cX7_plainCasts 178 = .ok (.iadd, 1) := by decide +kernel
theorem dX7_plainCasts_179 : decode cX7_plainCasts 179 = .ok (.if_icmp .ge 9, 3) := by decide +kernel
theorem dX7_plainCasts_182 : decode cX7_plainCasts 182 = .ok (.iinc 7 1, 3) := by decide +kernel
theorem dX7_plainCasts_185 : decode cX7_plainCasts 185 = .ok (.goto (-33), 3) := by decide +kernel
theorem dX7_plainCasts_188 : decode cX7_plainCasts 188 = .ok (.aload_n 0, 1) := by decide +kernel
theorem dX7_plainCasts_189 : decode cX7_plainCasts 189 = .ok (.getfield 66, 3) := by decide +kernel
theorem dX7_plainCasts_192 : decode cX7_plainCasts 192 = .ok (.iload 7, 2) := by decide +kernel
theorem dX7_plainCasts_194 : decode cX7_plainCasts 194 = .ok (.iload 7, 2) := by decide +kernel
theorem dX7_plainCasts_196 : decode cX7_plainCasts 196 = .ok (.iload_n 3, 1) := by decide +kernel
theorem dX7_plainCasts_197 : decode cX7_plainCasts 197 = .ok (.if_icmp .ne 22, 3) := by decide +kernel
theorem dX7_plainCasts_200 : decode cX7_plainCasts 200 = .ok (.sipush 300, 3) := by decide +kernel
theorem dX7_plainCasts_203 : decode cX7_plainCasts 203 = .ok (.aload_n 0, 1) := by decide +kernel
theorem dX7_plainCasts_204 : decode cX7_plainCasts 204 = .ok (.getfield 7, 3) := by decide +kernel
theorem dX7_plainCasts_207 : decode cX7_plainCasts 207 = .ok (.aload_n 0, 1) := by decide +kernel
theorem dX7_plainCasts_208 : decode cX7_plainCasts 208 = .ok (.getfield 60, 3) := by decide +kernel
theorem dX7_plainCasts_211 : decode cX7_plainCasts 211 = .ok (.iload 6, 2) := by decide +kernel
theorem dX7_plainCasts_213 : decode cX7_plainCasts 213 = .ok (.iaload, 1) := by decide +kernel
theorem dX7_plainCasts_214 : decode cX7_plainCasts 214 = .ok (.iaload, 1) := by decide +kernel
theorem dX7_plainCasts_215 : decode cX7_plainCasts 215 = .ok (.isub, 1) := by decide +kernel
theorem dX7_plainCasts_216 : decode cX7_plainCasts 216 = .ok (.goto 25, 3) := by decide +kernel
theorem dX7_plainCasts_219 : decode cX7_plainCasts 219 = .ok (.aload_n 0, 1) := by decide +kernel
theorem dX7_plainCasts_220 : decode cX7_plainCasts 220 = .ok (.getfield 66, 3) := by decide +kernel
theorem dX7_plainCasts_223 : decode cX7_plainCasts 223 = .ok (.iload 7, 2) := by decide +kernel
theorem dX7_plainCasts_225 : decode cX7_plainCasts 225 = .ok (.iaload, 1) := by decide +kernel
theorem dX7_plainCasts_226 : decode cX7_plainCasts 226 = .ok (.aload_n 0, 1) := by decide +kernel
theorem dX7_plainCasts_227 : decode cX7_plainCasts 227 = .ok (.getfield 7, 3) := by decide +kernel
theorem dX7_plainCasts_230 : decode cX7_plainCasts 230 = .ok (.aload_n 0, 1) := by decide +kernel
theorem dX7_plainCasts_231 : decode cX7_plainCasts 231 = .ok (.getfield 60, 3) := by decide +kernel
theorem dX7_plainCasts_234 : decode cX7_plainCasts 234 = .ok (.iload 6, 2) := by decide +kernel
theorem dX7_plainCasts_236 : decode cX7_plainCasts 236 = .ok (.iaload, 1) := by decide +kernel
theorem dX7_plainCasts_237 : decode cX7_plainCasts 237 = .ok (.iaload, 1) := by decide +kernel
theorem dX7_plainCasts_238 : decode cX7_plainCasts 238 = .ok (.isub, 1) := by decide +kernel
theorem dX7_plainCasts_239 : decode cX7_plainCasts 239 = .ok (.iconst 4, 1) := by decide +kernel
theorem dX7_plainCasts_240 : decode cX7_plainCasts 240 = .ok (.isub, 1) := by decide +kernel
theorem dX7_plainCasts_241 : decode cX7_plainCasts 241 = .ok (.iastore, 1) := by decide +kernel
theorem dX7_plainCasts_242 : decode cX7_plainCasts 242 = .ok (.iload 7, 2) := by decide +kernel
theorem dX7_plainCasts_244 : decode cX7_plainCasts 244 = .ok (.iload_n 3, 1) := by decide +kernel
theorem dX7_plainCasts_245 : decode cX7_plainCasts 245 = .ok (.if_icmp .ne 9, 3) := by decide +kernel
theorem dX7_plainCasts_248 : decode cX7_plainCasts 248 = .ok (.iload_n 3, 1) := by decide +kernel
theorem dX7_plainCasts_249 : decode cX7_plainCasts 249 = .ok (.iconst 1, 1) := by decide +kernel
theorem dX7_plainCasts_250 : decode cX7_plainCasts 250 = .ok (.iadd, 1) := by decide +kernel
theorem dX7_plainCasts_251 : decode cX7_plainCasts 251 = .ok (.goto 4, 3) := by decide +kernel
theorem dX7_plainCasts_254 : decode cX7_plainCasts 254 = .ok (.iload_n 3, 1) := by decide +kernel
theorem dX7_plainCasts_255 : decode cX7_plainCasts 255 = .ok (.istore_n 3, 1) := by decide +kernel
theorem dX7_plainCasts_256 : decode cX7_plainCasts 256 = .ok (.goto (-238), 3) := by decide +kernel
theorem dX7_plainCasts_259 : decode cX7_plainCasts 259 = .ok (.iload_n 1, 1) := by decide +kernel
theorem dX7_plainCasts_260 : decode cX7_plainCasts 260 = .ok (.iload_n 3, 1) := by decide +kernel
theorem dX7_plainCasts_261 : decode cX7_plainCasts 261 = .ok (.iadd, 1) := by decide +kernel
theorem dX7_plainCasts_262 : decode cX7_plainCasts 262 = .ok (.istore_n 1, 1) := by decide +kernel
theorem dX7_plainCasts_263 : decode cX7_plainCasts 263 = .ok (.iinc 2 1, 3) := by decide +kernel
theorem dX7_plainCasts_266 : decode cX7_plainCasts 266 = .ok (.goto (-262), 3) := by decide +kernel
theorem dX7_plainCasts_269 : decode cX7_plainCasts 269 = .ok (.iload_n 1, 1) := by decide +kernel
theorem dX7_plainCasts_270 : decode cX7_plainCasts 270 = .ok (.ireturn, 1) := by decide +kernel
theorem dX7_casts_0 : decode cX7_casts 0 = .ok (.aload_n 0, 1) := by decide +kernel
theorem dX7_casts_1 : decode cX7_casts 1 = .ok (.iload_n 1, 1) := by decide +kernel
theorem dX7_casts_2 : decode cX7_casts 2 = .ok (.invokevirtual 114, 3) := by decide +kernel
theorem dX7_casts_5 : decode cX7_casts 5 = .ok (.ifCond .eq 26, 3) := by decide +kernel
theorem dX7_casts_8 : decode cX7_casts 8 = .ok (.aload_n 0, 1) := by decide +kernel
theorem dX7_casts_9 : decode cX7_casts 9 = .ok (.iload_n 2, 1) := by decide +kernel
theorem dX7_casts_10 : decode cX7_casts 10 = .ok (.invokevirtual 114, 3) := by decide +kernel
theorem dX7_casts_13 : decode cX7_casts 13 = .ok (.ifCond .eq 18, 3) := by decide +kernel
theorem dX7_casts_16 : decode cX7_casts 16 = .ok (.iload_n 2, 1) := by decide +kernel
theorem dX7_casts_17 : decode cX7_casts 17 = .ok (.iload_n 1, 1) := by decide +kernel
theorem dX7_casts_18 : decode cX7_casts 18 = .ok (.if_icmp .lt 13, 3) := by decide +kernel
theorem dX7_casts_21 : decode cX7_casts 21 = .ok (.iload_n 3, 1) := by decide +kernel
theorem dX7_casts_22 : decode cX7_casts 22 = .ok (.i2l, 1) := by decide +kernel
theorem dX7_casts_23 : decode cX7_casts 23 = .ok (.lconst 0, 1) := by decide +kernel
theorem dX7_casts_24 : decode cX7_casts 24 = .ok (.lconst 1, 1) := by decide +kernel
theorem dX7_casts_25 : decode cX7_casts 25 = .ok (.invokestatic 96, 3) := by decide +kernel
theorem dX7_casts_28 : decode cX7_casts 28 = .ok (.ifCond .ne 5, 3) := by decide +kernel
theorem dX7_casts_31 : decode cX7_casts 31 = .ok (.iconst (-1), 1) := by decide +kernel
theorem dX7_casts_32 : decode cX7_casts 32 = .ok (.ireturn, 1) := by decide +kernel
theorem dX7_casts_33 : decode cX7_casts 33 = .ok (.aload_n 0, 1) := by decide +kernel
theorem dX7_casts_34 : decode cX7_casts 34 = .ok (.iconst 0, 1) := by decide +kernel
theorem dX7_casts_35 : decode cX7_casts 35 = .ok (.putfield 120, 3) := by decide +kernel
theorem dX7_casts_38 : decode cX7_casts 38 = .ok (.iconst 0, 1) := by decide +kernel
theorem dX7_casts_39 : decode cX7_casts 39 = .ok (.istore 4, 2) := by decide +kernel
theorem dX7_casts_41 : decode cX7_casts 41 = .ok (.iload_n 1, 1) := by decide +kernel
theorem dX7_casts_42 : decode cX7_casts 42 = .ok (.istore 5, 2) := by decide +kernel
theorem dX7_casts_44 : decode cX7_casts 44 = .ok (.iload 5, 2) := by decide +kernel
theorem dX7_casts_46 : decode cX7_casts 46 = .ok (.iload_n 2, 1) := by decide +kernel
theorem dX7_casts_47 : decode cX7_casts 47 = .ok (.if_icmp .gt 52, 3) := by decide +kernel
theorem dX7_casts_50 : decode cX7_casts 50 = .ok (.aload_n 0, 1) := by decide +kernel
theorem dX7_casts_51 : decode cX7_casts 51 = .ok (.getfield 22, 3) := by decide +kernel
theorem dX7_casts_54 : decode cX7_casts 54 = .ok (.iload 5, 2) := by decide +kernel
theorem dX7_casts_56 : decode cX7_casts 56 = .ok (.iaload, 1) := by decide +kernel
theorem dX7_casts_57 : decode cX7_casts 57 = .ok (.ifCond .ne 36, 3) := by decide +kernel
theorem dX7_casts_60 : decode cX7_casts 60 = .ok (.aload_n 0, 1) := by decide +kernel
theorem dX7_casts_61 : decode cX7_casts 61 = .ok (.getfield 120, 3) := by decide +kernel
theorem dX7_casts_64 : decode cX7_casts 64 = .ok (.bipush 12, 2) := by decide +kernel
theorem dX7_casts_66 : decode cX7_casts 66 = .ok (.if_icmp .ge 24, 3) := by decide +kernel
theorem dX7_casts_69 : decode cX7_casts 69 = .ok (.aload_n 0, 1) := by decide +kernel
theorem dX7_casts_70 : decode cX7_casts 70 = .ok (.getfield 60, 3) := by decide +kernel
theorem dX7_casts_73 : decode cX7_casts 73 = .ok (.aload_n 0, 1) := by decide +kernel
theorem dX7_casts_74 : decode cX7_casts 74 = .ok (.getfield 120, 3) := by decide +kernel
theorem dX7_casts_77 : decode cX7_casts 77 = .ok (.iload 5, 2) := by decide +kernel
theorem dX7_casts_79 : decode cX7_casts 79 = .ok (.iastore, 1) := by decide +kernel
theorem dX7_casts_80 : decode cX7_casts 80 = .ok (.aload_n 0, 1) := by decide +kernel
theorem dX7_casts_81 : decode cX7_casts 81 = .ok (.dup, 1) := by decide +kernel
theorem dX7_casts_82 : decode cX7_casts 82 = .ok (.getfield 120, 3) := by decide +kernel
theorem dX7_casts_85 : decode cX7_casts 85 = .ok (.iconst 1, 1) := by decide +kernel
theorem dX7_casts_86 : decode cX7_casts 86 = .ok (.iadd, 1) := by decide +kernel
theorem dX7_casts_87 : decode cX7_casts 87 = .ok (.putfield 120, 3) := by decide +kernel
theorem dX7_casts_90 : decode cX7_casts 90 = .ok (.iinc 4 1, 3) := by decide +kernel
theorem dX7_casts_93 : decode cX7_casts 93 = .ok (.iinc 5 1, 3) := by decide +kernel
theorem dX7_casts_96 : decode cX7_casts 96 = .ok (.goto (-52), 3) := by decide +kernel
theorem dX7_casts_99 : decode cX7_casts 99 = .ok (.iload 4, 2) := by decide +kernel
theorem dX7_casts_101 : decode cX7_casts 101 = .ok (.bipush 12, 2) := by decide +kernel
theorem dX7_casts_103 : decode cX7_casts 103 = .ok (.if_icmp .le 5, 3) := by decide +kernel
theorem dX7_casts_106 : decode cX7_casts 106 = .ok (.iconst (-1), 1) := by decide +kernel
theorem dX7_casts_107 : decode cX7_casts 107 = .ok (.ireturn, 1) := by decide +kernel
theorem dX7_casts_108 : decode cX7_casts 108 = .ok (.iload_n 3, 1) := by decide +kernel
theorem dX7_casts_109 : decode cX7_casts 109 = .ok (.ifCond .ne 10, 3) := by decide +kernel
theorem dX7_casts_112 : decode cX7_casts 112 = .ok (.aload_n 0, 1) := by decide +kernel
theorem dX7_casts_113 : decode cX7_casts 113 = .ok (.invokevirtual 126, 3) := by decide +kernel
theorem dX7_casts_116 : decode cX7_casts 116 = .ok (.goto 7, 3) := by decide +kernel
theorem dX7_casts_119 : decode cX7_casts 119 = .ok (.aload_n 0, 1) := by decide +kernel
theorem dX7_casts_120 : decode cX7_casts 120 = .ok (.invokevirtual 130, 3) := by decide +kernel
theorem dX7_casts_123 : decode cX7_casts 123 = .ok (.ireturn, 1) := by decide +kernel
theorem dX7_cast_0 : decode cX7_cast 0 = .ok (.iload_n 1, 1) := by decide +kernel
theorem dX7_cast_1 : decode cX7_cast 1 = .ok (.i2l, 1) := by decide +kernel
theorem dX7_cast_2 : decode cX7_cast 2 = .ok (.lconst 0, 1) := by decide +kernel
theorem dX7_cast_3 : decode cX7_cast 3 = .ok (.ldc2_w 133, 3) := by decide +kernel
theorem dX7_cast_6 : decode cX7_cast 6 = .ok (.invokestatic 96, 3) := by decide +kernel
theorem dX7_cast_9 : decode cX7_cast 9 = .ok (.ifCond .eq 30, 3) := by decide +kernel
theorem dX7_cast_12 : decode cX7_cast 12 = .ok (.aload_n 0, 1) := by decide +kernel
theorem dX7_cast_13 : decode cX7_cast 13 = .ok (.iload_n 2, 1) := by decide +kernel
theorem dX7_cast_14 : decode cX7_cast 14 = .ok (.invokevirtual 114, 3) := by decide +kernel
theorem dX7_cast_17 : decode cX7_cast 17 = .ok (.ifCond .eq 22, 3) := by decide +kernel
theorem dX7_cast_20 : decode cX7_cast 20 = .ok (.iload_n 3, 1) := by decide +kernel
theorem dX7_cast_21 : decode cX7_cast 21 = .ok (.ifCond .eq 18, 3) := by decide +kernel
theorem dX7_cast_24 : decode cX7_cast 24 = .ok (.iload_n 3, 1) := by decide +kernel
theorem dX7_cast_25 : decode cX7_cast 25 = .ok (.ifCond .ge 16, 3) := by decide +kernel
theorem dX7_cast_28 : decode cX7_cast 28 = .ok (.iload_n 2, 1) := by decide +kernel
theorem dX7_cast_29 : decode cX7_cast 29 = .ok (.bipush 31, 2) := by decide +kernel
theorem dX7_cast_31 : decode cX7_cast 31 = .ok (.iadd, 1) := by decide +kernel
theorem dX7_cast_32 : decode cX7_cast 32 = .ok (.aload_n 0, 1) := by decide +kernel
theorem dX7_cast_33 : decode cX7_cast 33 = .ok (.getfield 93, 3) := by decide +kernel
theorem dX7_cast_36 : decode cX7_cast 36 = .ok (.if_icmp .lt 5, 3) := by decide +kernel
theorem dX7_cast_39 : decode cX7_cast 39 = .ok (.iconst (-1), 1) := by decide +kernel
theorem dX7_cast_40 : decode cX7_cast 40 = .ok (.ireturn, 1) := by decide +kernel
theorem dX7_cast_41 : decode cX7_cast 41 = .ok (.iconst 0, 1) := by decide +kernel
theorem dX7_cast_42 : decode cX7_cast 42 = .ok (.istore 4, 2) := by decide +kernel
theorem dX7_cast_44 : decode cX7_cast 44 = .ok (.iload 4, 2) := by decide +kernel
theorem dX7_cast_46 : decode cX7_cast 46 = .ok (.bipush 32, 2) := by decide +kernel
theorem dX7_cast_48 : decode cX7_cast 48 = .ok (.if_icmp .ge 32, 3) := by decide +kernel
theorem dX7_cast_51 : decode cX7_cast 51 = .ok (.iload_n 3, 1) := by decide +kernel
theorem dX7_cast_52 : decode cX7_cast 52 = .ok (.iload 4, 2) := by decide +kernel
theorem dX7_cast_54 : decode cX7_cast 54 = .ok (.ishr, 1) := by decide +kernel
theorem dX7_cast_55 : decode cX7_cast 55 = .ok (.iconst 1, 1) := by decide +kernel
theorem dX7_cast_56 : decode cX7_cast 56 = .ok (.iand, 1) := by decide +kernel
theorem dX7_cast_57 : decode cX7_cast 57 = .ok (.iconst 1, 1) := by decide +kernel
theorem dX7_cast_58 : decode cX7_cast 58 = .ok (.if_icmp .ne 16, 3) := by decide +kernel
theorem dX7_cast_61 : decode cX7_cast 61 = .ok (.iload_n 2, 1) := by decide +kernel
theorem dX7_cast_62 : decode cX7_cast 62 = .ok (.iload 4, 2) := by decide +kernel
theorem dX7_cast_64 : decode cX7_cast 64 = .ok (.iadd, 1) := by decide +kernel
theorem dX7_cast_65 : decode cX7_cast 65 = .ok (.aload_n 0, 1) := by decide +kernel
theorem dX7_cast_66 : decode cX7_cast 66 = .ok (.getfield 93, 3) := by decide +kernel
theorem dX7_cast_69 : decode cX7_cast 69 = .ok (.if_icmp .lt 5, 3) := by decide +kernel
theorem dX7_cast_72 : decode cX7_cast 72 = .ok (.iconst (-1), 1) := by decide +kernel
theorem dX7_cast_73 : decode cX7_cast 73 = .ok (.ireturn, 1) := by decide +kernel
theorem dX7_cast_74 : decode cX7_cast 74 = .ok (.iinc 4 1, 3) := by decide +kernel
theorem dX7_cast_77 : decode cX7_cast 77 = .ok (.goto (-33), 3) := by decide +kernel
theorem dX7_cast_80 : decode cX7_cast 80 = .ok (.bipush (-4), 2) := by decide +kernel
theorem dX7_cast_82 : decode cX7_cast 82 = .ok (.istore 4, 2) := by decide +kernel
theorem dX7_cast_84 : decode cX7_cast 84 = .ok (.iconst (-1), 1) := by decide +kernel
theorem dX7_cast_85 : decode cX7_cast 85 = .ok (.istore 5, 2) := by decide +kernel
theorem dX7_cast_87 : decode cX7_cast 87 = .ok (.aload_n 0, 1) := by decide +kernel
theorem dX7_cast_88 : decode cX7_cast 88 = .ok (.getfield 35, 3) := by decide +kernel
theorem dX7_cast_91 : decode cX7_cast 91 = .ok (.iload_n 1, 1) := by decide +kernel
theorem dX7_cast_92 : decode cX7_cast 92 = .ok (.iaload, 1) := by decide +kernel
theorem dX7_cast_93 : decode cX7_cast 93 = .ok (.ifCond .ne 7, 3) := by decide +kernel
theorem dX7_cast_96 : decode cX7_cast 96 = .ok (.iconst 1, 1) := by decide +kernel
theorem dX7_cast_97 : decode cX7_cast 97 = .ok (.goto 4, 3) := by decide +kernel
theorem dX7_cast_100 : decode cX7_cast 100 = .ok (.iconst 0, 1) := by decide +kernel
theorem dX7_cast_101 : decode cX7_cast 101 = .ok (.istore 6, 2) := by decide +kernel
theorem dX7_cast_103 : decode cX7_cast 103 = .ok (.iconst 0, 1) := by decide +kernel
theorem dX7_cast_104 : decode cX7_cast 104 = .ok (.istore 7, 2) := by decide +kernel
theorem dX7_cast_106 : decode cX7_cast 106 = .ok (.iconst 0, 1) := by decide +kernel
theorem dX7_cast_107 : decode cX7_cast 107 = .ok (.istore 8, 2) := by decide +kernel
theorem dX7_cast_109 : decode cX7_cast 109 = .ok (.iload 8, 2) := by decide +kernel
theorem dX7_cast_111 : decode cX7_cast 111 = .ok (.bipush 32, 2) := by decide +kernel
theorem dX7_cast_113 : decode cX7_cast 113 = .ok (.if_icmp .ge 90, 3) := by decide +kernel
theorem dX7_cast_116 : decode cX7_cast 116 = .ok (.iload_n 3, 1) := by decide +kernel
theorem dX7_cast_117 : decode cX7_cast 117 = .ok (.iload 8, 2) := by decide +kernel
theorem dX7_cast_119 : decode cX7_cast 119 = .ok (.ishr, 1) := by decide +kernel
theorem dX7_cast_120 : decode cX7_cast 120 = .ok (.iconst 1, 1) := by decide +kernel
theorem dX7_cast_121 : decode cX7_cast 121 = .ok (.iand, 1) := by decide +kernel
theorem dX7_cast_122 : decode cX7_cast 122 = .ok (.iconst 1, 1) := by decide +kernel
theorem dX7_cast_123 : decode cX7_cast 123 = .ok (.if_icmp .ne 74, 3) := by decide +kernel
theorem dX7_cast_126 : decode cX7_cast 126 = .ok (.iload_n 2, 1) := by decide +kernel
theorem dX7_cast_127 : decode cX7_cast 127 = .ok (.iload 8, 2) := by decide +kernel
theorem dX7_cast_129 : decode cX7_cast 129 = .ok (.iadd, 1) := by decide +kernel
theorem dX7_cast_130 : decode cX7_cast 130 = .ok (.istore 9, 2) := by decide +kernel
theorem dX7_cast_132 : decode cX7_cast 132 = .ok (.iload 6, 2) := by decide +kernel
theorem dX7_cast_134 : decode cX7_cast 134 = .ok (.ifCond .eq 34, 3) := by decide +kernel
theorem dX7_cast_137 : decode cX7_cast 137 = .ok (.aload_n 0, 1) := by decide +kernel
theorem dX7_cast_138 : decode cX7_cast 138 = .ok (.getfield 22, 3) := by decide +kernel
theorem dX7_cast_141 : decode cX7_cast 141 = .ok (.iload 9, 2) := by decide +kernel
theorem dX7_cast_143 : decode cX7_cast 143 = .ok (.iaload, 1) := by decide +kernel
theorem dX7_cast_144 : decode cX7_cast 144 = .ok (.ifCond .ne 24, 3) := by decide +kernel
theorem dX7_cast_147 : decode cX7_cast 147 = .ok (.iload 5, 2) := by decide +kernel
theorem dX7_cast_149 : decode cX7_cast 149 = .ok (.ifCond .lt 15, 3) := by decide +kernel
theorem dX7_cast_152 : decode cX7_cast 152 = .ok (.aload_n 0, 1) := by decide +kernel
theorem dX7_cast_153 : decode cX7_cast 153 = .ok (.getfield 13, 3) := by decide +kernel
theorem dX7_cast_156 : decode cX7_cast 156 = .ok (.iload 9, 2) := by decide +kernel
theorem dX7_cast_158 : decode cX7_cast 158 = .ok (.iaload, 1) := by decide +kernel
theorem dX7_cast_159 : decode cX7_cast 159 = .ok (.iload 5, 2) := by decide +kernel
theorem dX7_cast_161 : decode cX7_cast 161 = .ok (.if_icmp .ne 7, 3) := by decide +kernel
theorem dX7_cast_164 : decode cX7_cast 164 = .ok (.iconst 1, 1) := by decide +kernel
theorem dX7_cast_165 : decode cX7_cast 165 = .ok (.goto 4, 3) := by decide +kernel
theorem dX7_cast_168 : decode cX7_cast 168 = .ok (.iconst 0, 1) := by decide +kernel
theorem dX7_cast_169 : decode cX7_cast 169 = .ok (.istore 6, 2) := by decide +kernel
theorem dX7_cast_171 : decode cX7_cast 171 = .ok (.aload_n 0, 1) := by decide +kernel
theorem dX7_cast_172 : decode cX7_cast 172 = .ok (.getfield 13, 3) := by decide +kernel
theorem dX7_cast_175 : decode cX7_cast 175 = .ok (.iload 9, 2) := by decide +kernel
theorem dX7_cast_177 : decode cX7_cast 177 = .ok (.iaload, 1) := by decide +kernel
theorem dX7_cast_178 : decode cX7_cast 178 = .ok (.istore 5, 2) := by decide +kernel
theorem dX7_cast_180 : decode cX7_cast 180 = .ok (.iload 4, 2) := by decide +kernel
theorem dX7_cast_182 : decode cX7_cast 182 = .ok (.aload_n 0, 1) := by decide +kernel
theorem dX7_cast_183 : decode cX7_cast 183 = .ok (.getfield 7, 3) := by decide +kernel
theorem dX7_cast_186 : decode cX7_cast 186 = .ok (.iload 9, 2) := by decide +kernel
theorem dX7_cast_188 : decode cX7_cast 188 = .ok (.iaload, 1) := by decide +kernel
theorem dX7_cast_189 : decode cX7_cast 189 = .ok (.iconst 4, 1) := by decide +kernel
theorem dX7_cast_190 : decode cX7_cast 190 = .ok (.iadd, 1) := by decide +kernel
theorem dX7_cast_191 : decode cX7_cast 191 = .ok (.iadd, 1) := by decide +kernel
theorem dX7_cast_192 : decode cX7_cast 192 = .ok (.istore 4, 2) := by decide +kernel
theorem dX7_cast_194 : decode cX7_cast 194 = .ok (.iinc 7 1, 3) := by decide +kernel
theorem dX7_cast_197 : decode cX7_cast 197 = .ok (.iinc 8 1, 3) := by decide +kernel
theorem dX7_cast_200 : decode cX7_cast 200 = .ok (.goto (-91), 3) := by decide +kernel
theorem dX7_cast_203 : decode cX7_cast 203 = .ok (.iload 6, 2) := by decide +kernel
theorem dX7_cast_205 : decode cX7_cast 205 = .ok (.ifCond .eq 11, 3) := by decide +kernel
theorem dX7_cast_208 : decode cX7_cast 208 = .ok (.iload 4, 2) := by decide +kernel
theorem dX7_cast_210 : decode cX7_cast 210 = .ok (.sipush 300, 3) := by decide +kernel
theorem dX7_cast_213 : decode cX7_cast 213 = .ok (.if_icmp .le 6, 3) := by decide +kernel
theorem dX7_cast_216 : decode cX7_cast 216 = .ok (.bipush (-2), 2) := by decide +kernel
theorem dX7_cast_218 : decode cX7_cast 218 = .ok (.ireturn, 1) := by decide +kernel
theorem dX7_cast_219 : decode cX7_cast 219 = .ok (.iconst 0, 1) := by decide +kernel
theorem dX7_cast_220 : decode cX7_cast 220 = .ok (.istore 7, 2) := by decide +kernel
theorem dX7_cast_222 : decode cX7_cast 222 = .ok (.iconst 0, 1) := by decide +kernel
theorem dX7_cast_223 : decode cX7_cast 223 = .ok (.istore 8, 2) := by decide +kernel
theorem dX7_cast_225 : decode cX7_cast 225 = .ok (.iload 8, 2) := by decide +kernel
theorem dX7_cast_227 : decode cX7_cast 227 = .ok (.bipush 32, 2) := by decide +kernel
theorem dX7_cast_229 : decode cX7_cast 229 = .ok (.if_icmp .ge 58, 3) := by decide +kernel
theorem dX7_cast_232 : decode cX7_cast 232 = .ok (.iload_n 3, 1) := by decide +kernel
theorem dX7_cast_233 : decode cX7_cast 233 = .ok (.iload 8, 2) := by decide +kernel
theorem dX7_cast_235 : decode cX7_cast 235 = .ok (.ishr, 1) := by decide +kernel
theorem dX7_cast_236 : decode cX7_cast 236 = .ok (.iconst 1, 1) := by decide +kernel
theorem dX7_cast_237 : decode cX7_cast 237 = .ok (.iand, 1) := by decide +kernel
theorem dX7_cast_238 : decode cX7_cast 238 = .ok (.iconst 1, 1) := by decide +kernel
theorem dX7_cast_239 : decode cX7_cast 239 = .ok (.if_icmp .ne 42, 3) := by decide +kernel
theorem dX7_cast_242 : decode cX7_cast 242 = .ok (.aload_n 0, 1) := by decide +kernel
theorem dX7_cast_243 : decode cX7_cast 243 = .ok (.getfield 22, 3) := by decide +kernel
theorem dX7_cast_246 : decode cX7_cast 246 = .ok (.iload_n 2, 1) := by decide +kernel
theorem dX7_cast_247 : decode cX7_cast 247 = .ok (.iload 8, 2) := by decide +kernel
theorem dX7_cast_249 : decode cX7_cast 249 = .ok (.iadd, 1) := by decide +kernel
theorem dX7_cast_250 : decode cX7_cast 250 = .ok (.iconst 1, 1) := by decide +kernel
theorem dX7_cast_251 : decode cX7_cast 251 = .ok (.iastore, 1) := by decide +kernel
theorem dX7_cast_252 : decode cX7_cast 252 = .ok (.aload_n 0, 1) := by decide +kernel
theorem dX7_cast_253 : decode cX7_cast 253 = .ok (.getfield 25, 3) := by decide +kernel
theorem dX7_cast_256 : decode cX7_cast 256 = .ok (.iload_n 2, 1) := by decide +kernel
theorem dX7_cast_257 : decode cX7_cast 257 = .ok (.iload 8, 2) := by decide +kernel
theorem dX7_cast_259 : decode cX7_cast 259 = .ok (.iadd, 1) := by decide +kernel
theorem dX7_cast_260 : decode cX7_cast 260 = .ok (.iload_n 1, 1) := by decide +kernel
theorem dX7_cast_261 : decode cX7_cast 261 = .ok (.iastore, 1) := by decide +kernel
theorem dX7_cast_262 : decode cX7_cast 262 = .ok (.aload_n 0, 1) := by decide +kernel
theorem dX7_cast_263 : decode cX7_cast 263 = .ok (.getfield 38, 3) := by decide +kernel
theorem dX7_cast_266 : decode cX7_cast 266 = .ok (.bipush 40, 2) := by decide +kernel
theorem dX7_cast_268 : decode cX7_cast 268 = .ok (.iload_n 1, 1) := by decide +kernel
theorem dX7_cast_269 : decode cX7_cast 269 = .ok (.imul, 1) := by decide +kernel
theorem dX7_cast_270 : decode cX7_cast 270 = .ok (.iload 7, 2) := by decide +kernel
theorem dX7_cast_272 : decode cX7_cast 272 = .ok (.iadd, 1) := by decide +kernel
theorem dX7_cast_273 : decode cX7_cast 273 = .ok (.iload_n 2, 1) := by decide +kernel
theorem dX7_cast_274 : decode cX7_cast 274 = .ok (.iload 8, 2) := by decide +kernel
theorem dX7_cast_276 : decode cX7_cast 276 = .ok (.iadd, 1) := by decide +kernel
theorem dX7_cast_277 : decode cX7_cast 277 = .ok (.iastore, 1) := by decide +kernel
theorem dX7_cast_278 : decode cX7_cast 278 = .ok (.iinc 7 1, 3) := by decide +kernel
theorem dX7_cast_281 : decode cX7_cast 281 = .ok (.iinc 8 1, 3) := by decide +kernel
theorem dX7_cast_284 : decode cX7_cast 284 = .ok (.goto (-59), 3) := by decide +kernel
theorem dX7_cast_287 : decode cX7_cast 287 = .ok (.aload_n 0, 1) := by decide +kernel
theorem dX7_cast_288 : decode cX7_cast 288 = .ok (.getfield 35, 3) := by decide +kernel
theorem dX7_cast_291 : decode cX7_cast 291 = .ok (.iload_n 1, 1) := by decide +kernel
theorem dX7_cast_292 : decode cX7_cast 292 = .ok (.iload 7, 2) := by decide +kernel
theorem dX7_cast_294 : decode cX7_cast 294 = .ok (.iastore, 1) := by decide +kernel
theorem dX7_cast_295 : decode cX7_cast 295 = .ok (.aload_n 0, 1) := by decide +kernel
theorem dX7_cast_296 : decode cX7_cast 296 = .ok (.getfield 41, 3) := by decide +kernel
theorem dX7_cast_299 : decode cX7_cast 299 = .ok (.iload_n 1, 1) := by decide +kernel
theorem dX7_cast_300 : decode cX7_cast 300 = .ok (.iconst 0, 1) := by decide +kernel
theorem dX7_cast_301 : decode cX7_cast 301 = .ok (.iastore, 1) := by decide +kernel
theorem dX7_cast_302 : decode cX7_cast 302 = .ok (.aload_n 0, 1) := by decide +kernel
theorem dX7_cast_303 : decode cX7_cast 303 = .ok (.getfield 44, 3) := by decide +kernel
theorem dX7_cast_306 : decode cX7_cast 306 = .ok (.iload_n 1, 1) := by decide +kernel
theorem dX7_cast_307 : decode cX7_cast 307 = .ok (.aload_n 0, 1) := by decide +kernel
theorem dX7_cast_308 : decode cX7_cast 308 = .ok (.getfield 135, 3) := by decide +kernel
theorem dX7_cast_311 : decode cX7_cast 311 = .ok (.iastore, 1) := by decide +kernel
theorem dX7_cast_312 : decode cX7_cast 312 = .ok (.aload_n 0, 1) := by decide +kernel
theorem dX7_cast_313 : decode cX7_cast 313 = .ok (.dup, 1) := by decide +kernel
theorem dX7_cast_314 : decode cX7_cast 314 = .ok (.getfield 138, 3) := by decide +kernel
theorem dX7_cast_317 : decode cX7_cast 317 = .ok (.iconst 1, 1) := by decide +kernel
theorem dX7_cast_318 : decode cX7_cast 318 = .ok (.iadd, 1) := by decide +kernel
theorem dX7_cast_319 : decode cX7_cast 319 = .ok (.putfield 138, 3) := by decide +kernel
theorem dX7_cast_322 : decode cX7_cast 322 = .ok (.iload 7, 2) := by decide +kernel
theorem dX7_cast_324 : decode cX7_cast 324 = .ok (.ireturn, 1) := by decide +kernel
theorem dX7_warmth_0 : decode cX7_warmth 0 = .ok (.iload_n 1, 1) := by decide +kernel
theorem dX7_warmth_1 : decode cX7_warmth 1 = .ok (.i2l, 1) := by decide +kernel
theorem dX7_warmth_2 : decode cX7_warmth 2 = .ok (.ldc2_w 141, 3) := by decide +kernel
theorem dX7_warmth_5 : decode cX7_warmth 5 = .ok (.ldc2_w 143, 3) := by decide +kernel
theorem dX7_warmth_8 : decode cX7_warmth 8 = .ok (.invokestatic 96, 3) := by decide +kernel
theorem dX7_warmth_11 : decode cX7_warmth 11 = .ok (.ifCond .ne 6, 3) := by decide +kernel
theorem dX7_warmth_14 : decode cX7_warmth 14 = .ok (.bipush (-100), 2) := by decide +kernel
theorem dX7_warmth_16 : decode cX7_warmth 16 = .ok (.ireturn, 1) := by decide +kernel
theorem dX7_warmth_17 : decode cX7_warmth 17 = .ok (.aload_n 0, 1) := by decide +kernel
theorem dX7_warmth_18 : decode cX7_warmth 18 = .ok (.getfield 47, 3) := by decide +kernel
theorem dX7_warmth_21 : decode cX7_warmth 21 = .ok (.istore_n 2, 1) := by decide +kernel
theorem dX7_warmth_22 : decode cX7_warmth 22 = .ok (.aload_n 0, 1) := by decide +kernel
theorem dX7_warmth_23 : decode cX7_warmth 23 = .ok (.iload_n 1, 1) := by decide +kernel
theorem dX7_warmth_24 : decode cX7_warmth 24 = .ok (.putfield 47, 3) := by decide +kernel
theorem dX7_warmth_27 : decode cX7_warmth 27 = .ok (.iload_n 2, 1) := by decide +kernel
theorem dX7_warmth_28 : decode cX7_warmth 28 = .ok (.ireturn, 1) := by decide +kernel
theorem dX7_hours_0 : decode cX7_hours 0 = .ok (.iload_n 1, 1) := by decide +kernel
theorem dX7_hours_1 : decode cX7_hours 1 = .ok (.i2l, 1) := by decide +kernel
theorem dX7_hours_2 : decode cX7_hours 2 = .ok (.lconst 1, 1) := by decide +kernel
theorem dX7_hours_3 : decode cX7_hours 3 = .ok (.ldc2_w 100, 3) := by decide +kernel
theorem dX7_hours_6 : decode cX7_hours 6 = .ok (.invokestatic 96, 3) := by decide +kernel
theorem dX7_hours_9 : decode cX7_hours 9 = .ok (.ifCond .ne 5, 3) := by decide +kernel
theorem dX7_hours_12 : decode cX7_hours 12 = .ok (.iconst (-1), 1) := by decide +kernel
theorem dX7_hours_13 : decode cX7_hours 13 = .ok (.ireturn, 1) := by decide +kernel
theorem dX7_hours_14 : decode cX7_hours 14 = .ok (.aload_n 0, 1) := by decide +kernel
theorem dX7_hours_15 : decode cX7_hours 15 = .ok (.getfield 135, 3) := by decide +kernel
theorem dX7_hours_18 : decode cX7_hours 18 = .ok (.iload_n 1, 1) := by decide +kernel
theorem dX7_hours_19 : decode cX7_hours 19 = .ok (.iadd, 1) := by decide +kernel
theorem dX7_hours_20 : decode cX7_hours 20 = .ok (.ldc 145, 2) := by decide +kernel
theorem dX7_hours_22 : decode cX7_hours 22 = .ok (.if_icmp .le 6, 3) := by decide +kernel
theorem dX7_hours_25 : decode cX7_hours 25 = .ok (.bipush (-3), 2) := by decide +kernel
theorem dX7_hours_27 : decode cX7_hours 27 = .ok (.ireturn, 1) := by decide +kernel
theorem dX7_hours_28 : decode cX7_hours 28 = .ok (.iconst 0, 1) := by decide +kernel
theorem dX7_hours_29 : decode cX7_hours 29 = .ok (.istore_n 2, 1) := by decide +kernel
theorem dX7_hours_30 : decode cX7_hours 30 = .ok (.iload_n 2, 1) := by decide +kernel
theorem dX7_hours_31 : decode cX7_hours 31 = .ok (.iconst 3, 1) := by decide +kernel
theorem dX7_hours_32 : decode cX7_hours 32 = .ok (.if_icmp .ge 50, 3) := by decide +kernel
theorem dX7_hours_35 : decode cX7_hours 35 = .ok (.aload_n 0, 1) := by decide +kernel
theorem dX7_hours_36 : decode cX7_hours 36 = .ok (.getfield 41, 3) := by decide +kernel
theorem dX7_hours_39 : decode cX7_hours 39 = .ok (.iload_n 2, 1) := by decide +kernel
theorem dX7_hours_40 : decode cX7_hours 40 = .ok (.dup2, 1) := by decide +kernel
theorem dX7_hours_41 : decode cX7_hours 41 = .ok (.iaload, 1) := by decide +kernel
theorem dX7_hours_42 : decode cX7_hours 42 = .ok (.aload_n 0, 1) := by decide +kernel
theorem dX7_hours_43 : decode cX7_hours 43 = .ok (.getfield 35, 3) := by decide +kernel
theorem dX7_hours_46 : decode cX7_hours 46 = .ok (.iload_n 2, 1) := by decide +kernel
theorem dX7_hours_47 : decode cX7_hours 47 = .ok (.iaload, 1) := by decide +kernel
theorem dX7_hours_48 : decode cX7_hours 48 = .ok (.ifCond .le 25, 3) := by decide +kernel
theorem dX7_hours_51 : decode cX7_hours 51 = .ok (.aload_n 0, 1) := by decide +kernel
theorem dX7_hours_52 : decode cX7_hours 52 = .ok (.getfield 47, 3) := by decide +kernel
theorem dX7_hours_55 : decode cX7_hours 55 = .ok (.bipush 10, 2) := by decide +kernel
theorem dX7_hours_57 : decode cX7_hours 57 = .ok (.iadd, 1) := by decide +kernel
theorem dX7_hours_58 : decode cX7_hours 58 = .ok (.ifCond .le 15, 3) := by decide +kernel
theorem dX7_hours_61 : decode cX7_hours 61 = .ok (.iload_n 1, 1) := by decide +kernel
theorem dX7_hours_62 : decode cX7_hours 62 = .ok (.aload_n 0, 1) := by decide +kernel
theorem dX7_hours_63 : decode cX7_hours 63 = .ok (.getfield 47, 3) := by decide +kernel
theorem dX7_hours_66 : decode cX7_hours 66 = .ok (.bipush 10, 2) := by decide +kernel
theorem dX7_hours_68 : decode cX7_hours 68 = .ok (.iadd, 1) := by decide +kernel
theorem dX7_hours_69 : decode cX7_hours 69 = .ok (.imul, 1) := by decide +kernel
theorem dX7_hours_70 : decode cX7_hours 70 = .ok (.goto 4, 3) := by decide +kernel
theorem dX7_hours_73 : decode cX7_hours 73 = .ok (.iconst 0, 1) := by decide +kernel
theorem dX7_hours_74 : decode cX7_hours 74 = .ok (.iadd, 1) := by decide +kernel
theorem dX7_hours_75 : decode cX7_hours 75 = .ok (.iastore, 1) := by decide +kernel
theorem dX7_hours_76 : decode cX7_hours 76 = .ok (.iinc 2 1, 3) := by decide +kernel
theorem dX7_hours_79 : decode cX7_hours 79 = .ok (.goto (-49), 3) := by decide +kernel
theorem dX7_hours_82 : decode cX7_hours 82 = .ok (.aload_n 0, 1) := by decide +kernel
theorem dX7_hours_83 : decode cX7_hours 83 = .ok (.dup, 1) := by decide +kernel
theorem dX7_hours_84 : decode cX7_hours 84 = .ok (.getfield 135, 3) := by decide +kernel
theorem dX7_hours_87 : decode cX7_hours 87 = .ok (.iload_n 1, 1) := by decide +kernel
theorem dX7_hours_88 : decode cX7_hours 88 = .ok (.iadd, 1) := by decide +kernel
theorem dX7_hours_89 : decode cX7_hours 89 = .ok (.putfield 135, 3) := by decide +kernel
theorem dX7_hours_92 : decode cX7_hours 92 = .ok (.aload_n 0, 1) := by decide +kernel
theorem dX7_hours_93 : decode cX7_hours 93 = .ok (.getfield 135, 3) := by decide +kernel
theorem dX7_hours_96 : decode cX7_hours 96 = .ok (.ireturn, 1) := by decide +kernel
theorem dX7_letGo_0 : decode cX7_letGo 0 = .ok (.iload_n 1, 1) := by decide +kernel
theorem dX7_letGo_1 : decode cX7_letGo 1 = .ok (.i2l, 1) := by decide +kernel
theorem dX7_letGo_2 : decode cX7_letGo 2 = .ok (.lconst 0, 1) := by decide +kernel
theorem dX7_letGo_3 : decode cX7_letGo 3 = .ok (.ldc2_w 133, 3) := by decide +kernel
theorem dX7_letGo_6 : decode cX7_letGo 6 = .ok (.invokestatic 96, 3) := by decide +kernel
theorem dX7_letGo_9 : decode cX7_letGo 9 = .ok (.ifCond .ne 5, 3) := by decide +kernel
theorem dX7_letGo_12 : decode cX7_letGo 12 = .ok (.iconst (-1), 1) := by decide +kernel
theorem dX7_letGo_13 : decode cX7_letGo 13 = .ok (.ireturn, 1) := by decide +kernel
theorem dX7_letGo_14 : decode cX7_letGo 14 = .ok (.aload_n 0, 1) := by decide +kernel
theorem dX7_letGo_15 : decode cX7_letGo 15 = .ok (.getfield 35, 3) := by decide +kernel
theorem dX7_letGo_18 : decode cX7_letGo 18 = .ok (.iload_n 1, 1) := by decide +kernel
theorem dX7_letGo_19 : decode cX7_letGo 19 = .ok (.iaload, 1) := by decide +kernel
theorem dX7_letGo_20 : decode cX7_letGo 20 = .ok (.ifCond .eq 31, 3) := by decide +kernel
theorem dX7_letGo_23 : decode cX7_letGo 23 = .ok (.aload_n 0, 1) := by decide +kernel
theorem dX7_letGo_24 : decode cX7_letGo 24 = .ok (.getfield 41, 3) := by decide +kernel
theorem dX7_letGo_27 : decode cX7_letGo 27 = .ok (.iload_n 1, 1) := by decide +kernel
theorem dX7_letGo_28 : decode cX7_letGo 28 = .ok (.iaload, 1) := by decide +kernel
theorem dX7_letGo_29 : decode cX7_letGo 29 = .ok (.sipush 500, 3) := by decide +kernel
theorem dX7_letGo_32 : decode cX7_letGo 32 = .ok (.if_icmp .lt 19, 3) := by decide +kernel
theorem dX7_letGo_35 : decode cX7_letGo 35 = .ok (.aload_n 0, 1) := by decide +kernel
theorem dX7_letGo_36 : decode cX7_letGo 36 = .ok (.getfield 135, 3) := by decide +kernel
theorem dX7_letGo_39 : decode cX7_letGo 39 = .ok (.aload_n 0, 1) := by decide +kernel
theorem dX7_letGo_40 : decode cX7_letGo 40 = .ok (.getfield 44, 3) := by decide +kernel
theorem dX7_letGo_43 : decode cX7_letGo 43 = .ok (.iload_n 1, 1) := by decide +kernel
theorem dX7_letGo_44 : decode cX7_letGo 44 = .ok (.iaload, 1) := by decide +kernel
theorem dX7_letGo_45 : decode cX7_letGo 45 = .ok (.isub, 1) := by decide +kernel
theorem dX7_letGo_46 : decode cX7_letGo 46 = .ok (.bipush 12, 2) := by decide +kernel
theorem dX7_letGo_48 : decode cX7_letGo 48 = .ok (.if_icmp .ge 6, 3) := by decide +kernel
theorem dX7_letGo_51 : decode cX7_letGo 51 = .ok (.bipush (-2), 2) := by decide +kernel
theorem dX7_letGo_53 : decode cX7_letGo 53 = .ok (.ireturn, 1) := by decide +kernel
theorem dX7_letGo_54 : decode cX7_letGo 54 = .ok (.iconst 0, 1) := by decide +kernel
theorem dX7_letGo_55 : decode cX7_letGo 55 = .ok (.istore_n 2, 1) := by decide +kernel
theorem dX7_letGo_56 : decode cX7_letGo 56 = .ok (.iconst 0, 1) := by decide +kernel
theorem dX7_letGo_57 : decode cX7_letGo 57 = .ok (.istore_n 3, 1) := by decide +kernel
theorem dX7_letGo_58 : decode cX7_letGo 58 = .ok (.iload_n 3, 1) := by decide +kernel
theorem dX7_letGo_59 : decode cX7_letGo 59 = .ok (.aload_n 0, 1) := by decide +kernel
theorem dX7_letGo_60 : decode cX7_letGo 60 = .ok (.getfield 35, 3) := by decide +kernel
theorem dX7_letGo_63 : decode cX7_letGo 63 = .ok (.iload_n 1, 1) := by decide +kernel
theorem dX7_letGo_64 : decode cX7_letGo 64 = .ok (.iaload, 1) := by decide +kernel
theorem dX7_letGo_65 : decode cX7_letGo 65 = .ok (.if_icmp .ge 122, 3) := by decide +kernel
theorem dX7_letGo_68 : decode cX7_letGo 68 = .ok (.aload_n 0, 1) := by decide +kernel
theorem dX7_letGo_69 : decode cX7_letGo 69 = .ok (.getfield 38, 3) := by decide +kernel
theorem dX7_letGo_72 : decode cX7_letGo 72 = .ok (.bipush 40, 2) := by decide +kernel
theorem dX7_letGo_74 : decode cX7_letGo 74 = .ok (.iload_n 1, 1) := by decide +kernel
theorem dX7_letGo_75 : decode cX7_letGo 75 = .ok (.imul, 1) := by decide +kernel
theorem dX7_letGo_76 : decode cX7_letGo 76 = .ok (.iload_n 3, 1) := by decide +kernel
theorem dX7_letGo_77 : decode cX7_letGo 77 = .ok (.iadd, 1) := by decide +kernel
theorem dX7_letGo_78 : decode cX7_letGo 78 = .ok (.iaload, 1) := by decide +kernel
theorem dX7_letGo_79 : decode cX7_letGo 79 = .ok (.istore 4, 2) := by decide +kernel
theorem dX7_letGo_81 : decode cX7_letGo 81 = .ok (.aload_n 0, 1) := by decide +kernel
theorem dX7_letGo_82 : decode cX7_letGo 82 = .ok (.getfield 28, 3) := by decide +kernel
theorem dX7_letGo_85 : decode cX7_letGo 85 = .ok (.iload 4, 2) := by decide +kernel
theorem dX7_letGo_87 : decode cX7_letGo 87 = .ok (.aload_n 0, 1) := by decide +kernel
theorem dX7_letGo_88 : decode cX7_letGo 88 = .ok (.getfield 7, 3) := by decide +kernel
theorem dX7_letGo_91 : decode cX7_letGo 91 = .ok (.iload 4, 2) := by decide +kernel
theorem dX7_letGo_93 : decode cX7_letGo 93 = .ok (.iaload, 1) := by decide +kernel
theorem dX7_letGo_94 : decode cX7_letGo 94 = .ok (.aload_n 0, 1) := by decide +kernel
theorem dX7_letGo_95 : decode cX7_letGo 95 = .ok (.getfield 7, 3) := by decide +kernel
theorem dX7_letGo_98 : decode cX7_letGo 98 = .ok (.iload 4, 2) := by decide +kernel
theorem dX7_letGo_100 : decode cX7_letGo 100 = .ok (.iaload, 1) := by decide +kernel
theorem dX7_letGo_101 : decode cX7_letGo 101 = .ok (.imul, 1) := by decide +kernel
theorem dX7_letGo_102 : decode cX7_letGo 102 = .ok (.aload_n 0, 1) := by decide +kernel
theorem dX7_letGo_103 : decode cX7_letGo 103 = .ok (.getfield 13, 3) := by decide +kernel
theorem dX7_letGo_106 : decode cX7_letGo 106 = .ok (.iload 4, 2) := by decide +kernel
theorem dX7_letGo_108 : decode cX7_letGo 108 = .ok (.iaload, 1) := by decide +kernel
theorem dX7_letGo_109 : decode cX7_letGo 109 = .ok (.iconst 1, 1) := by decide +kernel
theorem dX7_letGo_110 : decode cX7_letGo 110 = .ok (.iadd, 1) := by decide +kernel
theorem dX7_letGo_111 : decode cX7_letGo 111 = .ok (.imul, 1) := by decide +kernel
theorem dX7_letGo_112 : decode cX7_letGo 112 = .ok (.aload_n 0, 1) := by decide +kernel
theorem dX7_letGo_113 : decode cX7_letGo 113 = .ok (.getfield 41, 3) := by decide +kernel
theorem dX7_letGo_116 : decode cX7_letGo 116 = .ok (.iload_n 1, 1) := by decide +kernel
theorem dX7_letGo_117 : decode cX7_letGo 117 = .ok (.iaload, 1) := by decide +kernel
theorem dX7_letGo_118 : decode cX7_letGo 118 = .ok (.sipush 1000, 3) := by decide +kernel
theorem dX7_letGo_121 : decode cX7_letGo 121 = .ok (.iadd, 1) := by decide +kernel
theorem dX7_letGo_122 : decode cX7_letGo 122 = .ok (.idiv, 1) := by decide +kernel
theorem dX7_letGo_123 : decode cX7_letGo 123 = .ok (.iastore, 1) := by decide +kernel
theorem dX7_letGo_124 : decode cX7_letGo 124 = .ok (.aload_n 0, 1) := by decide +kernel
theorem dX7_letGo_125 : decode cX7_letGo 125 = .ok (.getfield 25, 3) := by decide +kernel
theorem dX7_letGo_128 : decode cX7_letGo 128 = .ok (.iload 4, 2) := by decide +kernel
theorem dX7_letGo_130 : decode cX7_letGo 130 = .ok (.bipush (-4), 2) := by decide +kernel
theorem dX7_letGo_132 : decode cX7_letGo 132 = .ok (.iastore, 1) := by decide +kernel
theorem dX7_letGo_133 : decode cX7_letGo 133 = .ok (.aload_n 0, 1) := by decide +kernel
theorem dX7_letGo_134 : decode cX7_letGo 134 = .ok (.getfield 22, 3) := by decide +kernel
theorem dX7_letGo_137 : decode cX7_letGo 137 = .ok (.iload 4, 2) := by decide +kernel
theorem dX7_letGo_139 : decode cX7_letGo 139 = .ok (.aload_n 0, 1) := by decide +kernel
theorem dX7_letGo_140 : decode cX7_letGo 140 = .ok (.getfield 31, 3) := by decide +kernel
theorem dX7_letGo_143 : decode cX7_letGo 143 = .ok (.iload 4, 2) := by decide +kernel
theorem dX7_letGo_145 : decode cX7_letGo 145 = .ok (.baload, 1) := by decide +kernel
theorem dX7_letGo_146 : decode cX7_letGo 146 = .ok (.ifCond .eq 7, 3) := by decide +kernel
theorem dX7_letGo_149 : decode cX7_letGo 149 = .ok (.iconst 5, 1) := by decide +kernel
theorem dX7_letGo_150 : decode cX7_letGo 150 = .ok (.goto 4, 3) := by decide +kernel
theorem dX7_letGo_153 : decode cX7_letGo 153 = .ok (.iconst 2, 1) := by decide +kernel
theorem dX7_letGo_154 : decode cX7_letGo 154 = .ok (.iastore, 1) := by decide +kernel
theorem dX7_letGo_155 : decode cX7_letGo 155 = .ok (.iload_n 2, 1) := by decide +kernel
theorem dX7_letGo_156 : decode cX7_letGo 156 = .ok (.aload_n 0, 1) := by decide +kernel
theorem dX7_letGo_157 : decode cX7_letGo 157 = .ok (.getfield 31, 3) := by decide +kernel
theorem dX7_letGo_160 : decode cX7_letGo 160 = .ok (.iload 4, 2) := by decide +kernel
theorem dX7_letGo_162 : decode cX7_letGo 162 = .ok (.baload, 1) := by decide +kernel
theorem dX7_letGo_163 : decode cX7_letGo 163 = .ok (.ifCond .eq 7, 3) := by decide +kernel
theorem dX7_letGo_166 : decode cX7_letGo 166 = .ok (.iconst 0, 1) := by decide +kernel
theorem dX7_letGo_167 : decode cX7_letGo 167 = .ok (.goto 4, 3) := by decide +kernel
theorem dX7_letGo_170 : decode cX7_letGo 170 = .ok (.iconst 1, 1) := by decide +kernel
theorem dX7_letGo_171 : decode cX7_letGo 171 = .ok (.iadd, 1) := by decide +kernel
theorem dX7_letGo_172 : decode cX7_letGo 172 = .ok (.istore_n 2, 1) := by decide +kernel
theorem dX7_letGo_173 : decode cX7_letGo 173 = .ok (.aload_n 0, 1) := by decide +kernel
theorem dX7_letGo_174 : decode cX7_letGo 174 = .ok (.getfield 31, 3) := by decide +kernel
theorem dX7_letGo_177 : decode cX7_letGo 177 = .ok (.iload 4, 2) := by decide +kernel
theorem dX7_letGo_179 : decode cX7_letGo 179 = .ok (.iconst 0, 1) := by decide +kernel
theorem dX7_letGo_180 : decode cX7_letGo 180 = .ok (.bastore, 1) := by decide +kernel
theorem dX7_letGo_181 : decode cX7_letGo 181 = .ok (.iinc 3 1, 3) := by decide +kernel
theorem dX7_letGo_184 : decode cX7_letGo 184 = .ok (.goto (-126), 3) := by decide +kernel
theorem dX7_letGo_187 : decode cX7_letGo 187 = .ok (.aload_n 0, 1) := by decide +kernel
theorem dX7_letGo_188 : decode cX7_letGo 188 = .ok (.getfield 35, 3) := by decide +kernel
theorem dX7_letGo_191 : decode cX7_letGo 191 = .ok (.iload_n 1, 1) := by decide +kernel
theorem dX7_letGo_192 : decode cX7_letGo 192 = .ok (.iconst 0, 1) := by decide +kernel
theorem dX7_letGo_193 : decode cX7_letGo 193 = .ok (.iastore, 1) := by decide +kernel
theorem dX7_letGo_194 : decode cX7_letGo 194 = .ok (.aload_n 0, 1) := by decide +kernel
theorem dX7_letGo_195 : decode cX7_letGo 195 = .ok (.getfield 41, 3) := by decide +kernel
theorem dX7_letGo_198 : decode cX7_letGo 198 = .ok (.iload_n 1, 1) := by decide +kernel
theorem dX7_letGo_199 : decode cX7_letGo 199 = .ok (.iconst 0, 1) := by decide +kernel
theorem dX7_letGo_200 : decode cX7_letGo 200 = .ok (.iastore, 1) := by decide +kernel
theorem dX7_letGo_201 : decode cX7_letGo 201 = .ok (.iload_n 2, 1) := by decide +kernel
theorem dX7_letGo_202 : decode cX7_letGo 202 = .ok (.ireturn, 1) := by decide +kernel
theorem dX7_isStack_0 : decode cX7_isStack 0 = .ok (.iload_n 0, 1) := by decide +kernel
theorem dX7_isStack_1 : decode cX7_isStack 1 = .ok (.i2l, 1) := by decide +kernel
theorem dX7_isStack_2 : decode cX7_isStack 2 = .ok (.lconst 0, 1) := by decide +kernel
theorem dX7_isStack_3 : decode cX7_isStack 3 = .ok (.ldc2_w 146, 3) := by decide +kernel
theorem dX7_isStack_6 : decode cX7_isStack 6 = .ok (.invokestatic 96, 3) := by decide +kernel
theorem dX7_isStack_9 : decode cX7_isStack 9 = .ok (.ireturn, 1) := by decide +kernel
theorem dX7_clears_0 : decode cX7_clears 0 = .ok (.aload_n 0, 1) := by decide +kernel
theorem dX7_clears_1 : decode cX7_clears 1 = .ok (.getfield 51, 3) := by decide +kernel
theorem dX7_clears_4 : decode cX7_clears 4 = .ok (.iload_n 1, 1) := by decide +kernel
theorem dX7_clears_5 : decode cX7_clears 5 = .ok (.iaload, 1) := by decide +kernel
theorem dX7_clears_6 : decode cX7_clears 6 = .ok (.ifCond .le 81, 3) := by decide +kernel
theorem dX7_clears_9 : decode cX7_clears 9 = .ok (.aload_n 0, 1) := by decide +kernel
theorem dX7_clears_10 : decode cX7_clears 10 = .ok (.getfield 31, 3) := by decide +kernel
theorem dX7_clears_13 : decode cX7_clears 13 = .ok (.aload_n 0, 1) := by decide +kernel
theorem dX7_clears_14 : decode cX7_clears 14 = .ok (.getfield 54, 3) := by decide +kernel
theorem dX7_clears_17 : decode cX7_clears 17 = .ok (.iconst 4, 1) := by decide +kernel
theorem dX7_clears_18 : decode cX7_clears 18 = .ok (.iload_n 1, 1) := by decide +kernel
theorem dX7_clears_19 : decode cX7_clears 19 = .ok (.imul, 1) := by decide +kernel
theorem dX7_clears_20 : decode cX7_clears 20 = .ok (.aload_n 0, 1) := by decide +kernel
theorem dX7_clears_21 : decode cX7_clears 21 = .ok (.getfield 51, 3) := by decide +kernel
theorem dX7_clears_24 : decode cX7_clears 24 = .ok (.iload_n 1, 1) := by decide +kernel
theorem dX7_clears_25 : decode cX7_clears 25 = .ok (.iaload, 1) := by decide +kernel
theorem dX7_clears_26 : decode cX7_clears 26 = .ok (.iadd, 1) := by decide +kernel
theorem dX7_clears_27 : decode cX7_clears 27 = .ok (.iconst 1, 1) := by decide +kernel
theorem dX7_clears_28 : decode cX7_clears 28 = .ok (.isub, 1) := by decide +kernel
theorem dX7_clears_29 : decode cX7_clears 29 = .ok (.iaload, 1) := by decide +kernel
theorem dX7_clears_30 : decode cX7_clears 30 = .ok (.baload, 1) := by decide +kernel
theorem dX7_clears_31 : decode cX7_clears 31 = .ok (.ifCond .eq 56, 3) := by decide +kernel
theorem dX7_clears_34 : decode cX7_clears 34 = .ok (.aload_n 0, 1) := by decide +kernel
theorem dX7_clears_35 : decode cX7_clears 35 = .ok (.getfield 54, 3) := by decide +kernel
theorem dX7_clears_38 : decode cX7_clears 38 = .ok (.iconst 4, 1) := by decide +kernel
theorem dX7_clears_39 : decode cX7_clears 39 = .ok (.iload_n 1, 1) := by decide +kernel
theorem dX7_clears_40 : decode cX7_clears 40 = .ok (.imul, 1) := by decide +kernel
theorem dX7_clears_41 : decode cX7_clears 41 = .ok (.aload_n 0, 1) := by decide +kernel
theorem dX7_clears_42 : decode cX7_clears 42 = .ok (.getfield 51, 3) := by decide +kernel
theorem dX7_clears_45 : decode cX7_clears 45 = .ok (.iload_n 1, 1) := by decide +kernel
theorem dX7_clears_46 : decode cX7_clears 46 = .ok (.iaload, 1) := by decide +kernel
theorem dX7_clears_47 : decode cX7_clears 47 = .ok (.iadd, 1) := by decide +kernel
theorem dX7_clears_48 : decode cX7_clears 48 = .ok (.iconst 1, 1) := by decide +kernel
theorem dX7_clears_49 : decode cX7_clears 49 = .ok (.isub, 1) := by decide +kernel
theorem dX7_clears_50 : decode cX7_clears 50 = .ok (.iaload, 1) := by decide +kernel
theorem dX7_clears_51 : decode cX7_clears 51 = .ok (.istore_n 2, 1) := by decide +kernel
theorem dX7_clears_52 : decode cX7_clears 52 = .ok (.aload_n 0, 1) := by decide +kernel
theorem dX7_clears_53 : decode cX7_clears 53 = .ok (.getfield 51, 3) := by decide +kernel
theorem dX7_clears_56 : decode cX7_clears 56 = .ok (.iload_n 1, 1) := by decide +kernel
theorem dX7_clears_57 : decode cX7_clears 57 = .ok (.dup2, 1) := by decide +kernel
theorem dX7_clears_58 : decode cX7_clears 58 = .ok (.iaload, 1) := by decide +kernel
theorem dX7_clears_59 : decode cX7_clears 59 = .ok (.iconst 1, 1) := by decide +kernel
theorem dX7_clears_60 : decode cX7_clears 60 = .ok (.isub, 1) := by decide +kernel
theorem dX7_clears_61 : decode cX7_clears 61 = .ok (.iastore, 1) := by decide +kernel
theorem dX7_clears_62 : decode cX7_clears 62 = .ok (.aload_n 0, 1) := by decide +kernel
theorem dX7_clears_63 : decode cX7_clears 63 = .ok (.getfield 31, 3) := by decide +kernel
theorem dX7_clears_66 : decode cX7_clears 66 = .ok (.iload_n 2, 1) := by decide +kernel
theorem dX7_clears_67 : decode cX7_clears 67 = .ok (.iconst 0, 1) := by decide +kernel
theorem dX7_clears_68 : decode cX7_clears 68 = .ok (.bastore, 1) := by decide +kernel
theorem dX7_clears_69 : decode cX7_clears 69 = .ok (.aload_n 0, 1) := by decide +kernel
theorem dX7_clears_70 : decode cX7_clears 70 = .ok (.getfield 22, 3) := by decide +kernel
theorem dX7_clears_73 : decode cX7_clears 73 = .ok (.iload_n 2, 1) := by decide +kernel
theorem dX7_clears_74 : decode cX7_clears 74 = .ok (.iconst 5, 1) := by decide +kernel
theorem dX7_clears_75 : decode cX7_clears 75 = .ok (.iastore, 1) := by decide +kernel
theorem dX7_clears_76 : decode cX7_clears 76 = .ok (.aload_n 0, 1) := by decide +kernel
theorem dX7_clears_77 : decode cX7_clears 77 = .ok (.getfield 25, 3) := by decide +kernel
theorem dX7_clears_80 : decode cX7_clears 80 = .ok (.iload_n 2, 1) := by decide +kernel
theorem dX7_clears_81 : decode cX7_clears 81 = .ok (.bipush (-4), 2) := by decide +kernel
theorem dX7_clears_83 : decode cX7_clears 83 = .ok (.iastore, 1) := by decide +kernel
theorem dX7_clears_84 : decode cX7_clears 84 = .ok (.goto (-84), 3) := by decide +kernel
theorem dX7_clears_87 : decode cX7_clears 87 = .ok (.return_, 1) := by decide +kernel
theorem dX7_lays_0 : decode cX7_lays 0 = .ok (.aload_n 0, 1) := by decide +kernel
theorem dX7_lays_1 : decode cX7_lays 1 = .ok (.getfield 54, 3) := by decide +kernel
theorem dX7_lays_4 : decode cX7_lays 4 = .ok (.iconst 4, 1) := by decide +kernel
theorem dX7_lays_5 : decode cX7_lays 5 = .ok (.iload_n 2, 1) := by decide +kernel
theorem dX7_lays_6 : decode cX7_lays 6 = .ok (.imul, 1) := by decide +kernel
theorem dX7_lays_7 : decode cX7_lays 7 = .ok (.aload_n 0, 1) := by decide +kernel
theorem dX7_lays_8 : decode cX7_lays 8 = .ok (.getfield 51, 3) := by decide +kernel
theorem dX7_lays_11 : decode cX7_lays 11 = .ok (.iload_n 2, 1) := by decide +kernel
theorem dX7_lays_12 : decode cX7_lays 12 = .ok (.iaload, 1) := by decide +kernel
theorem dX7_lays_13 : decode cX7_lays 13 = .ok (.iadd, 1) := by decide +kernel
theorem dX7_lays_14 : decode cX7_lays 14 = .ok (.iload_n 1, 1) := by decide +kernel
theorem dX7_lays_15 : decode cX7_lays 15 = .ok (.iastore, 1) := by decide +kernel
theorem dX7_lays_16 : decode cX7_lays 16 = .ok (.aload_n 0, 1) := by decide +kernel
theorem dX7_lays_17 : decode cX7_lays 17 = .ok (.getfield 51, 3) := by decide +kernel
theorem dX7_lays_20 : decode cX7_lays 20 = .ok (.iload_n 2, 1) := by decide +kernel
theorem dX7_lays_21 : decode cX7_lays 21 = .ok (.dup2, 1) := by decide +kernel
theorem dX7_lays_22 : decode cX7_lays 22 = .ok (.iaload, 1) := by decide +kernel
theorem dX7_lays_23 : decode cX7_lays 23 = .ok (.iconst 1, 1) := by decide +kernel
theorem dX7_lays_24 : decode cX7_lays 24 = .ok (.iadd, 1) := by decide +kernel
theorem dX7_lays_25 : decode cX7_lays 25 = .ok (.iastore, 1) := by decide +kernel
theorem dX7_lays_26 : decode cX7_lays 26 = .ok (.aload_n 0, 1) := by decide +kernel
theorem dX7_lays_27 : decode cX7_lays 27 = .ok (.getfield 22, 3) := by decide +kernel
theorem dX7_lays_30 : decode cX7_lays 30 = .ok (.iload_n 1, 1) := by decide +kernel
theorem dX7_lays_31 : decode cX7_lays 31 = .ok (.iconst 3, 1) := by decide +kernel
theorem dX7_lays_32 : decode cX7_lays 32 = .ok (.iastore, 1) := by decide +kernel
theorem dX7_lays_33 : decode cX7_lays 33 = .ok (.aload_n 0, 1) := by decide +kernel
theorem dX7_lays_34 : decode cX7_lays 34 = .ok (.getfield 25, 3) := by decide +kernel
theorem dX7_lays_37 : decode cX7_lays 37 = .ok (.iload_n 1, 1) := by decide +kernel
theorem dX7_lays_38 : decode cX7_lays 38 = .ok (.iload_n 2, 1) := by decide +kernel
theorem dX7_lays_39 : decode cX7_lays 39 = .ok (.iastore, 1) := by decide +kernel
theorem dX7_lays_40 : decode cX7_lays 40 = .ok (.return_, 1) := by decide +kernel
theorem dX7_stack_0 : decode cX7_stack 0 = .ok (.aload_n 0, 1) := by decide +kernel
theorem dX7_stack_1 : decode cX7_stack 1 = .ok (.iload_n 1, 1) := by decide +kernel
theorem dX7_stack_2 : decode cX7_stack 2 = .ok (.invokevirtual 114, 3) := by decide +kernel
theorem dX7_stack_5 : decode cX7_stack 5 = .ok (.ifCond .eq 10, 3) := by decide +kernel
theorem dX7_stack_8 : decode cX7_stack 8 = .ok (.iload_n 2, 1) := by decide +kernel
theorem dX7_stack_9 : decode cX7_stack 9 = .ok (.invokestatic 148, 3) := by decide +kernel
theorem dX7_stack_12 : decode cX7_stack 12 = .ok (.ifCond .ne 5, 3) := by decide +kernel
theorem dX7_stack_15 : decode cX7_stack 15 = .ok (.iconst (-1), 1) := by decide +kernel
theorem dX7_stack_16 : decode cX7_stack 16 = .ok (.ireturn, 1) := by decide +kernel
theorem dX7_stack_17 : decode cX7_stack 17 = .ok (.aload_n 0, 1) := by decide +kernel
theorem dX7_stack_18 : decode cX7_stack 18 = .ok (.getfield 22, 3) := by decide +kernel
theorem dX7_stack_21 : decode cX7_stack 21 = .ok (.iload_n 1, 1) := by decide +kernel
theorem dX7_stack_22 : decode cX7_stack 22 = .ok (.iaload, 1) := by decide +kernel
theorem dX7_stack_23 : decode cX7_stack 23 = .ok (.iconst 2, 1) := by decide +kernel
theorem dX7_stack_24 : decode cX7_stack 24 = .ok (.if_icmp .eq 6, 3) := by decide +kernel
theorem dX7_stack_27 : decode cX7_stack 27 = .ok (.bipush (-2), 2) := by decide +kernel
theorem dX7_stack_29 : decode cX7_stack 29 = .ok (.ireturn, 1) := by decide +kernel
theorem dX7_stack_30 : decode cX7_stack 30 = .ok (.aload_n 0, 1) := by decide +kernel
theorem dX7_stack_31 : decode cX7_stack 31 = .ok (.getfield 51, 3) := by decide +kernel
theorem dX7_stack_34 : decode cX7_stack 34 = .ok (.iload_n 2, 1) := by decide +kernel
theorem dX7_stack_35 : decode cX7_stack 35 = .ok (.iaload, 1) := by decide +kernel
theorem dX7_stack_36 : decode cX7_stack 36 = .ok (.iconst 4, 1) := by decide +kernel
theorem dX7_stack_37 : decode cX7_stack 37 = .ok (.if_icmp .ne 6, 3) := by decide +kernel
theorem dX7_stack_40 : decode cX7_stack 40 = .ok (.bipush (-3), 2) := by decide +kernel
theorem dX7_stack_42 : decode cX7_stack 42 = .ok (.ireturn, 1) := by decide +kernel
theorem dX7_stack_43 : decode cX7_stack 43 = .ok (.aload_n 0, 1) := by decide +kernel
theorem dX7_stack_44 : decode cX7_stack 44 = .ok (.iload_n 1, 1) := by decide +kernel
theorem dX7_stack_45 : decode cX7_stack 45 = .ok (.iload_n 2, 1) := by decide +kernel
theorem dX7_stack_46 : decode cX7_stack 46 = .ok (.invokevirtual 151, 3) := by decide +kernel
theorem dX7_stack_49 : decode cX7_stack 49 = .ok (.aload_n 0, 1) := by decide +kernel
theorem dX7_stack_50 : decode cX7_stack 50 = .ok (.getfield 51, 3) := by decide +kernel
theorem dX7_stack_53 : decode cX7_stack 53 = .ok (.iload_n 2, 1) := by decide +kernel
theorem dX7_stack_54 : decode cX7_stack 54 = .ok (.iaload, 1) := by decide +kernel
theorem dX7_stack_55 : decode cX7_stack 55 = .ok (.ireturn, 1) := by decide +kernel
theorem dX7_move_0 : decode cX7_move 0 = .ok (.iload_n 1, 1) := by decide +kernel
theorem dX7_move_1 : decode cX7_move 1 = .ok (.invokestatic 148, 3) := by decide +kernel
theorem dX7_move_4 : decode cX7_move 4 = .ok (.ifCond .eq 15, 3) := by decide +kernel
theorem dX7_move_7 : decode cX7_move 7 = .ok (.iload_n 2, 1) := by decide +kernel
theorem dX7_move_8 : decode cX7_move 8 = .ok (.invokestatic 148, 3) := by decide +kernel
theorem dX7_move_11 : decode cX7_move 11 = .ok (.ifCond .eq 8, 3) := by decide +kernel
theorem dX7_move_14 : decode cX7_move 14 = .ok (.iload_n 1, 1) := by decide +kernel
theorem dX7_move_15 : decode cX7_move 15 = .ok (.iload_n 2, 1) := by decide +kernel
theorem dX7_move_16 : decode cX7_move 16 = .ok (.if_icmp .ne 5, 3) := by decide +kernel
theorem dX7_move_19 : decode cX7_move 19 = .ok (.iconst (-1), 1) := by decide +kernel
theorem dX7_move_20 : decode cX7_move 20 = .ok (.ireturn, 1) := by decide +kernel
theorem dX7_move_21 : decode cX7_move 21 = .ok (.aload_n 0, 1) := by decide +kernel
theorem dX7_move_22 : decode cX7_move 22 = .ok (.getfield 51, 3) := by decide +kernel
theorem dX7_move_25 : decode cX7_move 25 = .ok (.iload_n 1, 1) := by decide +kernel
theorem dX7_move_26 : decode cX7_move 26 = .ok (.iaload, 1) := by decide +kernel
theorem dX7_move_27 : decode cX7_move 27 = .ok (.ifCond .ne 6, 3) := by decide +kernel
theorem dX7_move_30 : decode cX7_move 30 = .ok (.bipush (-2), 2) := by decide +kernel
theorem dX7_move_32 : decode cX7_move 32 = .ok (.ireturn, 1) := by decide +kernel
theorem dX7_move_33 : decode cX7_move 33 = .ok (.aload_n 0, 1) := by decide +kernel
theorem dX7_move_34 : decode cX7_move 34 = .ok (.getfield 51, 3) := by decide +kernel
theorem dX7_move_37 : decode cX7_move 37 = .ok (.iload_n 2, 1) := by decide +kernel
theorem dX7_move_38 : decode cX7_move 38 = .ok (.iaload, 1) := by decide +kernel
theorem dX7_move_39 : decode cX7_move 39 = .ok (.iconst 4, 1) := by decide +kernel
theorem dX7_move_40 : decode cX7_move 40 = .ok (.if_icmp .ne 6, 3) := by decide +kernel
theorem dX7_move_43 : decode cX7_move 43 = .ok (.bipush (-3), 2) := by decide +kernel
theorem dX7_move_45 : decode cX7_move 45 = .ok (.ireturn, 1) := by decide +kernel
theorem dX7_move_46 : decode cX7_move 46 = .ok (.aload_n 0, 1) := by decide +kernel
theorem dX7_move_47 : decode cX7_move 47 = .ok (.getfield 54, 3) := by decide +kernel
theorem dX7_move_50 : decode cX7_move 50 = .ok (.iconst 4, 1) := by decide +kernel
theorem dX7_move_51 : decode cX7_move 51 = .ok (.iload_n 1, 1) := by decide +kernel
theorem dX7_move_52 : decode cX7_move 52 = .ok (.imul, 1) := by decide +kernel
theorem dX7_move_53 : decode cX7_move 53 = .ok (.aload_n 0, 1) := by decide +kernel
theorem dX7_move_54 : decode cX7_move 54 = .ok (.getfield 51, 3) := by decide +kernel
theorem dX7_move_57 : decode cX7_move 57 = .ok (.iload_n 1, 1) := by decide +kernel
theorem dX7_move_58 : decode cX7_move 58 = .ok (.iaload, 1) := by decide +kernel
theorem dX7_move_59 : decode cX7_move 59 = .ok (.iadd, 1) := by decide +kernel
theorem dX7_move_60 : decode cX7_move 60 = .ok (.iconst 1, 1) := by decide +kernel
theorem dX7_move_61 : decode cX7_move 61 = .ok (.isub, 1) := by decide +kernel
theorem dX7_move_62 : decode cX7_move 62 = .ok (.iaload, 1) := by decide +kernel
end
section
theorem dX7_move_63 : decode cX7_move 63 = .ok (.istore_n 3, 1) := by decide +kernel
theorem dX7_move_64 : decode cX7_move 64 = .ok (.aload_n 0, 1) := by decide +kernel
theorem dX7_move_65 : decode cX7_move 65 = .ok (.getfield 51, 3) := by decide +kernel
theorem dX7_move_68 : decode cX7_move 68 = .ok (.iload_n 1, 1) := by decide +kernel
theorem dX7_move_69 : decode cX7_move 69 = .ok (.dup2, 1) := by decide +kernel
theorem dX7_move_70 : decode cX7_move 70 = .ok (.iaload, 1) := by decide +kernel
theorem dX7_move_71 : decode cX7_move 71 = .ok (.iconst 1, 1) := by decide +kernel
theorem dX7_move_72 : decode cX7_move 72 = .ok (.isub, 1) := by decide +kernel
theorem dX7_move_73 : decode cX7_move 73 = .ok (.iastore, 1) := by decide +kernel
theorem dX7_move_74 : decode cX7_move 74 = .ok (.aload_n 0, 1) := by decide +kernel
theorem dX7_move_75 : decode cX7_move 75 = .ok (.iload_n 3, 1) := by decide +kernel
theorem dX7_move_76 : decode cX7_move 76 = .ok (.iload_n 2, 1) := by decide +kernel
theorem dX7_move_77 : decode cX7_move 77 = .ok (.invokevirtual 151, 3) := by decide +kernel
theorem dX7_move_80 : decode cX7_move 80 = .ok (.aload_n 0, 1) := by decide +kernel
theorem dX7_move_81 : decode cX7_move 81 = .ok (.iload_n 1, 1) := by decide +kernel
theorem dX7_move_82 : decode cX7_move 82 = .ok (.invokevirtual 155, 3) := by decide +kernel
theorem dX7_move_85 : decode cX7_move 85 = .ok (.iload_n 3, 1) := by decide +kernel
theorem dX7_move_86 : decode cX7_move 86 = .ok (.ireturn, 1) := by decide +kernel
theorem dX7_takes_0 : decode cX7_takes 0 = .ok (.aload_n 0, 1) := by decide +kernel
theorem dX7_takes_1 : decode cX7_takes 1 = .ok (.getfield 81, 3) := by decide +kernel
theorem dX7_takes_4 : decode cX7_takes 4 = .ok (.iload_n 1, 1) := by decide +kernel
theorem dX7_takes_5 : decode cX7_takes 5 = .ok (.aload_n 0, 1) := by decide +kernel
theorem dX7_takes_6 : decode cX7_takes 6 = .ok (.getfield 78, 3) := by decide +kernel
theorem dX7_takes_9 : decode cX7_takes 9 = .ok (.iload_n 1, 1) := by decide +kernel
theorem dX7_takes_10 : decode cX7_takes 10 = .ok (.iaload, 1) := by decide +kernel
theorem dX7_takes_11 : decode cX7_takes 11 = .ok (.iastore, 1) := by decide +kernel
theorem dX7_takes_12 : decode cX7_takes 12 = .ok (.aload_n 0, 1) := by decide +kernel
theorem dX7_takes_13 : decode cX7_takes 13 = .ok (.getfield 81, 3) := by decide +kernel
theorem dX7_takes_16 : decode cX7_takes 16 = .ok (.iload_n 1, 1) := by decide +kernel
theorem dX7_takes_17 : decode cX7_takes 17 = .ok (.iaload, 1) := by decide +kernel
theorem dX7_takes_18 : decode cX7_takes 18 = .ok (.aload_n 0, 1) := by decide +kernel
theorem dX7_takes_19 : decode cX7_takes 19 = .ok (.getfield 159, 3) := by decide +kernel
theorem dX7_takes_22 : decode cX7_takes 22 = .ok (.if_icmp .ge 109, 3) := by decide +kernel
theorem dX7_takes_25 : decode cX7_takes 25 = .ok (.aload_n 0, 1) := by decide +kernel
theorem dX7_takes_26 : decode cX7_takes 26 = .ok (.getfield 69, 3) := by decide +kernel
theorem dX7_takes_29 : decode cX7_takes 29 = .ok (.aload_n 0, 1) := by decide +kernel
theorem dX7_takes_30 : decode cX7_takes 30 = .ok (.getfield 81, 3) := by decide +kernel
theorem dX7_takes_33 : decode cX7_takes 33 = .ok (.iload_n 1, 1) := by decide +kernel
theorem dX7_takes_34 : decode cX7_takes 34 = .ok (.iaload, 1) := by decide +kernel
theorem dX7_takes_35 : decode cX7_takes 35 = .ok (.iaload, 1) := by decide +kernel
theorem dX7_takes_36 : decode cX7_takes 36 = .ok (.istore_n 2, 1) := by decide +kernel
theorem dX7_takes_37 : decode cX7_takes 37 = .ok (.aload_n 0, 1) := by decide +kernel
theorem dX7_takes_38 : decode cX7_takes 38 = .ok (.iload_n 2, 1) := by decide +kernel
theorem dX7_takes_39 : decode cX7_takes 39 = .ok (.invokevirtual 162, 3) := by decide +kernel
theorem dX7_takes_42 : decode cX7_takes 42 = .ok (.istore_n 3, 1) := by decide +kernel
theorem dX7_takes_43 : decode cX7_takes 43 = .ok (.iconst 0, 1) := by decide +kernel
theorem dX7_takes_44 : decode cX7_takes 44 = .ok (.istore 4, 2) := by decide +kernel
theorem dX7_takes_46 : decode cX7_takes 46 = .ok (.aload_n 0, 1) := by decide +kernel
theorem dX7_takes_47 : decode cX7_takes 47 = .ok (.getfield 75, 3) := by decide +kernel
theorem dX7_takes_50 : decode cX7_takes 50 = .ok (.iconst 4, 1) := by decide +kernel
theorem dX7_takes_51 : decode cX7_takes 51 = .ok (.iload_n 3, 1) := by decide +kernel
theorem dX7_takes_52 : decode cX7_takes 52 = .ok (.imul, 1) := by decide +kernel
theorem dX7_takes_53 : decode cX7_takes 53 = .ok (.aload_n 0, 1) := by decide +kernel
theorem dX7_takes_54 : decode cX7_takes 54 = .ok (.getfield 72, 3) := by decide +kernel
theorem dX7_takes_57 : decode cX7_takes 57 = .ok (.iload_n 3, 1) := by decide +kernel
theorem dX7_takes_58 : decode cX7_takes 58 = .ok (.iaload, 1) := by decide +kernel
theorem dX7_takes_59 : decode cX7_takes 59 = .ok (.iadd, 1) := by decide +kernel
theorem dX7_takes_60 : decode cX7_takes 60 = .ok (.iconst 1, 1) := by decide +kernel
theorem dX7_takes_61 : decode cX7_takes 61 = .ok (.isub, 1) := by decide +kernel
theorem dX7_takes_62 : decode cX7_takes 62 = .ok (.iload 4, 2) := by decide +kernel
theorem dX7_takes_64 : decode cX7_takes 64 = .ok (.isub, 1) := by decide +kernel
theorem dX7_takes_65 : decode cX7_takes 65 = .ok (.iaload, 1) := by decide +kernel
theorem dX7_takes_66 : decode cX7_takes 66 = .ok (.iload_n 2, 1) := by decide +kernel
theorem dX7_takes_67 : decode cX7_takes 67 = .ok (.if_icmp .eq 9, 3) := by decide +kernel
theorem dX7_takes_70 : decode cX7_takes 70 = .ok (.iinc 4 1, 3) := by decide +kernel
theorem dX7_takes_73 : decode cX7_takes 73 = .ok (.goto (-27), 3) := by decide +kernel
theorem dX7_takes_76 : decode cX7_takes 76 = .ok (.iload 4, 2) := by decide +kernel
theorem dX7_takes_78 : decode cX7_takes 78 = .ok (.ifCond .le 13, 3) := by decide +kernel
theorem dX7_takes_81 : decode cX7_takes 81 = .ok (.aload_n 0, 1) := by decide +kernel
theorem dX7_takes_82 : decode cX7_takes 82 = .ok (.getfield 87, 3) := by decide +kernel
theorem dX7_takes_85 : decode cX7_takes 85 = .ok (.iload_n 1, 1) := by decide +kernel
theorem dX7_takes_86 : decode cX7_takes 86 = .ok (.iload_n 3, 1) := by decide +kernel
theorem dX7_takes_87 : decode cX7_takes 87 = .ok (.iastore, 1) := by decide +kernel
theorem dX7_takes_88 : decode cX7_takes 88 = .ok (.iload 4, 2) := by decide +kernel
theorem dX7_takes_90 : decode cX7_takes 90 = .ok (.ireturn, 1) := by decide +kernel
theorem dX7_takes_91 : decode cX7_takes 91 = .ok (.aload_n 0, 1) := by decide +kernel
theorem dX7_takes_92 : decode cX7_takes 92 = .ok (.getfield 72, 3) := by decide +kernel
theorem dX7_takes_95 : decode cX7_takes 95 = .ok (.iload_n 3, 1) := by decide +kernel
theorem dX7_takes_96 : decode cX7_takes 96 = .ok (.dup2, 1) := by decide +kernel
theorem dX7_takes_97 : decode cX7_takes 97 = .ok (.iaload, 1) := by decide +kernel
theorem dX7_takes_98 : decode cX7_takes 98 = .ok (.iconst 1, 1) := by decide +kernel
theorem dX7_takes_99 : decode cX7_takes 99 = .ok (.isub, 1) := by decide +kernel
theorem dX7_takes_100 : decode cX7_takes 100 = .ok (.iastore, 1) := by decide +kernel
theorem dX7_takes_101 : decode cX7_takes 101 = .ok (.aload_n 0, 1) := by decide +kernel
theorem dX7_takes_102 : decode cX7_takes 102 = .ok (.getfield 84, 3) := by decide +kernel
theorem dX7_takes_105 : decode cX7_takes 105 = .ok (.bipush 6, 2) := by decide +kernel
theorem dX7_takes_107 : decode cX7_takes 107 = .ok (.iload_n 1, 1) := by decide +kernel
theorem dX7_takes_108 : decode cX7_takes 108 = .ok (.imul, 1) := by decide +kernel
theorem dX7_takes_109 : decode cX7_takes 109 = .ok (.aload_n 0, 1) := by decide +kernel
theorem dX7_takes_110 : decode cX7_takes 110 = .ok (.getfield 81, 3) := by decide +kernel
theorem dX7_takes_113 : decode cX7_takes 113 = .ok (.iload_n 1, 1) := by decide +kernel
theorem dX7_takes_114 : decode cX7_takes 114 = .ok (.iaload, 1) := by decide +kernel
theorem dX7_takes_115 : decode cX7_takes 115 = .ok (.iadd, 1) := by decide +kernel
theorem dX7_takes_116 : decode cX7_takes 116 = .ok (.iload_n 3, 1) := by decide +kernel
theorem dX7_takes_117 : decode cX7_takes 117 = .ok (.iastore, 1) := by decide +kernel
theorem dX7_takes_118 : decode cX7_takes 118 = .ok (.aload_n 0, 1) := by decide +kernel
theorem dX7_takes_119 : decode cX7_takes 119 = .ok (.getfield 81, 3) := by decide +kernel
theorem dX7_takes_122 : decode cX7_takes 122 = .ok (.iload_n 1, 1) := by decide +kernel
theorem dX7_takes_123 : decode cX7_takes 123 = .ok (.dup2, 1) := by decide +kernel
theorem dX7_takes_124 : decode cX7_takes 124 = .ok (.iaload, 1) := by decide +kernel
theorem dX7_takes_125 : decode cX7_takes 125 = .ok (.iconst 1, 1) := by decide +kernel
theorem dX7_takes_126 : decode cX7_takes 126 = .ok (.iadd, 1) := by decide +kernel
theorem dX7_takes_127 : decode cX7_takes 127 = .ok (.iastore, 1) := by decide +kernel
theorem dX7_takes_128 : decode cX7_takes 128 = .ok (.goto (-116), 3) := by decide +kernel
theorem dX7_takes_131 : decode cX7_takes 131 = .ok (.iconst 0, 1) := by decide +kernel
theorem dX7_takes_132 : decode cX7_takes 132 = .ok (.ireturn, 1) := by decide +kernel
theorem dX7_gives_0 : decode cX7_gives 0 = .ok (.aload_n 0, 1) := by decide +kernel
theorem dX7_gives_1 : decode cX7_gives 1 = .ok (.getfield 81, 3) := by decide +kernel
theorem dX7_gives_4 : decode cX7_gives 4 = .ok (.iload_n 1, 1) := by decide +kernel
theorem dX7_gives_5 : decode cX7_gives 5 = .ok (.iaload, 1) := by decide +kernel
theorem dX7_gives_6 : decode cX7_gives 6 = .ok (.iconst 1, 1) := by decide +kernel
theorem dX7_gives_7 : decode cX7_gives 7 = .ok (.isub, 1) := by decide +kernel
theorem dX7_gives_8 : decode cX7_gives 8 = .ok (.istore_n 2, 1) := by decide +kernel
theorem dX7_gives_9 : decode cX7_gives 9 = .ok (.iload_n 2, 1) := by decide +kernel
theorem dX7_gives_10 : decode cX7_gives 10 = .ok (.aload_n 0, 1) := by decide +kernel
theorem dX7_gives_11 : decode cX7_gives 11 = .ok (.getfield 78, 3) := by decide +kernel
theorem dX7_gives_14 : decode cX7_gives 14 = .ok (.iload_n 1, 1) := by decide +kernel
theorem dX7_gives_15 : decode cX7_gives 15 = .ok (.iaload, 1) := by decide +kernel
theorem dX7_gives_16 : decode cX7_gives 16 = .ok (.if_icmp .lt 52, 3) := by decide +kernel
theorem dX7_gives_19 : decode cX7_gives 19 = .ok (.aload_n 0, 1) := by decide +kernel
theorem dX7_gives_20 : decode cX7_gives 20 = .ok (.getfield 84, 3) := by decide +kernel
theorem dX7_gives_23 : decode cX7_gives 23 = .ok (.bipush 6, 2) := by decide +kernel
theorem dX7_gives_25 : decode cX7_gives 25 = .ok (.iload_n 1, 1) := by decide +kernel
theorem dX7_gives_26 : decode cX7_gives 26 = .ok (.imul, 1) := by decide +kernel
theorem dX7_gives_27 : decode cX7_gives 27 = .ok (.iload_n 2, 1) := by decide +kernel
theorem dX7_gives_28 : decode cX7_gives 28 = .ok (.iadd, 1) := by decide +kernel
theorem dX7_gives_29 : decode cX7_gives 29 = .ok (.iaload, 1) := by decide +kernel
theorem dX7_gives_30 : decode cX7_gives 30 = .ok (.istore_n 3, 1) := by decide +kernel
theorem dX7_gives_31 : decode cX7_gives 31 = .ok (.aload_n 0, 1) := by decide +kernel
theorem dX7_gives_32 : decode cX7_gives 32 = .ok (.getfield 75, 3) := by decide +kernel
theorem dX7_gives_35 : decode cX7_gives 35 = .ok (.iconst 4, 1) := by decide +kernel
theorem dX7_gives_36 : decode cX7_gives 36 = .ok (.iload_n 3, 1) := by decide +kernel
theorem dX7_gives_37 : decode cX7_gives 37 = .ok (.imul, 1) := by decide +kernel
theorem dX7_gives_38 : decode cX7_gives 38 = .ok (.aload_n 0, 1) := by decide +kernel
theorem dX7_gives_39 : decode cX7_gives 39 = .ok (.getfield 72, 3) := by decide +kernel
theorem dX7_gives_42 : decode cX7_gives 42 = .ok (.iload_n 3, 1) := by decide +kernel
theorem dX7_gives_43 : decode cX7_gives 43 = .ok (.iaload, 1) := by decide +kernel
theorem dX7_gives_44 : decode cX7_gives 44 = .ok (.iadd, 1) := by decide +kernel
theorem dX7_gives_45 : decode cX7_gives 45 = .ok (.aload_n 0, 1) := by decide +kernel
theorem dX7_gives_46 : decode cX7_gives 46 = .ok (.getfield 69, 3) := by decide +kernel
theorem dX7_gives_49 : decode cX7_gives 49 = .ok (.iload_n 2, 1) := by decide +kernel
theorem dX7_gives_50 : decode cX7_gives 50 = .ok (.iaload, 1) := by decide +kernel
theorem dX7_gives_51 : decode cX7_gives 51 = .ok (.iastore, 1) := by decide +kernel
theorem dX7_gives_52 : decode cX7_gives 52 = .ok (.aload_n 0, 1) := by decide +kernel
theorem dX7_gives_53 : decode cX7_gives 53 = .ok (.getfield 72, 3) := by decide +kernel
theorem dX7_gives_56 : decode cX7_gives 56 = .ok (.iload_n 3, 1) := by decide +kernel
theorem dX7_gives_57 : decode cX7_gives 57 = .ok (.dup2, 1) := by decide +kernel
theorem dX7_gives_58 : decode cX7_gives 58 = .ok (.iaload, 1) := by decide +kernel
theorem dX7_gives_59 : decode cX7_gives 59 = .ok (.iconst 1, 1) := by decide +kernel
theorem dX7_gives_60 : decode cX7_gives 60 = .ok (.iadd, 1) := by decide +kernel
theorem dX7_gives_61 : decode cX7_gives 61 = .ok (.iastore, 1) := by decide +kernel
theorem dX7_gives_62 : decode cX7_gives 62 = .ok (.iinc 2 (-1), 3) := by decide +kernel
theorem dX7_gives_65 : decode cX7_gives 65 = .ok (.goto (-56), 3) := by decide +kernel
theorem dX7_gives_68 : decode cX7_gives 68 = .ok (.return_, 1) := by decide +kernel
theorem dX7_carries_0 : decode cX7_carries 0 = .ok (.aload_n 0, 1) := by decide +kernel
theorem dX7_carries_1 : decode cX7_carries 1 = .ok (.getfield 72, 3) := by decide +kernel
theorem dX7_carries_4 : decode cX7_carries 4 = .ok (.iload_n 1, 1) := by decide +kernel
theorem dX7_carries_5 : decode cX7_carries 5 = .ok (.dup2, 1) := by decide +kernel
theorem dX7_carries_6 : decode cX7_carries 6 = .ok (.iaload, 1) := by decide +kernel
theorem dX7_carries_7 : decode cX7_carries 7 = .ok (.iconst 1, 1) := by decide +kernel
theorem dX7_carries_8 : decode cX7_carries 8 = .ok (.isub, 1) := by decide +kernel
theorem dX7_carries_9 : decode cX7_carries 9 = .ok (.iastore, 1) := by decide +kernel
theorem dX7_carries_10 : decode cX7_carries 10 = .ok (.aload_n 0, 1) := by decide +kernel
theorem dX7_carries_11 : decode cX7_carries 11 = .ok (.getfield 75, 3) := by decide +kernel
theorem dX7_carries_14 : decode cX7_carries 14 = .ok (.iconst 4, 1) := by decide +kernel
theorem dX7_carries_15 : decode cX7_carries 15 = .ok (.iload_n 2, 1) := by decide +kernel
theorem dX7_carries_16 : decode cX7_carries 16 = .ok (.imul, 1) := by decide +kernel
theorem dX7_carries_17 : decode cX7_carries 17 = .ok (.aload_n 0, 1) := by decide +kernel
theorem dX7_carries_18 : decode cX7_carries 18 = .ok (.getfield 72, 3) := by decide +kernel
theorem dX7_carries_21 : decode cX7_carries 21 = .ok (.iload_n 2, 1) := by decide +kernel
theorem dX7_carries_22 : decode cX7_carries 22 = .ok (.iaload, 1) := by decide +kernel
theorem dX7_carries_23 : decode cX7_carries 23 = .ok (.iadd, 1) := by decide +kernel
theorem dX7_carries_24 : decode cX7_carries 24 = .ok (.aload_n 0, 1) := by decide +kernel
theorem dX7_carries_25 : decode cX7_carries 25 = .ok (.getfield 75, 3) := by decide +kernel
theorem dX7_carries_28 : decode cX7_carries 28 = .ok (.iconst 4, 1) := by decide +kernel
theorem dX7_carries_29 : decode cX7_carries 29 = .ok (.iload_n 1, 1) := by decide +kernel
theorem dX7_carries_30 : decode cX7_carries 30 = .ok (.imul, 1) := by decide +kernel
theorem dX7_carries_31 : decode cX7_carries 31 = .ok (.aload_n 0, 1) := by decide +kernel
theorem dX7_carries_32 : decode cX7_carries 32 = .ok (.getfield 72, 3) := by decide +kernel
theorem dX7_carries_35 : decode cX7_carries 35 = .ok (.iload_n 1, 1) := by decide +kernel
theorem dX7_carries_36 : decode cX7_carries 36 = .ok (.iaload, 1) := by decide +kernel
theorem dX7_carries_37 : decode cX7_carries 37 = .ok (.iadd, 1) := by decide +kernel
theorem dX7_carries_38 : decode cX7_carries 38 = .ok (.iaload, 1) := by decide +kernel
theorem dX7_carries_39 : decode cX7_carries 39 = .ok (.iastore, 1) := by decide +kernel
theorem dX7_carries_40 : decode cX7_carries 40 = .ok (.aload_n 0, 1) := by decide +kernel
theorem dX7_carries_41 : decode cX7_carries 41 = .ok (.getfield 72, 3) := by decide +kernel
theorem dX7_carries_44 : decode cX7_carries 44 = .ok (.iload_n 2, 1) := by decide +kernel
theorem dX7_carries_45 : decode cX7_carries 45 = .ok (.dup2, 1) := by decide +kernel
theorem dX7_carries_46 : decode cX7_carries 46 = .ok (.iaload, 1) := by decide +kernel
theorem dX7_carries_47 : decode cX7_carries 47 = .ok (.iconst 1, 1) := by decide +kernel
theorem dX7_carries_48 : decode cX7_carries 48 = .ok (.iadd, 1) := by decide +kernel
theorem dX7_carries_49 : decode cX7_carries 49 = .ok (.iastore, 1) := by decide +kernel
theorem dX7_carries_50 : decode cX7_carries 50 = .ok (.return_, 1) := by decide +kernel
theorem dX7_does_0 : decode cX7_does 0 = .ok (.iconst 0, 1) := by decide +kernel
theorem dX7_does_1 : decode cX7_does 1 = .ok (.istore_n 2, 1) := by decide +kernel
theorem dX7_does_2 : decode cX7_does 2 = .ok (.aload_n 0, 1) := by decide +kernel
theorem dX7_does_3 : decode cX7_does 3 = .ok (.getfield 78, 3) := by decide +kernel
theorem dX7_does_6 : decode cX7_does 6 = .ok (.iconst 0, 1) := by decide +kernel
theorem dX7_does_7 : decode cX7_does 7 = .ok (.iconst 0, 1) := by decide +kernel
theorem dX7_does_8 : decode cX7_does 8 = .ok (.iastore, 1) := by decide +kernel
theorem dX7_does_9 : decode cX7_does 9 = .ok (.iconst 1, 1) := by decide +kernel
theorem dX7_does_10 : decode cX7_does 10 = .ok (.istore_n 3, 1) := by decide +kernel
theorem dX7_does_11 : decode cX7_does 11 = .ok (.iload_n 2, 1) := by decide +kernel
theorem dX7_does_12 : decode cX7_does 12 = .ok (.ifCond .lt 176, 3) := by decide +kernel
theorem dX7_does_15 : decode cX7_does 15 = .ok (.iconst 0, 1) := by decide +kernel
theorem dX7_does_16 : decode cX7_does 16 = .ok (.istore 4, 2) := by decide +kernel
theorem dX7_does_18 : decode cX7_does 18 = .ok (.iload_n 3, 1) := by decide +kernel
theorem dX7_does_19 : decode cX7_does 19 = .ok (.ifCond .eq 39, 3) := by decide +kernel
theorem dX7_does_22 : decode cX7_does 22 = .ok (.aload_n 0, 1) := by decide +kernel
theorem dX7_does_23 : decode cX7_does 23 = .ok (.iload_n 2, 1) := by decide +kernel
theorem dX7_does_24 : decode cX7_does 24 = .ok (.invokevirtual 166, 3) := by decide +kernel
theorem dX7_does_27 : decode cX7_does 27 = .ok (.istore 5, 2) := by decide +kernel
theorem dX7_does_29 : decode cX7_does 29 = .ok (.iload 5, 2) := by decide +kernel
theorem dX7_does_31 : decode cX7_does 31 = .ok (.ifCond .ne 5, 3) := by decide +kernel
theorem dX7_does_34 : decode cX7_does 34 = .ok (.iconst 1, 1) := by decide +kernel
theorem dX7_does_35 : decode cX7_does 35 = .ok (.ireturn, 1) := by decide +kernel
theorem dX7_does_36 : decode cX7_does 36 = .ok (.aload_n 0, 1) := by decide +kernel
theorem dX7_does_37 : decode cX7_does 37 = .ok (.getfield 90, 3) := by decide +kernel
theorem dX7_does_40 : decode cX7_does 40 = .ok (.iload_n 2, 1) := by decide +kernel
theorem dX7_does_41 : decode cX7_does 41 = .ok (.iconst (-1), 1) := by decide +kernel
theorem dX7_does_42 : decode cX7_does 42 = .ok (.iastore, 1) := by decide +kernel
theorem dX7_does_43 : decode cX7_does 43 = .ok (.iload_n 2, 1) := by decide +kernel
theorem dX7_does_44 : decode cX7_does 44 = .ok (.iload 5, 2) := by decide +kernel
theorem dX7_does_46 : decode cX7_does 46 = .ok (.iadd, 1) := by decide +kernel
theorem dX7_does_47 : decode cX7_does 47 = .ok (.iload_n 1, 1) := by decide +kernel
theorem dX7_does_48 : decode cX7_does 48 = .ok (.if_icmp .le 7, 3) := by decide +kernel
theorem dX7_does_51 : decode cX7_does 51 = .ok (.iconst 1, 1) := by decide +kernel
theorem dX7_does_52 : decode cX7_does 52 = .ok (.goto 4, 3) := by decide +kernel
theorem dX7_does_55 : decode cX7_does 55 = .ok (.iconst 0, 1) := by decide +kernel
theorem dX7_does_56 : decode cX7_does 56 = .ok (.istore 4, 2) := by decide +kernel
theorem dX7_does_58 : decode cX7_does 58 = .ok (.aload_n 0, 1) := by decide +kernel
theorem dX7_does_59 : decode cX7_does 59 = .ok (.getfield 90, 3) := by decide +kernel
theorem dX7_does_62 : decode cX7_does 62 = .ok (.iload_n 2, 1) := by decide +kernel
theorem dX7_does_63 : decode cX7_does 63 = .ok (.iaload, 1) := by decide +kernel
theorem dX7_does_64 : decode cX7_does 64 = .ok (.iconst 1, 1) := by decide +kernel
theorem dX7_does_65 : decode cX7_does 65 = .ok (.iadd, 1) := by decide +kernel
theorem dX7_does_66 : decode cX7_does 66 = .ok (.istore 5, 2) := by decide +kernel
theorem dX7_does_68 : decode cX7_does 68 = .ok (.iload 5, 2) := by decide +kernel
theorem dX7_does_70 : decode cX7_does 70 = .ok (.iconst 5, 1) := by decide +kernel
theorem dX7_does_71 : decode cX7_does 71 = .ok (.if_icmp .ge 31, 3) := by decide +kernel
theorem dX7_does_74 : decode cX7_does 74 = .ok (.iload 5, 2) := by decide +kernel
theorem dX7_does_76 : decode cX7_does 76 = .ok (.aload_n 0, 1) := by decide +kernel
theorem dX7_does_77 : decode cX7_does 77 = .ok (.getfield 87, 3) := by decide +kernel
theorem dX7_does_80 : decode cX7_does 80 = .ok (.iload_n 2, 1) := by decide +kernel
theorem dX7_does_81 : decode cX7_does 81 = .ok (.iaload, 1) := by decide +kernel
theorem dX7_does_82 : decode cX7_does 82 = .ok (.if_icmp .eq 14, 3) := by decide +kernel
theorem dX7_does_85 : decode cX7_does 85 = .ok (.aload_n 0, 1) := by decide +kernel
theorem dX7_does_86 : decode cX7_does 86 = .ok (.getfield 72, 3) := by decide +kernel
theorem dX7_does_89 : decode cX7_does 89 = .ok (.iload 5, 2) := by decide +kernel
theorem dX7_does_91 : decode cX7_does 91 = .ok (.iaload, 1) := by decide +kernel
theorem dX7_does_92 : decode cX7_does 92 = .ok (.iconst 4, 1) := by decide +kernel
theorem dX7_does_93 : decode cX7_does 93 = .ok (.if_icmp .ne 9, 3) := by decide +kernel
theorem dX7_does_96 : decode cX7_does 96 = .ok (.iinc 5 1, 3) := by decide +kernel
theorem dX7_does_99 : decode cX7_does 99 = .ok (.goto (-31), 3) := by decide +kernel
theorem dX7_does_102 : decode cX7_does 102 = .ok (.iload 4, 2) := by decide +kernel
theorem dX7_does_104 : decode cX7_does 104 = .ok (.ifCond .ne 9, 3) := by decide +kernel
theorem dX7_does_107 : decode cX7_does 107 = .ok (.iload 5, 2) := by decide +kernel
theorem dX7_does_109 : decode cX7_does 109 = .ok (.iconst 5, 1) := by decide +kernel
theorem dX7_does_110 : decode cX7_does 110 = .ok (.if_icmp .ne 36, 3) := by decide +kernel
theorem dX7_does_113 : decode cX7_does 113 = .ok (.aload_n 0, 1) := by decide +kernel
theorem dX7_does_114 : decode cX7_does 114 = .ok (.iload_n 2, 1) := by decide +kernel
theorem dX7_does_115 : decode cX7_does 115 = .ok (.invokevirtual 169, 3) := by decide +kernel
theorem dX7_does_118 : decode cX7_does 118 = .ok (.iinc 2 (-1), 3) := by decide +kernel
theorem dX7_does_121 : decode cX7_does 121 = .ok (.iload_n 2, 1) := by decide +kernel
theorem dX7_does_122 : decode cX7_does 122 = .ok (.ifCond .lt 19, 3) := by decide +kernel
theorem dX7_does_125 : decode cX7_does 125 = .ok (.aload_n 0, 1) := by decide +kernel
theorem dX7_does_126 : decode cX7_does 126 = .ok (.aload_n 0, 1) := by decide +kernel
theorem dX7_does_127 : decode cX7_does 127 = .ok (.getfield 90, 3) := by decide +kernel
theorem dX7_does_130 : decode cX7_does 130 = .ok (.iload_n 2, 1) := by decide +kernel
theorem dX7_does_131 : decode cX7_does 131 = .ok (.iaload, 1) := by decide +kernel
theorem dX7_does_132 : decode cX7_does 132 = .ok (.aload_n 0, 1) := by decide +kernel
theorem dX7_does_133 : decode cX7_does 133 = .ok (.getfield 87, 3) := by decide +kernel
theorem dX7_does_136 : decode cX7_does 136 = .ok (.iload_n 2, 1) := by decide +kernel
theorem dX7_does_137 : decode cX7_does 137 = .ok (.iaload, 1) := by decide +kernel
theorem dX7_does_138 : decode cX7_does 138 = .ok (.invokevirtual 172, 3) := by decide +kernel
theorem dX7_does_141 : decode cX7_does 141 = .ok (.iconst 0, 1) := by decide +kernel
theorem dX7_does_142 : decode cX7_does 142 = .ok (.istore_n 3, 1) := by decide +kernel
theorem dX7_does_143 : decode cX7_does 143 = .ok (.goto 42, 3) := by decide +kernel
theorem dX7_does_146 : decode cX7_does 146 = .ok (.aload_n 0, 1) := by decide +kernel
theorem dX7_does_147 : decode cX7_does 147 = .ok (.getfield 90, 3) := by decide +kernel
theorem dX7_does_150 : decode cX7_does 150 = .ok (.iload_n 2, 1) := by decide +kernel
theorem dX7_does_151 : decode cX7_does 151 = .ok (.iload 5, 2) := by decide +kernel
theorem dX7_does_153 : decode cX7_does 153 = .ok (.iastore, 1) := by decide +kernel
theorem dX7_does_154 : decode cX7_does 154 = .ok (.aload_n 0, 1) := by decide +kernel
theorem dX7_does_155 : decode cX7_does 155 = .ok (.aload_n 0, 1) := by decide +kernel
theorem dX7_does_156 : decode cX7_does 156 = .ok (.getfield 87, 3) := by decide +kernel
theorem dX7_does_159 : decode cX7_does 159 = .ok (.iload_n 2, 1) := by decide +kernel
theorem dX7_does_160 : decode cX7_does 160 = .ok (.iaload, 1) := by decide +kernel
theorem dX7_does_161 : decode cX7_does 161 = .ok (.iload 5, 2) := by decide +kernel
theorem dX7_does_163 : decode cX7_does 163 = .ok (.invokevirtual 172, 3) := by decide +kernel
theorem dX7_does_166 : decode cX7_does 166 = .ok (.aload_n 0, 1) := by decide +kernel
theorem dX7_does_167 : decode cX7_does 167 = .ok (.getfield 78, 3) := by decide +kernel
theorem dX7_does_170 : decode cX7_does 170 = .ok (.iload_n 2, 1) := by decide +kernel
theorem dX7_does_171 : decode cX7_does 171 = .ok (.iconst 1, 1) := by decide +kernel
theorem dX7_does_172 : decode cX7_does 172 = .ok (.iadd, 1) := by decide +kernel
theorem dX7_does_173 : decode cX7_does 173 = .ok (.aload_n 0, 1) := by decide +kernel
theorem dX7_does_174 : decode cX7_does 174 = .ok (.getfield 81, 3) := by decide +kernel
theorem dX7_does_177 : decode cX7_does 177 = .ok (.iload_n 2, 1) := by decide +kernel
theorem dX7_does_178 : decode cX7_does 178 = .ok (.iaload, 1) := by decide +kernel
theorem dX7_does_179 : decode cX7_does 179 = .ok (.iastore, 1) := by decide +kernel
theorem dX7_does_180 : decode cX7_does 180 = .ok (.iinc 2 1, 3) := by decide +kernel
theorem dX7_does_183 : decode cX7_does 183 = .ok (.iconst 1, 1) := by decide +kernel
theorem dX7_does_184 : decode cX7_does 184 = .ok (.istore_n 3, 1) := by decide +kernel
theorem dX7_does_185 : decode cX7_does 185 = .ok (.goto (-174), 3) := by decide +kernel
theorem dX7_does_188 : decode cX7_does 188 = .ok (.iconst 0, 1) := by decide +kernel
theorem dX7_does_189 : decode cX7_does 189 = .ok (.ireturn, 1) := by decide +kernel
theorem dX7_lies_0 : decode cX7_lies 0 = .ok (.iconst 0, 1) := by decide +kernel
theorem dX7_lies_1 : decode cX7_lies 1 = .ok (.istore_n 1, 1) := by decide +kernel
theorem dX7_lies_2 : decode cX7_lies 2 = .ok (.iload_n 1, 1) := by decide +kernel
theorem dX7_lies_3 : decode cX7_lies 3 = .ok (.iconst 5, 1) := by decide +kernel
theorem dX7_lies_4 : decode cX7_lies 4 = .ok (.if_icmp .ge 21, 3) := by decide +kernel
theorem dX7_lies_7 : decode cX7_lies 7 = .ok (.aload_n 0, 1) := by decide +kernel
theorem dX7_lies_8 : decode cX7_lies 8 = .ok (.getfield 72, 3) := by decide +kernel
theorem dX7_lies_11 : decode cX7_lies 11 = .ok (.iload_n 1, 1) := by decide +kernel
theorem dX7_lies_12 : decode cX7_lies 12 = .ok (.aload_n 0, 1) := by decide +kernel
theorem dX7_lies_13 : decode cX7_lies 13 = .ok (.getfield 51, 3) := by decide +kernel
theorem dX7_lies_16 : decode cX7_lies 16 = .ok (.iload_n 1, 1) := by decide +kernel
theorem dX7_lies_17 : decode cX7_lies 17 = .ok (.iaload, 1) := by decide +kernel
theorem dX7_lies_18 : decode cX7_lies 18 = .ok (.iastore, 1) := by decide +kernel
theorem dX7_lies_19 : decode cX7_lies 19 = .ok (.iinc 1 1, 3) := by decide +kernel
theorem dX7_lies_22 : decode cX7_lies 22 = .ok (.goto (-20), 3) := by decide +kernel
theorem dX7_lies_25 : decode cX7_lies 25 = .ok (.iconst 0, 1) := by decide +kernel
theorem dX7_lies_26 : decode cX7_lies 26 = .ok (.istore_n 1, 1) := by decide +kernel
theorem dX7_lies_27 : decode cX7_lies 27 = .ok (.iload_n 1, 1) := by decide +kernel
theorem dX7_lies_28 : decode cX7_lies 28 = .ok (.bipush 20, 2) := by decide +kernel
theorem dX7_lies_30 : decode cX7_lies 30 = .ok (.if_icmp .ge 21, 3) := by decide +kernel
theorem dX7_lies_33 : decode cX7_lies 33 = .ok (.aload_n 0, 1) := by decide +kernel
theorem dX7_lies_34 : decode cX7_lies 34 = .ok (.getfield 75, 3) := by decide +kernel
theorem dX7_lies_37 : decode cX7_lies 37 = .ok (.iload_n 1, 1) := by decide +kernel
theorem dX7_lies_38 : decode cX7_lies 38 = .ok (.aload_n 0, 1) := by decide +kernel
theorem dX7_lies_39 : decode cX7_lies 39 = .ok (.getfield 54, 3) := by decide +kernel
theorem dX7_lies_42 : decode cX7_lies 42 = .ok (.iload_n 1, 1) := by decide +kernel
theorem dX7_lies_43 : decode cX7_lies 43 = .ok (.iaload, 1) := by decide +kernel
theorem dX7_lies_44 : decode cX7_lies 44 = .ok (.iastore, 1) := by decide +kernel
theorem dX7_lies_45 : decode cX7_lies 45 = .ok (.iinc 1 1, 3) := by decide +kernel
theorem dX7_lies_48 : decode cX7_lies 48 = .ok (.goto (-21), 3) := by decide +kernel
theorem dX7_lies_51 : decode cX7_lies 51 = .ok (.return_, 1) := by decide +kernel
theorem dX7_stackOf_0 : decode cX7_stackOf 0 = .ok (.iconst (-1), 1) := by decide +kernel
theorem dX7_stackOf_1 : decode cX7_stackOf 1 = .ok (.istore_n 2, 1) := by decide +kernel
theorem dX7_stackOf_2 : decode cX7_stackOf 2 = .ok (.iconst 0, 1) := by decide +kernel
theorem dX7_stackOf_3 : decode cX7_stackOf 3 = .ok (.istore_n 3, 1) := by decide +kernel
theorem dX7_stackOf_4 : decode cX7_stackOf 4 = .ok (.iload_n 3, 1) := by decide +kernel
theorem dX7_stackOf_5 : decode cX7_stackOf 5 = .ok (.iconst 5, 1) := by decide +kernel
theorem dX7_stackOf_6 : decode cX7_stackOf 6 = .ok (.if_icmp .ge 50, 3) := by decide +kernel
theorem dX7_stackOf_9 : decode cX7_stackOf 9 = .ok (.iconst 0, 1) := by decide +kernel
theorem dX7_stackOf_10 : decode cX7_stackOf 10 = .ok (.istore 4, 2) := by decide +kernel
theorem dX7_stackOf_12 : decode cX7_stackOf 12 = .ok (.iload 4, 2) := by decide +kernel
theorem dX7_stackOf_14 : decode cX7_stackOf 14 = .ok (.aload_n 0, 1) := by decide +kernel
theorem dX7_stackOf_15 : decode cX7_stackOf 15 = .ok (.getfield 72, 3) := by decide +kernel
theorem dX7_stackOf_18 : decode cX7_stackOf 18 = .ok (.iload_n 3, 1) := by decide +kernel
theorem dX7_stackOf_19 : decode cX7_stackOf 19 = .ok (.iaload, 1) := by decide +kernel
theorem dX7_stackOf_20 : decode cX7_stackOf 20 = .ok (.if_icmp .ge 30, 3) := by decide +kernel
theorem dX7_stackOf_23 : decode cX7_stackOf 23 = .ok (.aload_n 0, 1) := by decide +kernel
theorem dX7_stackOf_24 : decode cX7_stackOf 24 = .ok (.getfield 75, 3) := by decide +kernel
theorem dX7_stackOf_27 : decode cX7_stackOf 27 = .ok (.iconst 4, 1) := by decide +kernel
theorem dX7_stackOf_28 : decode cX7_stackOf 28 = .ok (.iload_n 3, 1) := by decide +kernel
theorem dX7_stackOf_29 : decode cX7_stackOf 29 = .ok (.imul, 1) := by decide +kernel
theorem dX7_stackOf_30 : decode cX7_stackOf 30 = .ok (.iload 4, 2) := by decide +kernel
theorem dX7_stackOf_32 : decode cX7_stackOf 32 = .ok (.iadd, 1) := by decide +kernel
theorem dX7_stackOf_33 : decode cX7_stackOf 33 = .ok (.iaload, 1) := by decide +kernel
theorem dX7_stackOf_34 : decode cX7_stackOf 34 = .ok (.iload_n 1, 1) := by decide +kernel
theorem dX7_stackOf_35 : decode cX7_stackOf 35 = .ok (.if_icmp .ne 7, 3) := by decide +kernel
theorem dX7_stackOf_38 : decode cX7_stackOf 38 = .ok (.iload_n 3, 1) := by decide +kernel
theorem dX7_stackOf_39 : decode cX7_stackOf 39 = .ok (.goto 4, 3) := by decide +kernel
theorem dX7_stackOf_42 : decode cX7_stackOf 42 = .ok (.iload_n 2, 1) := by decide +kernel
theorem dX7_stackOf_43 : decode cX7_stackOf 43 = .ok (.istore_n 2, 1) := by decide +kernel
theorem dX7_stackOf_44 : decode cX7_stackOf 44 = .ok (.iinc 4 1, 3) := by decide +kernel
theorem dX7_stackOf_47 : decode cX7_stackOf 47 = .ok (.goto (-35), 3) := by decide +kernel
theorem dX7_stackOf_50 : decode cX7_stackOf 50 = .ok (.iinc 3 1, 3) := by decide +kernel
theorem dX7_stackOf_53 : decode cX7_stackOf 53 = .ok (.goto (-49), 3) := by decide +kernel
theorem dX7_stackOf_56 : decode cX7_stackOf 56 = .ok (.iload_n 2, 1) := by decide +kernel
theorem dX7_stackOf_57 : decode cX7_stackOf 57 = .ok (.ireturn, 1) := by decide +kernel
theorem dX7_diggings_0 : decode cX7_diggings 0 = .ok (.iload_n 1, 1) := by decide +kernel
theorem dX7_diggings_1 : decode cX7_diggings 1 = .ok (.i2l, 1) := by decide +kernel
theorem dX7_diggings_2 : decode cX7_diggings 2 = .ok (.lconst 0, 1) := by decide +kernel
theorem dX7_diggings_3 : decode cX7_diggings 3 = .ok (.ldc2_w 175, 3) := by decide +kernel
theorem dX7_diggings_6 : decode cX7_diggings 6 = .ok (.invokestatic 96, 3) := by decide +kernel
theorem dX7_diggings_9 : decode cX7_diggings 9 = .ok (.ifCond .eq 20, 3) := by decide +kernel
theorem dX7_diggings_12 : decode cX7_diggings 12 = .ok (.lload_n 2, 1) := by decide +kernel
theorem dX7_diggings_13 : decode cX7_diggings 13 = .ok (.lconst 0, 1) := by decide +kernel
theorem dX7_diggings_14 : decode cX7_diggings 14 = .ok (.lcmp, 1) := by decide +kernel
theorem dX7_diggings_15 : decode cX7_diggings 15 = .ok (.ifCond .lt 14, 3) := by decide +kernel
theorem dX7_diggings_18 : decode cX7_diggings 18 = .ok (.lload_n 2, 1) := by decide +kernel
theorem dX7_diggings_19 : decode cX7_diggings 19 = .ok (.bipush 6, 2) := by decide +kernel
theorem dX7_diggings_21 : decode cX7_diggings 21 = .ok (.iload_n 1, 1) := by decide +kernel
theorem dX7_diggings_22 : decode cX7_diggings 22 = .ok (.imul, 1) := by decide +kernel
theorem dX7_diggings_23 : decode cX7_diggings 23 = .ok (.lushr, 1) := by decide +kernel
theorem dX7_diggings_24 : decode cX7_diggings 24 = .ok (.lconst 0, 1) := by decide +kernel
theorem dX7_diggings_25 : decode cX7_diggings 25 = .ok (.lcmp, 1) := by decide +kernel
theorem dX7_diggings_26 : decode cX7_diggings 26 = .ok (.ifCond .eq 5, 3) := by decide +kernel
theorem dX7_diggings_29 : decode cX7_diggings 29 = .ok (.iconst (-1), 1) := by decide +kernel
theorem dX7_diggings_30 : decode cX7_diggings 30 = .ok (.ireturn, 1) := by decide +kernel
theorem dX7_diggings_31 : decode cX7_diggings 31 = .ok (.aload_n 0, 1) := by decide +kernel
theorem dX7_diggings_32 : decode cX7_diggings 32 = .ok (.iload_n 1, 1) := by decide +kernel
theorem dX7_diggings_33 : decode cX7_diggings 33 = .ok (.putfield 159, 3) := by decide +kernel
theorem dX7_diggings_36 : decode cX7_diggings 36 = .ok (.iconst 0, 1) := by decide +kernel
theorem dX7_diggings_37 : decode cX7_diggings 37 = .ok (.istore 4, 2) := by decide +kernel
theorem dX7_diggings_39 : decode cX7_diggings 39 = .ok (.iload 4, 2) := by decide +kernel
theorem dX7_diggings_41 : decode cX7_diggings 41 = .ok (.iload_n 1, 1) := by decide +kernel
theorem dX7_diggings_42 : decode cX7_diggings 42 = .ok (.if_icmp .ge 97, 3) := by decide +kernel
theorem dX7_diggings_45 : decode cX7_diggings 45 = .ok (.aload_n 0, 1) := by decide +kernel
theorem dX7_diggings_46 : decode cX7_diggings 46 = .ok (.getfield 69, 3) := by decide +kernel
theorem dX7_diggings_49 : decode cX7_diggings 49 = .ok (.iload 4, 2) := by decide +kernel
theorem dX7_diggings_51 : decode cX7_diggings 51 = .ok (.lload_n 2, 1) := by decide +kernel
theorem dX7_diggings_52 : decode cX7_diggings 52 = .ok (.bipush 6, 2) := by decide +kernel
theorem dX7_diggings_54 : decode cX7_diggings 54 = .ok (.iload 4, 2) := by decide +kernel
theorem dX7_diggings_56 : decode cX7_diggings 56 = .ok (.imul, 1) := by decide +kernel
theorem dX7_diggings_57 : decode cX7_diggings 57 = .ok (.lshr, 1) := by decide +kernel
theorem dX7_diggings_58 : decode cX7_diggings 58 = .ok (.ldc2_w 177, 3) := by decide +kernel
theorem dX7_diggings_61 : decode cX7_diggings 61 = .ok (.land, 1) := by decide +kernel
theorem dX7_diggings_62 : decode cX7_diggings 62 = .ok (.l2i, 1) := by decide +kernel
theorem dX7_diggings_63 : decode cX7_diggings 63 = .ok (.iastore, 1) := by decide +kernel
theorem dX7_diggings_64 : decode cX7_diggings 64 = .ok (.iconst 0, 1) := by decide +kernel
theorem dX7_diggings_65 : decode cX7_diggings 65 = .ok (.istore 5, 2) := by decide +kernel
theorem dX7_diggings_67 : decode cX7_diggings 67 = .ok (.iconst 0, 1) := by decide +kernel
theorem dX7_diggings_68 : decode cX7_diggings 68 = .ok (.istore 6, 2) := by decide +kernel
theorem dX7_diggings_70 : decode cX7_diggings 70 = .ok (.iload 6, 2) := by decide +kernel
theorem dX7_diggings_72 : decode cX7_diggings 72 = .ok (.iload 4, 2) := by decide +kernel
theorem dX7_diggings_74 : decode cX7_diggings 74 = .ok (.if_icmp .ge 38, 3) := by decide +kernel
theorem dX7_diggings_77 : decode cX7_diggings 77 = .ok (.iload 5, 2) := by decide +kernel
theorem dX7_diggings_79 : decode cX7_diggings 79 = .ok (.ifCond .ne 20, 3) := by decide +kernel
theorem dX7_diggings_82 : decode cX7_diggings 82 = .ok (.aload_n 0, 1) := by decide +kernel
theorem dX7_diggings_83 : decode cX7_diggings 83 = .ok (.getfield 69, 3) := by decide +kernel
theorem dX7_diggings_86 : decode cX7_diggings 86 = .ok (.iload 6, 2) := by decide +kernel
theorem dX7_diggings_88 : decode cX7_diggings 88 = .ok (.iaload, 1) := by decide +kernel
theorem dX7_diggings_89 : decode cX7_diggings 89 = .ok (.aload_n 0, 1) := by decide +kernel
theorem dX7_diggings_90 : decode cX7_diggings 90 = .ok (.getfield 69, 3) := by decide +kernel
theorem dX7_diggings_93 : decode cX7_diggings 93 = .ok (.iload 4, 2) := by decide +kernel
theorem dX7_diggings_95 : decode cX7_diggings 95 = .ok (.iaload, 1) := by decide +kernel
theorem dX7_diggings_96 : decode cX7_diggings 96 = .ok (.if_icmp .ne 7, 3) := by decide +kernel
theorem dX7_diggings_99 : decode cX7_diggings 99 = .ok (.iconst 1, 1) := by decide +kernel
theorem dX7_diggings_100 : decode cX7_diggings 100 = .ok (.goto 4, 3) := by decide +kernel
theorem dX7_diggings_103 : decode cX7_diggings 103 = .ok (.iconst 0, 1) := by decide +kernel
theorem dX7_diggings_104 : decode cX7_diggings 104 = .ok (.istore 5, 2) := by decide +kernel
theorem dX7_diggings_106 : decode cX7_diggings 106 = .ok (.iinc 6 1, 3) := by decide +kernel
theorem dX7_diggings_109 : decode cX7_diggings 109 = .ok (.goto (-39), 3) := by decide +kernel
theorem dX7_diggings_112 : decode cX7_diggings 112 = .ok (.aload_n 0, 1) := by decide +kernel
theorem dX7_diggings_113 : decode cX7_diggings 113 = .ok (.aload_n 0, 1) := by decide +kernel
theorem dX7_diggings_114 : decode cX7_diggings 114 = .ok (.getfield 69, 3) := by decide +kernel
theorem dX7_diggings_117 : decode cX7_diggings 117 = .ok (.iload 4, 2) := by decide +kernel
theorem dX7_diggings_119 : decode cX7_diggings 119 = .ok (.iaload, 1) := by decide +kernel
theorem dX7_diggings_120 : decode cX7_diggings 120 = .ok (.invokevirtual 114, 3) := by decide +kernel
theorem dX7_diggings_123 : decode cX7_diggings 123 = .ok (.ifCond .eq 8, 3) := by decide +kernel
theorem dX7_diggings_126 : decode cX7_diggings 126 = .ok (.iload 5, 2) := by decide +kernel
theorem dX7_diggings_128 : decode cX7_diggings 128 = .ok (.ifCond .eq 5, 3) := by decide +kernel
theorem dX7_diggings_131 : decode cX7_diggings 131 = .ok (.iconst (-1), 1) := by decide +kernel
theorem dX7_diggings_132 : decode cX7_diggings 132 = .ok (.ireturn, 1) := by decide +kernel
theorem dX7_diggings_133 : decode cX7_diggings 133 = .ok (.iinc 4 1, 3) := by decide +kernel
theorem dX7_diggings_136 : decode cX7_diggings 136 = .ok (.goto (-97), 3) := by decide +kernel
theorem dX7_diggings_139 : decode cX7_diggings 139 = .ok (.aload_n 0, 1) := by decide +kernel
theorem dX7_diggings_140 : decode cX7_diggings 140 = .ok (.getfield 51, 3) := by decide +kernel
theorem dX7_diggings_143 : decode cX7_diggings 143 = .ok (.iconst 0, 1) := by decide +kernel
theorem dX7_diggings_144 : decode cX7_diggings 144 = .ok (.iaload, 1) := by decide +kernel
theorem dX7_diggings_145 : decode cX7_diggings 145 = .ok (.aload_n 0, 1) := by decide +kernel
theorem dX7_diggings_146 : decode cX7_diggings 146 = .ok (.getfield 51, 3) := by decide +kernel
theorem dX7_diggings_149 : decode cX7_diggings 149 = .ok (.iconst 1, 1) := by decide +kernel
theorem dX7_diggings_150 : decode cX7_diggings 150 = .ok (.iaload, 1) := by decide +kernel
theorem dX7_diggings_151 : decode cX7_diggings 151 = .ok (.iadd, 1) := by decide +kernel
theorem dX7_diggings_152 : decode cX7_diggings 152 = .ok (.aload_n 0, 1) := by decide +kernel
theorem dX7_diggings_153 : decode cX7_diggings 153 = .ok (.getfield 51, 3) := by decide +kernel
theorem dX7_diggings_156 : decode cX7_diggings 156 = .ok (.iconst 2, 1) := by decide +kernel
theorem dX7_diggings_157 : decode cX7_diggings 157 = .ok (.iaload, 1) := by decide +kernel
theorem dX7_diggings_158 : decode cX7_diggings 158 = .ok (.iadd, 1) := by decide +kernel
theorem dX7_diggings_159 : decode cX7_diggings 159 = .ok (.aload_n 0, 1) := by decide +kernel
theorem dX7_diggings_160 : decode cX7_diggings 160 = .ok (.getfield 51, 3) := by decide +kernel
theorem dX7_diggings_163 : decode cX7_diggings 163 = .ok (.iconst 3, 1) := by decide +kernel
theorem dX7_diggings_164 : decode cX7_diggings 164 = .ok (.iaload, 1) := by decide +kernel
theorem dX7_diggings_165 : decode cX7_diggings 165 = .ok (.iadd, 1) := by decide +kernel
theorem dX7_diggings_166 : decode cX7_diggings 166 = .ok (.aload_n 0, 1) := by decide +kernel
theorem dX7_diggings_167 : decode cX7_diggings 167 = .ok (.getfield 51, 3) := by decide +kernel
theorem dX7_diggings_170 : decode cX7_diggings 170 = .ok (.iconst 4, 1) := by decide +kernel
theorem dX7_diggings_171 : decode cX7_diggings 171 = .ok (.iaload, 1) := by decide +kernel
theorem dX7_diggings_172 : decode cX7_diggings 172 = .ok (.iadd, 1) := by decide +kernel
theorem dX7_diggings_173 : decode cX7_diggings 173 = .ok (.bipush 10, 2) := by decide +kernel
theorem dX7_diggings_175 : decode cX7_diggings 175 = .ok (.if_icmp .gt 7, 3) := by decide +kernel
theorem dX7_diggings_178 : decode cX7_diggings 178 = .ok (.iconst 1, 1) := by decide +kernel
theorem dX7_diggings_179 : decode cX7_diggings 179 = .ok (.goto 4, 3) := by decide +kernel
theorem dX7_diggings_182 : decode cX7_diggings 182 = .ok (.iconst 0, 1) := by decide +kernel
theorem dX7_diggings_183 : decode cX7_diggings 183 = .ok (.istore 4, 2) := by decide +kernel
theorem dX7_diggings_185 : decode cX7_diggings 185 = .ok (.iconst 0, 1) := by decide +kernel
theorem dX7_diggings_186 : decode cX7_diggings 186 = .ok (.istore 5, 2) := by decide +kernel
theorem dX7_diggings_188 : decode cX7_diggings 188 = .ok (.iload 5, 2) := by decide +kernel
theorem dX7_diggings_190 : decode cX7_diggings 190 = .ok (.iload_n 1, 1) := by decide +kernel
theorem dX7_diggings_191 : decode cX7_diggings 191 = .ok (.if_icmp .ge 37, 3) := by decide +kernel
theorem dX7_diggings_194 : decode cX7_diggings 194 = .ok (.iload 4, 2) := by decide +kernel
theorem dX7_diggings_196 : decode cX7_diggings 196 = .ok (.ifCond .eq 23, 3) := by decide +kernel
theorem dX7_diggings_199 : decode cX7_diggings 199 = .ok (.aload_n 0, 1) := by decide +kernel
theorem dX7_diggings_200 : decode cX7_diggings 200 = .ok (.getfield 22, 3) := by decide +kernel
theorem dX7_diggings_203 : decode cX7_diggings 203 = .ok (.aload_n 0, 1) := by decide +kernel
theorem dX7_diggings_204 : decode cX7_diggings 204 = .ok (.getfield 69, 3) := by decide +kernel
theorem dX7_diggings_207 : decode cX7_diggings 207 = .ok (.iload 5, 2) := by decide +kernel
theorem dX7_diggings_209 : decode cX7_diggings 209 = .ok (.iaload, 1) := by decide +kernel
theorem dX7_diggings_210 : decode cX7_diggings 210 = .ok (.iaload, 1) := by decide +kernel
theorem dX7_diggings_211 : decode cX7_diggings 211 = .ok (.iconst 3, 1) := by decide +kernel
theorem dX7_diggings_212 : decode cX7_diggings 212 = .ok (.if_icmp .ne 7, 3) := by decide +kernel
theorem dX7_diggings_215 : decode cX7_diggings 215 = .ok (.iconst 1, 1) := by decide +kernel
theorem dX7_diggings_216 : decode cX7_diggings 216 = .ok (.goto 4, 3) := by decide +kernel
theorem dX7_diggings_219 : decode cX7_diggings 219 = .ok (.iconst 0, 1) := by decide +kernel
theorem dX7_diggings_220 : decode cX7_diggings 220 = .ok (.istore 4, 2) := by decide +kernel
theorem dX7_diggings_222 : decode cX7_diggings 222 = .ok (.iinc 5 1, 3) := by decide +kernel
theorem dX7_diggings_225 : decode cX7_diggings 225 = .ok (.goto (-37), 3) := by decide +kernel
theorem dX7_diggings_228 : decode cX7_diggings 228 = .ok (.iload 4, 2) := by decide +kernel
theorem dX7_diggings_230 : decode cX7_diggings 230 = .ok (.ifCond .ne 6, 3) := by decide +kernel
theorem dX7_diggings_233 : decode cX7_diggings 233 = .ok (.bipush (-2), 2) := by decide +kernel
theorem dX7_diggings_235 : decode cX7_diggings 235 = .ok (.ireturn, 1) := by decide +kernel
theorem dX7_diggings_236 : decode cX7_diggings 236 = .ok (.iconst 0, 1) := by decide +kernel
theorem dX7_diggings_237 : decode cX7_diggings 237 = .ok (.istore 5, 2) := by decide +kernel
theorem dX7_diggings_239 : decode cX7_diggings 239 = .ok (.aload_n 0, 1) := by decide +kernel
theorem dX7_diggings_240 : decode cX7_diggings 240 = .ok (.invokevirtual 179, 3) := by decide +kernel
theorem dX7_diggings_243 : decode cX7_diggings 243 = .ok (.aload_n 0, 1) := by decide +kernel
theorem dX7_diggings_244 : decode cX7_diggings 244 = .ok (.iload 5, 2) := by decide +kernel
theorem dX7_diggings_246 : decode cX7_diggings 246 = .ok (.invokevirtual 182, 3) := by decide +kernel
theorem dX7_diggings_249 : decode cX7_diggings 249 = .ok (.ifCond .ne 13, 3) := by decide +kernel
theorem dX7_diggings_252 : decode cX7_diggings 252 = .ok (.iinc 5 1, 3) := by decide +kernel
theorem dX7_diggings_255 : decode cX7_diggings 255 = .ok (.aload_n 0, 1) := by decide +kernel
theorem dX7_diggings_256 : decode cX7_diggings 256 = .ok (.invokevirtual 179, 3) := by decide +kernel
theorem dX7_diggings_259 : decode cX7_diggings 259 = .ok (.goto (-16), 3) := by decide +kernel
theorem dX7_diggings_262 : decode cX7_diggings 262 = .ok (.iload 5, 2) := by decide +kernel
theorem dX7_diggings_264 : decode cX7_diggings 264 = .ok (.ireturn, 1) := by decide +kernel
theorem dX7_front_0 : decode cX7_front 0 = .ok (.iconst 0, 1) := by decide +kernel
theorem dX7_front_1 : decode cX7_front 1 = .ok (.istore_n 1, 1) := by decide +kernel
theorem dX7_front_2 : decode cX7_front 2 = .ok (.iconst 0, 1) := by decide +kernel
theorem dX7_front_3 : decode cX7_front 3 = .ok (.istore_n 2, 1) := by decide +kernel
theorem dX7_front_4 : decode cX7_front 4 = .ok (.iload_n 2, 1) := by decide +kernel
theorem dX7_front_5 : decode cX7_front 5 = .ok (.aload_n 0, 1) := by decide +kernel
theorem dX7_front_6 : decode cX7_front 6 = .ok (.getfield 185, 3) := by decide +kernel
theorem dX7_front_9 : decode cX7_front 9 = .ok (.if_icmp .ge 30, 3) := by decide +kernel
theorem dX7_front_12 : decode cX7_front 12 = .ok (.iload_n 1, 1) := by decide +kernel
theorem dX7_front_13 : decode cX7_front 13 = .ok (.aload_n 0, 1) := by decide +kernel
theorem dX7_front_14 : decode cX7_front 14 = .ok (.getfield 16, 3) := by decide +kernel
theorem dX7_front_17 : decode cX7_front 17 = .ok (.aload_n 0, 1) := by decide +kernel
theorem dX7_front_18 : decode cX7_front 18 = .ok (.getfield 57, 3) := by decide +kernel
theorem dX7_front_21 : decode cX7_front 21 = .ok (.iload_n 2, 1) := by decide +kernel
theorem dX7_front_22 : decode cX7_front 22 = .ok (.iaload, 1) := by decide +kernel
theorem dX7_front_23 : decode cX7_front 23 = .ok (.iaload, 1) := by decide +kernel
theorem dX7_front_24 : decode cX7_front 24 = .ok (.bipush 8, 2) := by decide +kernel
theorem dX7_front_26 : decode cX7_front 26 = .ok (.iconst 2, 1) := by decide +kernel
theorem dX7_front_27 : decode cX7_front 27 = .ok (.iload_n 2, 1) := by decide +kernel
theorem dX7_front_28 : decode cX7_front 28 = .ok (.imul, 1) := by decide +kernel
theorem dX7_front_29 : decode cX7_front 29 = .ok (.isub, 1) := by decide +kernel
theorem dX7_front_30 : decode cX7_front 30 = .ok (.imul, 1) := by decide +kernel
theorem dX7_front_31 : decode cX7_front 31 = .ok (.iadd, 1) := by decide +kernel
theorem dX7_front_32 : decode cX7_front 32 = .ok (.istore_n 1, 1) := by decide +kernel
theorem dX7_front_33 : decode cX7_front 33 = .ok (.iinc 2 1, 3) := by decide +kernel
theorem dX7_front_36 : decode cX7_front 36 = .ok (.goto (-32), 3) := by decide +kernel
theorem dX7_front_39 : decode cX7_front 39 = .ok (.iload_n 1, 1) := by decide +kernel
theorem dX7_front_40 : decode cX7_front 40 = .ok (.ireturn, 1) := by decide +kernel
theorem dX7_rear_0 : decode cX7_rear 0 = .ok (.iconst 0, 1) := by decide +kernel
theorem dX7_rear_1 : decode cX7_rear 1 = .ok (.istore_n 1, 1) := by decide +kernel
theorem dX7_rear_2 : decode cX7_rear 2 = .ok (.iconst 0, 1) := by decide +kernel
theorem dX7_rear_3 : decode cX7_rear 3 = .ok (.istore_n 2, 1) := by decide +kernel
theorem dX7_rear_4 : decode cX7_rear 4 = .ok (.iload_n 2, 1) := by decide +kernel
theorem dX7_rear_5 : decode cX7_rear 5 = .ok (.aload_n 0, 1) := by decide +kernel
theorem dX7_rear_6 : decode cX7_rear 6 = .ok (.getfield 185, 3) := by decide +kernel
theorem dX7_rear_9 : decode cX7_rear 9 = .ok (.if_icmp .ge 29, 3) := by decide +kernel
theorem dX7_rear_12 : decode cX7_rear 12 = .ok (.iload_n 1, 1) := by decide +kernel
theorem dX7_rear_13 : decode cX7_rear 13 = .ok (.aload_n 0, 1) := by decide +kernel
theorem dX7_rear_14 : decode cX7_rear 14 = .ok (.getfield 16, 3) := by decide +kernel
theorem dX7_rear_17 : decode cX7_rear 17 = .ok (.aload_n 0, 1) := by decide +kernel
theorem dX7_rear_18 : decode cX7_rear 18 = .ok (.getfield 57, 3) := by decide +kernel
theorem dX7_rear_21 : decode cX7_rear 21 = .ok (.iload_n 2, 1) := by decide +kernel
theorem dX7_rear_22 : decode cX7_rear 22 = .ok (.iaload, 1) := by decide +kernel
theorem dX7_rear_23 : decode cX7_rear 23 = .ok (.iaload, 1) := by decide +kernel
theorem dX7_rear_24 : decode cX7_rear 24 = .ok (.iconst 2, 1) := by decide +kernel
theorem dX7_rear_25 : decode cX7_rear 25 = .ok (.iload_n 2, 1) := by decide +kernel
theorem dX7_rear_26 : decode cX7_rear 26 = .ok (.imul, 1) := by decide +kernel
theorem dX7_rear_27 : decode cX7_rear 27 = .ok (.iconst 1, 1) := by decide +kernel
theorem dX7_rear_28 : decode cX7_rear 28 = .ok (.iadd, 1) := by decide +kernel
theorem dX7_rear_29 : decode cX7_rear 29 = .ok (.imul, 1) := by decide +kernel
theorem dX7_rear_30 : decode cX7_rear 30 = .ok (.iadd, 1) := by decide +kernel
theorem dX7_rear_31 : decode cX7_rear 31 = .ok (.istore_n 1, 1) := by decide +kernel
theorem dX7_rear_32 : decode cX7_rear 32 = .ok (.iinc 2 1, 3) := by decide +kernel
theorem dX7_rear_35 : decode cX7_rear 35 = .ok (.goto (-31), 3) := by decide +kernel
theorem dX7_rear_38 : decode cX7_rear 38 = .ok (.iload_n 1, 1) := by decide +kernel
theorem dX7_rear_39 : decode cX7_rear 39 = .ok (.ireturn, 1) := by decide +kernel
theorem dX7_heavy_0 : decode cX7_heavy 0 = .ok (.iconst 0, 1) := by decide +kernel
theorem dX7_heavy_1 : decode cX7_heavy 1 = .ok (.istore_n 1, 1) := by decide +kernel
theorem dX7_heavy_2 : decode cX7_heavy 2 = .ok (.iconst 0, 1) := by decide +kernel
theorem dX7_heavy_3 : decode cX7_heavy 3 = .ok (.istore_n 2, 1) := by decide +kernel
theorem dX7_heavy_4 : decode cX7_heavy 4 = .ok (.iload_n 2, 1) := by decide +kernel
theorem dX7_heavy_5 : decode cX7_heavy 5 = .ok (.aload_n 0, 1) := by decide +kernel
theorem dX7_heavy_6 : decode cX7_heavy 6 = .ok (.getfield 185, 3) := by decide +kernel
theorem dX7_heavy_9 : decode cX7_heavy 9 = .ok (.if_icmp .ge 23, 3) := by decide +kernel
theorem dX7_heavy_12 : decode cX7_heavy 12 = .ok (.iload_n 1, 1) := by decide +kernel
theorem dX7_heavy_13 : decode cX7_heavy 13 = .ok (.aload_n 0, 1) := by decide +kernel
theorem dX7_heavy_14 : decode cX7_heavy 14 = .ok (.getfield 16, 3) := by decide +kernel
theorem dX7_heavy_17 : decode cX7_heavy 17 = .ok (.aload_n 0, 1) := by decide +kernel
theorem dX7_heavy_18 : decode cX7_heavy 18 = .ok (.getfield 57, 3) := by decide +kernel
theorem dX7_heavy_21 : decode cX7_heavy 21 = .ok (.iload_n 2, 1) := by decide +kernel
theorem dX7_heavy_22 : decode cX7_heavy 22 = .ok (.iaload, 1) := by decide +kernel
theorem dX7_heavy_23 : decode cX7_heavy 23 = .ok (.iaload, 1) := by decide +kernel
theorem dX7_heavy_24 : decode cX7_heavy 24 = .ok (.iadd, 1) := by decide +kernel
theorem dX7_heavy_25 : decode cX7_heavy 25 = .ok (.istore_n 1, 1) := by decide +kernel
theorem dX7_heavy_26 : decode cX7_heavy 26 = .ok (.iinc 2 1, 3) := by decide +kernel
theorem dX7_heavy_29 : decode cX7_heavy 29 = .ok (.goto (-25), 3) := by decide +kernel
theorem dX7_heavy_32 : decode cX7_heavy 32 = .ok (.iload_n 1, 1) := by decide +kernel
theorem dX7_heavy_33 : decode cX7_heavy 33 = .ok (.ireturn, 1) := by decide +kernel
theorem dX7_load_0 : decode cX7_load 0 = .ok (.iload_n 1, 1) := by decide +kernel
theorem dX7_load_1 : decode cX7_load 1 = .ok (.invokestatic 148, 3) := by decide +kernel
theorem dX7_load_4 : decode cX7_load 4 = .ok (.ifCond .ne 5, 3) := by decide +kernel
theorem dX7_load_7 : decode cX7_load 7 = .ok (.iconst (-1), 1) := by decide +kernel
theorem dX7_load_8 : decode cX7_load 8 = .ok (.ireturn, 1) := by decide +kernel
theorem dX7_load_9 : decode cX7_load 9 = .ok (.aload_n 0, 1) := by decide +kernel
theorem dX7_load_10 : decode cX7_load 10 = .ok (.getfield 51, 3) := by decide +kernel
theorem dX7_load_13 : decode cX7_load 13 = .ok (.iload_n 1, 1) := by decide +kernel
theorem dX7_load_14 : decode cX7_load 14 = .ok (.iaload, 1) := by decide +kernel
theorem dX7_load_15 : decode cX7_load 15 = .ok (.ifCond .ne 6, 3) := by decide +kernel
theorem dX7_load_18 : decode cX7_load 18 = .ok (.bipush (-2), 2) := by decide +kernel
theorem dX7_load_20 : decode cX7_load 20 = .ok (.ireturn, 1) := by decide +kernel
theorem dX7_load_21 : decode cX7_load 21 = .ok (.aload_n 0, 1) := by decide +kernel
theorem dX7_load_22 : decode cX7_load 22 = .ok (.getfield 185, 3) := by decide +kernel
theorem dX7_load_25 : decode cX7_load 25 = .ok (.iconst 4, 1) := by decide +kernel
theorem dX7_load_26 : decode cX7_load 26 = .ok (.if_icmp .ne 6, 3) := by decide +kernel
theorem dX7_load_29 : decode cX7_load 29 = .ok (.bipush (-3), 2) := by decide +kernel
theorem dX7_load_31 : decode cX7_load 31 = .ok (.ireturn, 1) := by decide +kernel
theorem dX7_load_32 : decode cX7_load 32 = .ok (.aload_n 0, 1) := by decide +kernel
theorem dX7_load_33 : decode cX7_load 33 = .ok (.getfield 54, 3) := by decide +kernel
theorem dX7_load_36 : decode cX7_load 36 = .ok (.iconst 4, 1) := by decide +kernel
theorem dX7_load_37 : decode cX7_load 37 = .ok (.iload_n 1, 1) := by decide +kernel
theorem dX7_load_38 : decode cX7_load 38 = .ok (.imul, 1) := by decide +kernel
theorem dX7_load_39 : decode cX7_load 39 = .ok (.aload_n 0, 1) := by decide +kernel
theorem dX7_load_40 : decode cX7_load 40 = .ok (.getfield 51, 3) := by decide +kernel
theorem dX7_load_43 : decode cX7_load 43 = .ok (.iload_n 1, 1) := by decide +kernel
theorem dX7_load_44 : decode cX7_load 44 = .ok (.iaload, 1) := by decide +kernel
theorem dX7_load_45 : decode cX7_load 45 = .ok (.iadd, 1) := by decide +kernel
theorem dX7_load_46 : decode cX7_load 46 = .ok (.iconst 1, 1) := by decide +kernel
theorem dX7_load_47 : decode cX7_load 47 = .ok (.isub, 1) := by decide +kernel
theorem dX7_load_48 : decode cX7_load 48 = .ok (.iaload, 1) := by decide +kernel
theorem dX7_load_49 : decode cX7_load 49 = .ok (.istore_n 2, 1) := by decide +kernel
theorem dX7_load_50 : decode cX7_load 50 = .ok (.aload_n 0, 1) := by decide +kernel
theorem dX7_load_51 : decode cX7_load 51 = .ok (.getfield 57, 3) := by decide +kernel
theorem dX7_load_54 : decode cX7_load 54 = .ok (.aload_n 0, 1) := by decide +kernel
theorem dX7_load_55 : decode cX7_load 55 = .ok (.getfield 185, 3) := by decide +kernel
theorem dX7_load_58 : decode cX7_load 58 = .ok (.iload_n 2, 1) := by decide +kernel
theorem dX7_load_59 : decode cX7_load 59 = .ok (.iastore, 1) := by decide +kernel
theorem dX7_load_60 : decode cX7_load 60 = .ok (.aload_n 0, 1) := by decide +kernel
theorem dX7_load_61 : decode cX7_load 61 = .ok (.dup, 1) := by decide +kernel
theorem dX7_load_62 : decode cX7_load 62 = .ok (.getfield 185, 3) := by decide +kernel
theorem dX7_load_65 : decode cX7_load 65 = .ok (.iconst 1, 1) := by decide +kernel
theorem dX7_load_66 : decode cX7_load 66 = .ok (.iadd, 1) := by decide +kernel
theorem dX7_load_67 : decode cX7_load 67 = .ok (.putfield 185, 3) := by decide +kernel
theorem dX7_load_70 : decode cX7_load 70 = .ok (.aload_n 0, 1) := by decide +kernel
theorem dX7_load_71 : decode cX7_load 71 = .ok (.invokevirtual 188, 3) := by decide +kernel
theorem dX7_load_74 : decode cX7_load 74 = .ok (.bipush 120, 2) := by decide +kernel
theorem dX7_load_76 : decode cX7_load 76 = .ok (.if_icmp .gt 23, 3) := by decide +kernel
theorem dX7_load_79 : decode cX7_load 79 = .ok (.aload_n 0, 1) := by decide +kernel
theorem dX7_load_80 : decode cX7_load 80 = .ok (.invokevirtual 191, 3) := by decide +kernel
theorem dX7_load_83 : decode cX7_load 83 = .ok (.sipush 720, 3) := by decide +kernel
theorem dX7_load_86 : decode cX7_load 86 = .ok (.if_icmp .gt 13, 3) := by decide +kernel
theorem dX7_load_89 : decode cX7_load 89 = .ok (.aload_n 0, 1) := by decide +kernel
theorem dX7_load_90 : decode cX7_load 90 = .ok (.invokevirtual 194, 3) := by decide +kernel
theorem dX7_load_93 : decode cX7_load 93 = .ok (.sipush 720, 3) := by decide +kernel
theorem dX7_load_96 : decode cX7_load 96 = .ok (.if_icmp .le 16, 3) := by decide +kernel
theorem dX7_load_99 : decode cX7_load 99 = .ok (.aload_n 0, 1) := by decide +kernel
theorem dX7_load_100 : decode cX7_load 100 = .ok (.dup, 1) := by decide +kernel
theorem dX7_load_101 : decode cX7_load 101 = .ok (.getfield 185, 3) := by decide +kernel
theorem dX7_load_104 : decode cX7_load 104 = .ok (.iconst 1, 1) := by decide +kernel
theorem dX7_load_105 : decode cX7_load 105 = .ok (.isub, 1) := by decide +kernel
theorem dX7_load_106 : decode cX7_load 106 = .ok (.putfield 185, 3) := by decide +kernel
theorem dX7_load_109 : decode cX7_load 109 = .ok (.bipush (-2), 2) := by decide +kernel
theorem dX7_load_111 : decode cX7_load 111 = .ok (.ireturn, 1) := by decide +kernel
theorem dX7_load_112 : decode cX7_load 112 = .ok (.aload_n 0, 1) := by decide +kernel
theorem dX7_load_113 : decode cX7_load 113 = .ok (.getfield 51, 3) := by decide +kernel
theorem dX7_load_116 : decode cX7_load 116 = .ok (.iload_n 1, 1) := by decide +kernel
theorem dX7_load_117 : decode cX7_load 117 = .ok (.dup2, 1) := by decide +kernel
theorem dX7_load_118 : decode cX7_load 118 = .ok (.iaload, 1) := by decide +kernel
theorem dX7_load_119 : decode cX7_load 119 = .ok (.iconst 1, 1) := by decide +kernel
theorem dX7_load_120 : decode cX7_load 120 = .ok (.isub, 1) := by decide +kernel
theorem dX7_load_121 : decode cX7_load 121 = .ok (.iastore, 1) := by decide +kernel
theorem dX7_load_122 : decode cX7_load 122 = .ok (.aload_n 0, 1) := by decide +kernel
theorem dX7_load_123 : decode cX7_load 123 = .ok (.getfield 22, 3) := by decide +kernel
theorem dX7_load_126 : decode cX7_load 126 = .ok (.iload_n 2, 1) := by decide +kernel
theorem dX7_load_127 : decode cX7_load 127 = .ok (.bipush 6, 2) := by decide +kernel
theorem dX7_load_129 : decode cX7_load 129 = .ok (.iastore, 1) := by decide +kernel
theorem dX7_load_130 : decode cX7_load 130 = .ok (.aload_n 0, 1) := by decide +kernel
theorem dX7_load_131 : decode cX7_load 131 = .ok (.getfield 25, 3) := by decide +kernel
theorem dX7_load_134 : decode cX7_load 134 = .ok (.iload_n 2, 1) := by decide +kernel
theorem dX7_load_135 : decode cX7_load 135 = .ok (.bipush (-4), 2) := by decide +kernel
theorem dX7_load_137 : decode cX7_load 137 = .ok (.iastore, 1) := by decide +kernel
theorem dX7_load_138 : decode cX7_load 138 = .ok (.aload_n 0, 1) := by decide +kernel
theorem dX7_load_139 : decode cX7_load 139 = .ok (.iload_n 1, 1) := by decide +kernel
theorem dX7_load_140 : decode cX7_load 140 = .ok (.invokevirtual 155, 3) := by decide +kernel
theorem dX7_load_143 : decode cX7_load 143 = .ok (.aload_n 0, 1) := by decide +kernel
theorem dX7_load_144 : decode cX7_load 144 = .ok (.getfield 185, 3) := by decide +kernel
theorem dX7_load_147 : decode cX7_load 147 = .ok (.iconst 1, 1) := by decide +kernel
theorem dX7_load_148 : decode cX7_load 148 = .ok (.isub, 1) := by decide +kernel
theorem dX7_load_149 : decode cX7_load 149 = .ok (.ireturn, 1) := by decide +kernel
theorem dX7_go_0 : decode cX7_go 0 = .ok (.aload_n 0, 1) := by decide +kernel
theorem dX7_go_1 : decode cX7_go 1 = .ok (.getfield 185, 3) := by decide +kernel
theorem dX7_go_4 : decode cX7_go 4 = .ok (.ifCond .ne 6, 3) := by decide +kernel
theorem dX7_go_7 : decode cX7_go 7 = .ok (.bipush (-2), 2) := by decide +kernel
theorem dX7_go_9 : decode cX7_go 9 = .ok (.ireturn, 1) := by decide +kernel
theorem dX7_go_10 : decode cX7_go 10 = .ok (.aload_n 0, 1) := by decide +kernel
theorem dX7_go_11 : decode cX7_go 11 = .ok (.getfield 185, 3) := by decide +kernel
theorem dX7_go_14 : decode cX7_go 14 = .ok (.istore_n 1, 1) := by decide +kernel
theorem dX7_go_15 : decode cX7_go 15 = .ok (.iconst 0, 1) := by decide +kernel
theorem dX7_go_16 : decode cX7_go 16 = .ok (.istore_n 2, 1) := by decide +kernel
theorem dX7_go_17 : decode cX7_go 17 = .ok (.iload_n 2, 1) := by decide +kernel
theorem dX7_go_18 : decode cX7_go 18 = .ok (.iload_n 1, 1) := by decide +kernel
theorem dX7_go_19 : decode cX7_go 19 = .ok (.if_icmp .ge 36, 3) := by decide +kernel
theorem dX7_go_22 : decode cX7_go 22 = .ok (.aload_n 0, 1) := by decide +kernel
theorem dX7_go_23 : decode cX7_go 23 = .ok (.getfield 22, 3) := by decide +kernel
theorem dX7_go_26 : decode cX7_go 26 = .ok (.aload_n 0, 1) := by decide +kernel
theorem dX7_go_27 : decode cX7_go 27 = .ok (.getfield 57, 3) := by decide +kernel
theorem dX7_go_30 : decode cX7_go 30 = .ok (.iload_n 2, 1) := by decide +kernel
theorem dX7_go_31 : decode cX7_go 31 = .ok (.iaload, 1) := by decide +kernel
theorem dX7_go_32 : decode cX7_go 32 = .ok (.iconst 4, 1) := by decide +kernel
theorem dX7_go_33 : decode cX7_go 33 = .ok (.iastore, 1) := by decide +kernel
theorem dX7_go_34 : decode cX7_go 34 = .ok (.aload_n 0, 1) := by decide +kernel
theorem dX7_go_35 : decode cX7_go 35 = .ok (.getfield 25, 3) := by decide +kernel
theorem dX7_go_38 : decode cX7_go 38 = .ok (.aload_n 0, 1) := by decide +kernel
theorem dX7_go_39 : decode cX7_go 39 = .ok (.getfield 57, 3) := by decide +kernel
theorem dX7_go_42 : decode cX7_go 42 = .ok (.iload_n 2, 1) := by decide +kernel
theorem dX7_go_43 : decode cX7_go 43 = .ok (.iaload, 1) := by decide +kernel
theorem dX7_go_44 : decode cX7_go 44 = .ok (.aload_n 0, 1) := by decide +kernel
theorem dX7_go_45 : decode cX7_go 45 = .ok (.getfield 197, 3) := by decide +kernel
theorem dX7_go_48 : decode cX7_go 48 = .ok (.iastore, 1) := by decide +kernel
theorem dX7_go_49 : decode cX7_go 49 = .ok (.iinc 2 1, 3) := by decide +kernel
theorem dX7_go_52 : decode cX7_go 52 = .ok (.goto (-35), 3) := by decide +kernel
theorem dX7_go_55 : decode cX7_go 55 = .ok (.aload_n 0, 1) := by decide +kernel
theorem dX7_go_56 : decode cX7_go 56 = .ok (.iconst 0, 1) := by decide +kernel
theorem dX7_go_57 : decode cX7_go 57 = .ok (.putfield 185, 3) := by decide +kernel
theorem dX7_go_60 : decode cX7_go 60 = .ok (.aload_n 0, 1) := by decide +kernel
theorem dX7_go_61 : decode cX7_go 61 = .ok (.dup, 1) := by decide +kernel
theorem dX7_go_62 : decode cX7_go 62 = .ok (.getfield 197, 3) := by decide +kernel
theorem dX7_go_65 : decode cX7_go 65 = .ok (.iconst 1, 1) := by decide +kernel
theorem dX7_go_66 : decode cX7_go 66 = .ok (.iadd, 1) := by decide +kernel
theorem dX7_go_67 : decode cX7_go 67 = .ok (.putfield 197, 3) := by decide +kernel
theorem dX7_go_70 : decode cX7_go 70 = .ok (.iload_n 1, 1) := by decide +kernel
theorem dX7_go_71 : decode cX7_go 71 = .ok (.ireturn, 1) := by decide +kernel
theorem dX7_lorry_0 : decode cX7_lorry 0 = .ok (.iload_n 1, 1) := by decide +kernel
theorem dX7_lorry_1 : decode cX7_lorry 1 = .ok (.tableswitch 68 0 4 #[35, 40, 45, 50, 55], 35) := by decide +kernel
theorem dX7_lorry_36 : decode cX7_lorry 36 = .ok (.aload_n 0, 1) := by decide +kernel
theorem dX7_lorry_37 : decode cX7_lorry 37 = .ok (.getfield 185, 3) := by decide +kernel
theorem dX7_lorry_40 : decode cX7_lorry 40 = .ok (.ireturn, 1) := by decide +kernel
theorem dX7_lorry_41 : decode cX7_lorry 41 = .ok (.aload_n 0, 1) := by decide +kernel
theorem dX7_lorry_42 : decode cX7_lorry 42 = .ok (.invokevirtual 188, 3) := by decide +kernel
theorem dX7_lorry_45 : decode cX7_lorry 45 = .ok (.ireturn, 1) := by decide +kernel
theorem dX7_lorry_46 : decode cX7_lorry 46 = .ok (.aload_n 0, 1) := by decide +kernel
theorem dX7_lorry_47 : decode cX7_lorry 47 = .ok (.invokevirtual 191, 3) := by decide +kernel
theorem dX7_lorry_50 : decode cX7_lorry 50 = .ok (.ireturn, 1) := by decide +kernel
theorem dX7_lorry_51 : decode cX7_lorry 51 = .ok (.aload_n 0, 1) := by decide +kernel
theorem dX7_lorry_52 : decode cX7_lorry 52 = .ok (.invokevirtual 194, 3) := by decide +kernel
theorem dX7_lorry_55 : decode cX7_lorry 55 = .ok (.ireturn, 1) := by decide +kernel
theorem dX7_lorry_56 : decode cX7_lorry 56 = .ok (.aload_n 0, 1) := by decide +kernel
theorem dX7_lorry_57 : decode cX7_lorry 57 = .ok (.invokevirtual 200, 3) := by decide +kernel
theorem dX7_lorry_60 : decode cX7_lorry 60 = .ok (.ifCond .eq 7, 3) := by decide +kernel
theorem dX7_lorry_63 : decode cX7_lorry 63 = .ok (.iconst 1, 1) := by decide +kernel
theorem dX7_lorry_64 : decode cX7_lorry 64 = .ok (.goto 4, 3) := by decide +kernel
theorem dX7_lorry_67 : decode cX7_lorry 67 = .ok (.iconst 0, 1) := by decide +kernel
theorem dX7_lorry_68 : decode cX7_lorry 68 = .ok (.ireturn, 1) := by decide +kernel
theorem dX7_lorry_69 : decode cX7_lorry 69 = .ok (.iconst (-1), 1) := by decide +kernel
theorem dX7_lorry_70 : decode cX7_lorry 70 = .ok (.ireturn, 1) := by decide +kernel
theorem dX7_isRight_0 : decode cX7_isRight 0 = .ok (.iconst 1, 1) := by decide +kernel
theorem dX7_isRight_1 : decode cX7_isRight 1 = .ok (.istore_n 1, 1) := by decide +kernel
theorem dX7_isRight_2 : decode cX7_isRight 2 = .ok (.aload_n 0, 1) := by decide +kernel
theorem dX7_isRight_3 : decode cX7_isRight 3 = .ok (.getfield 185, 3) := by decide +kernel
theorem dX7_isRight_6 : decode cX7_isRight 6 = .ok (.iconst 1, 1) := by decide +kernel
theorem dX7_isRight_7 : decode cX7_isRight 7 = .ok (.isub, 1) := by decide +kernel
theorem dX7_isRight_8 : decode cX7_isRight 8 = .ok (.istore_n 2, 1) := by decide +kernel
theorem dX7_isRight_9 : decode cX7_isRight 9 = .ok (.iload_n 2, 1) := by decide +kernel
theorem dX7_isRight_10 : decode cX7_isRight 10 = .ok (.ifCond .le 46, 3) := by decide +kernel
theorem dX7_isRight_13 : decode cX7_isRight 13 = .ok (.iload_n 1, 1) := by decide +kernel
theorem dX7_isRight_14 : decode cX7_isRight 14 = .ok (.ifCond .eq 34, 3) := by decide +kernel
theorem dX7_isRight_17 : decode cX7_isRight 17 = .ok (.aload_n 0, 1) := by decide +kernel
theorem dX7_isRight_18 : decode cX7_isRight 18 = .ok (.getfield 19, 3) := by decide +kernel
theorem dX7_isRight_21 : decode cX7_isRight 21 = .ok (.aload_n 0, 1) := by decide +kernel
theorem dX7_isRight_22 : decode cX7_isRight 22 = .ok (.getfield 57, 3) := by decide +kernel
theorem dX7_isRight_25 : decode cX7_isRight 25 = .ok (.iload_n 2, 1) := by decide +kernel
theorem dX7_isRight_26 : decode cX7_isRight 26 = .ok (.iaload, 1) := by decide +kernel
theorem dX7_isRight_27 : decode cX7_isRight 27 = .ok (.iaload, 1) := by decide +kernel
theorem dX7_isRight_28 : decode cX7_isRight 28 = .ok (.aload_n 0, 1) := by decide +kernel
theorem dX7_isRight_29 : decode cX7_isRight 29 = .ok (.getfield 19, 3) := by decide +kernel
theorem dX7_isRight_32 : decode cX7_isRight 32 = .ok (.aload_n 0, 1) := by decide +kernel
theorem dX7_isRight_33 : decode cX7_isRight 33 = .ok (.getfield 57, 3) := by decide +kernel
theorem dX7_isRight_36 : decode cX7_isRight 36 = .ok (.iload_n 2, 1) := by decide +kernel
theorem dX7_isRight_37 : decode cX7_isRight 37 = .ok (.iconst 1, 1) := by decide +kernel
theorem dX7_isRight_38 : decode cX7_isRight 38 = .ok (.isub, 1) := by decide +kernel
theorem dX7_isRight_39 : decode cX7_isRight 39 = .ok (.iaload, 1) := by decide +kernel
theorem dX7_isRight_40 : decode cX7_isRight 40 = .ok (.iaload, 1) := by decide +kernel
theorem dX7_isRight_41 : decode cX7_isRight 41 = .ok (.if_icmp .gt 7, 3) := by decide +kernel
theorem dX7_isRight_44 : decode cX7_isRight 44 = .ok (.iconst 1, 1) := by decide +kernel
theorem dX7_isRight_45 : decode cX7_isRight 45 = .ok (.goto 4, 3) := by decide +kernel
theorem dX7_isRight_48 : decode cX7_isRight 48 = .ok (.iconst 0, 1) := by decide +kernel
theorem dX7_isRight_49 : decode cX7_isRight 49 = .ok (.istore_n 1, 1) := by decide +kernel
theorem dX7_isRight_50 : decode cX7_isRight 50 = .ok (.iinc 2 (-1), 3) := by decide +kernel
theorem dX7_isRight_53 : decode cX7_isRight 53 = .ok (.goto (-44), 3) := by decide +kernel
theorem dX7_isRight_56 : decode cX7_isRight 56 = .ok (.iload_n 1, 1) := by decide +kernel
theorem dX7_isRight_57 : decode cX7_isRight 57 = .ok (.ireturn, 1) := by decide +kernel
theorem dX7_change_0 : decode cX7_change 0 = .ok (.aload_n 0, 1) := by decide +kernel
theorem dX7_change_1 : decode cX7_change 1 = .ok (.iload_n 1, 1) := by decide +kernel
theorem dX7_change_2 : decode cX7_change 2 = .ok (.invokevirtual 114, 3) := by decide +kernel
theorem dX7_change_5 : decode cX7_change 5 = .ok (.ifCond .eq 13, 3) := by decide +kernel
theorem dX7_change_8 : decode cX7_change 8 = .ok (.iload_n 2, 1) := by decide +kernel
theorem dX7_change_9 : decode cX7_change 9 = .ok (.iload_n 3, 1) := by decide +kernel
theorem dX7_change_10 : decode cX7_change 10 = .ok (.iload 4, 2) := by decide +kernel
theorem dX7_change_12 : decode cX7_change 12 = .ok (.invokestatic 106, 3) := by decide +kernel
theorem dX7_change_15 : decode cX7_change 15 = .ok (.ifCond .ne 5, 3) := by decide +kernel
theorem dX7_change_18 : decode cX7_change 18 = .ok (.iconst (-1), 1) := by decide +kernel
theorem dX7_change_19 : decode cX7_change 19 = .ok (.ireturn, 1) := by decide +kernel
theorem dX7_change_20 : decode cX7_change 20 = .ok (.aload_n 0, 1) := by decide +kernel
theorem dX7_change_21 : decode cX7_change 21 = .ok (.getfield 22, 3) := by decide +kernel
theorem dX7_change_24 : decode cX7_change 24 = .ok (.iload_n 1, 1) := by decide +kernel
theorem dX7_change_25 : decode cX7_change 25 = .ok (.iaload, 1) := by decide +kernel
theorem dX7_change_26 : decode cX7_change 26 = .ok (.istore 5, 2) := by decide +kernel
theorem dX7_change_28 : decode cX7_change 28 = .ok (.iload 5, 2) := by decide +kernel
theorem dX7_change_30 : decode cX7_change 30 = .ok (.iconst 4, 1) := by decide +kernel
theorem dX7_change_31 : decode cX7_change 31 = .ok (.if_icmp .eq 25, 3) := by decide +kernel
theorem dX7_change_34 : decode cX7_change 34 = .ok (.iload 5, 2) := by decide +kernel
theorem dX7_change_36 : decode cX7_change 36 = .ok (.bipush 6, 2) := by decide +kernel
theorem dX7_change_38 : decode cX7_change 38 = .ok (.if_icmp .eq 18, 3) := by decide +kernel
theorem dX7_change_41 : decode cX7_change 41 = .ok (.iload 5, 2) := by decide +kernel
theorem dX7_change_43 : decode cX7_change 43 = .ok (.iconst 5, 1) := by decide +kernel
theorem dX7_change_44 : decode cX7_change 44 = .ok (.if_icmp .eq 12, 3) := by decide +kernel
theorem dX7_change_47 : decode cX7_change 47 = .ok (.aload_n 0, 1) := by decide +kernel
theorem dX7_change_48 : decode cX7_change 48 = .ok (.getfield 31, 3) := by decide +kernel
theorem dX7_change_51 : decode cX7_change 51 = .ok (.iload_n 1, 1) := by decide +kernel
theorem dX7_change_52 : decode cX7_change 52 = .ok (.baload, 1) := by decide +kernel
theorem dX7_change_53 : decode cX7_change 53 = .ok (.ifCond .eq 6, 3) := by decide +kernel
theorem dX7_change_56 : decode cX7_change 56 = .ok (.bipush (-2), 2) := by decide +kernel
theorem dX7_change_58 : decode cX7_change 58 = .ok (.ireturn, 1) := by decide +kernel
theorem dX7_change_59 : decode cX7_change 59 = .ok (.aload_n 0, 1) := by decide +kernel
theorem dX7_change_60 : decode cX7_change 60 = .ok (.getfield 7, 3) := by decide +kernel
theorem dX7_change_63 : decode cX7_change 63 = .ok (.iload_n 1, 1) := by decide +kernel
theorem dX7_change_64 : decode cX7_change 64 = .ok (.iaload, 1) := by decide +kernel
theorem dX7_change_65 : decode cX7_change 65 = .ok (.iload_n 2, 1) := by decide +kernel
theorem dX7_change_66 : decode cX7_change 66 = .ok (.if_icmp .ne 26, 3) := by decide +kernel
theorem dX7_change_69 : decode cX7_change 69 = .ok (.aload_n 0, 1) := by decide +kernel
theorem dX7_change_70 : decode cX7_change 70 = .ok (.getfield 13, 3) := by decide +kernel
theorem dX7_change_73 : decode cX7_change 73 = .ok (.iload_n 1, 1) := by decide +kernel
theorem dX7_change_74 : decode cX7_change 74 = .ok (.iaload, 1) := by decide +kernel
theorem dX7_change_75 : decode cX7_change 75 = .ok (.iload_n 3, 1) := by decide +kernel
theorem dX7_change_76 : decode cX7_change 76 = .ok (.if_icmp .ne 16, 3) := by decide +kernel
theorem dX7_change_79 : decode cX7_change 79 = .ok (.aload_n 0, 1) := by decide +kernel
theorem dX7_change_80 : decode cX7_change 80 = .ok (.getfield 16, 3) := by decide +kernel
theorem dX7_change_83 : decode cX7_change 83 = .ok (.iload_n 1, 1) := by decide +kernel
theorem dX7_change_84 : decode cX7_change 84 = .ok (.iaload, 1) := by decide +kernel
theorem dX7_change_85 : decode cX7_change 85 = .ok (.iload 4, 2) := by decide +kernel
theorem dX7_change_87 : decode cX7_change 87 = .ok (.if_icmp .ne 5, 3) := by decide +kernel
theorem dX7_change_90 : decode cX7_change 90 = .ok (.iconst 2, 1) := by decide +kernel
theorem dX7_change_91 : decode cX7_change 91 = .ok (.ireturn, 1) := by decide +kernel
theorem dX7_change_92 : decode cX7_change 92 = .ok (.iload 5, 2) := by decide +kernel
theorem dX7_change_94 : decode cX7_change 94 = .ok (.ifCond .ne 14, 3) := by decide +kernel
theorem dX7_change_97 : decode cX7_change 97 = .ok (.aload_n 0, 1) := by decide +kernel
theorem dX7_change_98 : decode cX7_change 98 = .ok (.iload_n 1, 1) := by decide +kernel
theorem dX7_change_99 : decode cX7_change 99 = .ok (.iload_n 2, 1) := by decide +kernel
theorem dX7_change_100 : decode cX7_change 100 = .ok (.iload_n 3, 1) := by decide +kernel
theorem dX7_change_101 : decode cX7_change 101 = .ok (.iload 4, 2) := by decide +kernel
theorem dX7_change_103 : decode cX7_change 103 = .ok (.invokevirtual 204, 3) := by decide +kernel
theorem dX7_change_106 : decode cX7_change 106 = .ok (.iconst 0, 1) := by decide +kernel
theorem dX7_change_107 : decode cX7_change 107 = .ok (.ireturn, 1) := by decide +kernel
theorem dX7_change_108 : decode cX7_change 108 = .ok (.aload_n 0, 1) := by decide +kernel
theorem dX7_change_109 : decode cX7_change 109 = .ok (.getfield 13, 3) := by decide +kernel
theorem dX7_change_112 : decode cX7_change 112 = .ok (.iload_n 1, 1) := by decide +kernel
theorem dX7_change_113 : decode cX7_change 113 = .ok (.iaload, 1) := by decide +kernel
theorem dX7_change_114 : decode cX7_change 114 = .ok (.iload_n 3, 1) := by decide +kernel
theorem dX7_change_115 : decode cX7_change 115 = .ok (.if_icmp .ne 44, 3) := by decide +kernel
theorem dX7_change_118 : decode cX7_change 118 = .ok (.iload_n 2, 1) := by decide +kernel
theorem dX7_change_119 : decode cX7_change 119 = .ok (.aload_n 0, 1) := by decide +kernel
theorem dX7_change_120 : decode cX7_change 120 = .ok (.getfield 7, 3) := by decide +kernel
theorem dX7_change_123 : decode cX7_change 123 = .ok (.iload_n 1, 1) := by decide +kernel
theorem dX7_change_124 : decode cX7_change 124 = .ok (.iaload, 1) := by decide +kernel
theorem dX7_change_125 : decode cX7_change 125 = .ok (.if_icmp .ge 34, 3) := by decide +kernel
theorem dX7_change_128 : decode cX7_change 128 = .ok (.iload 4, 2) := by decide +kernel
theorem dX7_change_130 : decode cX7_change 130 = .ok (.aload_n 0, 1) := by decide +kernel
theorem dX7_change_131 : decode cX7_change 131 = .ok (.getfield 16, 3) := by decide +kernel
theorem dX7_change_134 : decode cX7_change 134 = .ok (.iload_n 1, 1) := by decide +kernel
theorem dX7_change_135 : decode cX7_change 135 = .ok (.iaload, 1) := by decide +kernel
theorem dX7_change_136 : decode cX7_change 136 = .ok (.if_icmp .gt 23, 3) := by decide +kernel
theorem dX7_change_139 : decode cX7_change 139 = .ok (.iload 5, 2) := by decide +kernel
theorem dX7_change_141 : decode cX7_change 141 = .ok (.iconst 2, 1) := by decide +kernel
theorem dX7_change_142 : decode cX7_change 142 = .ok (.if_icmp .eq 6, 3) := by decide +kernel
theorem dX7_change_145 : decode cX7_change 145 = .ok (.bipush (-2), 2) := by decide +kernel
theorem dX7_change_147 : decode cX7_change 147 = .ok (.ireturn, 1) := by decide +kernel
theorem dX7_change_148 : decode cX7_change 148 = .ok (.aload_n 0, 1) := by decide +kernel
theorem dX7_change_149 : decode cX7_change 149 = .ok (.iload_n 1, 1) := by decide +kernel
theorem dX7_change_150 : decode cX7_change 150 = .ok (.iload_n 2, 1) := by decide +kernel
theorem dX7_change_151 : decode cX7_change 151 = .ok (.iload_n 3, 1) := by decide +kernel
theorem dX7_change_152 : decode cX7_change 152 = .ok (.iload 4, 2) := by decide +kernel
theorem dX7_change_154 : decode cX7_change 154 = .ok (.invokevirtual 204, 3) := by decide +kernel
theorem dX7_change_157 : decode cX7_change 157 = .ok (.iconst 1, 1) := by decide +kernel
theorem dX7_change_158 : decode cX7_change 158 = .ok (.ireturn, 1) := by decide +kernel
theorem dX7_change_159 : decode cX7_change 159 = .ok (.aload_n 0, 1) := by decide +kernel
theorem dX7_change_160 : decode cX7_change 160 = .ok (.getfield 93, 3) := by decide +kernel
theorem dX7_change_163 : decode cX7_change 163 = .ok (.bipush 40, 2) := by decide +kernel
theorem dX7_change_165 : decode cX7_change 165 = .ok (.if_icmp .ne 6, 3) := by decide +kernel
theorem dX7_change_168 : decode cX7_change 168 = .ok (.bipush (-3), 2) := by decide +kernel
theorem dX7_change_170 : decode cX7_change 170 = .ok (.ireturn, 1) := by decide +kernel
theorem dX7_change_171 : decode cX7_change 171 = .ok (.aload_n 0, 1) := by decide +kernel
theorem dX7_change_172 : decode cX7_change 172 = .ok (.iload_n 2, 1) := by decide +kernel
theorem dX7_change_173 : decode cX7_change 173 = .ok (.iload_n 3, 1) := by decide +kernel
theorem dX7_change_174 : decode cX7_change 174 = .ok (.iload 4, 2) := by decide +kernel
theorem dX7_change_176 : decode cX7_change 176 = .ok (.aload_n 0, 1) := by decide +kernel
theorem dX7_change_177 : decode cX7_change 177 = .ok (.getfield 19, 3) := by decide +kernel
theorem dX7_change_180 : decode cX7_change 180 = .ok (.iload_n 1, 1) := by decide +kernel
theorem dX7_change_181 : decode cX7_change 181 = .ok (.iaload, 1) := by decide +kernel
theorem dX7_change_182 : decode cX7_change 182 = .ok (.invokevirtual 110, 3) := by decide +kernel
theorem dX7_change_185 : decode cX7_change 185 = .ok (.istore 6, 2) := by decide +kernel
theorem dX7_change_187 : decode cX7_change 187 = .ok (.iload 5, 2) := by decide +kernel
theorem dX7_change_189 : decode cX7_change 189 = .ok (.iconst 2, 1) := by decide +kernel
theorem dX7_change_190 : decode cX7_change 190 = .ok (.if_icmp .ne 21, 3) := by decide +kernel
theorem dX7_change_193 : decode cX7_change 193 = .ok (.aload_n 0, 1) := by decide +kernel
theorem dX7_change_194 : decode cX7_change 194 = .ok (.getfield 22, 3) := by decide +kernel
theorem dX7_change_197 : decode cX7_change 197 = .ok (.iload_n 1, 1) := by decide +kernel
theorem dX7_change_198 : decode cX7_change 198 = .ok (.iconst 5, 1) := by decide +kernel
theorem dX7_change_199 : decode cX7_change 199 = .ok (.iastore, 1) := by decide +kernel
theorem dX7_change_200 : decode cX7_change 200 = .ok (.aload_n 0, 1) := by decide +kernel
theorem dX7_change_201 : decode cX7_change 201 = .ok (.getfield 25, 3) := by decide +kernel
theorem dX7_change_204 : decode cX7_change 204 = .ok (.iload_n 1, 1) := by decide +kernel
theorem dX7_change_205 : decode cX7_change 205 = .ok (.bipush (-4), 2) := by decide +kernel
theorem dX7_change_207 : decode cX7_change 207 = .ok (.iastore, 1) := by decide +kernel
theorem dX7_change_208 : decode cX7_change 208 = .ok (.goto 26, 3) := by decide +kernel
theorem dX7_change_211 : decode cX7_change 211 = .ok (.aload_n 0, 1) := by decide +kernel
theorem dX7_change_212 : decode cX7_change 212 = .ok (.getfield 31, 3) := by decide +kernel
theorem dX7_change_215 : decode cX7_change 215 = .ok (.iload_n 1, 1) := by decide +kernel
theorem dX7_change_216 : decode cX7_change 216 = .ok (.iconst 1, 1) := by decide +kernel
theorem dX7_change_217 : decode cX7_change 217 = .ok (.bastore, 1) := by decide +kernel
theorem dX7_change_218 : decode cX7_change 218 = .ok (.iload 5, 2) := by decide +kernel
theorem dX7_change_220 : decode cX7_change 220 = .ok (.iconst 3, 1) := by decide +kernel
theorem dX7_change_221 : decode cX7_change 221 = .ok (.if_icmp .ne 13, 3) := by decide +kernel
theorem dX7_change_224 : decode cX7_change 224 = .ok (.aload_n 0, 1) := by decide +kernel
theorem dX7_change_225 : decode cX7_change 225 = .ok (.aload_n 0, 1) := by decide +kernel
theorem dX7_change_226 : decode cX7_change 226 = .ok (.getfield 25, 3) := by decide +kernel
theorem dX7_change_229 : decode cX7_change 229 = .ok (.iload_n 1, 1) := by decide +kernel
theorem dX7_change_230 : decode cX7_change 230 = .ok (.iaload, 1) := by decide +kernel
theorem dX7_change_231 : decode cX7_change 231 = .ok (.invokevirtual 155, 3) := by decide +kernel
theorem dX7_change_234 : decode cX7_change 234 = .ok (.bipush 100, 2) := by decide +kernel
theorem dX7_change_236 : decode cX7_change 236 = .ok (.iload 6, 2) := by decide +kernel
theorem dX7_change_238 : decode cX7_change 238 = .ok (.iadd, 1) := by decide +kernel
theorem dX7_change_239 : decode cX7_change 239 = .ok (.ireturn, 1) := by decide +kernel
theorem dX7_gets_0 : decode cX7_gets 0 = .ok (.aload_n 0, 1) := by decide +kernel
theorem dX7_gets_1 : decode cX7_gets 1 = .ok (.getfield 7, 3) := by decide +kernel
theorem dX7_gets_4 : decode cX7_gets 4 = .ok (.iload_n 1, 1) := by decide +kernel
theorem dX7_gets_5 : decode cX7_gets 5 = .ok (.iload_n 2, 1) := by decide +kernel
theorem dX7_gets_6 : decode cX7_gets 6 = .ok (.iastore, 1) := by decide +kernel
theorem dX7_gets_7 : decode cX7_gets 7 = .ok (.aload_n 0, 1) := by decide +kernel
theorem dX7_gets_8 : decode cX7_gets 8 = .ok (.getfield 13, 3) := by decide +kernel
theorem dX7_gets_11 : decode cX7_gets 11 = .ok (.iload_n 1, 1) := by decide +kernel
theorem dX7_gets_12 : decode cX7_gets 12 = .ok (.iload_n 3, 1) := by decide +kernel
theorem dX7_gets_13 : decode cX7_gets 13 = .ok (.iastore, 1) := by decide +kernel
theorem dX7_gets_14 : decode cX7_gets 14 = .ok (.aload_n 0, 1) := by decide +kernel
theorem dX7_gets_15 : decode cX7_gets 15 = .ok (.getfield 16, 3) := by decide +kernel
theorem dX7_gets_18 : decode cX7_gets 18 = .ok (.iload_n 1, 1) := by decide +kernel
theorem dX7_gets_19 : decode cX7_gets 19 = .ok (.iload 4, 2) := by decide +kernel
theorem dX7_gets_21 : decode cX7_gets 21 = .ok (.iastore, 1) := by decide +kernel
theorem dX7_gets_22 : decode cX7_gets 22 = .ok (.return_, 1) := by decide +kernel
theorem dX7_told_0 : decode cX7_told 0 = .ok (.aload_n 0, 1) := by decide +kernel
theorem dX7_told_1 : decode cX7_told 1 = .ok (.iload_n 1, 1) := by decide +kernel
theorem dX7_told_2 : decode cX7_told 2 = .ok (.invokevirtual 114, 3) := by decide +kernel
theorem dX7_told_5 : decode cX7_told 5 = .ok (.ifCond .eq 15, 3) := by decide +kernel
theorem dX7_told_8 : decode cX7_told 8 = .ok (.iload_n 2, 1) := by decide +kernel
theorem dX7_told_9 : decode cX7_told 9 = .ok (.i2l, 1) := by decide +kernel
theorem dX7_told_10 : decode cX7_told 10 = .ok (.lconst 0, 1) := by decide +kernel
theorem dX7_told_11 : decode cX7_told 11 = .ok (.ldc2_w 102, 3) := by decide +kernel
theorem dX7_told_14 : decode cX7_told 14 = .ok (.invokestatic 96, 3) := by decide +kernel
theorem dX7_told_17 : decode cX7_told 17 = .ok (.ifCond .ne 5, 3) := by decide +kernel
theorem dX7_told_20 : decode cX7_told 20 = .ok (.iconst (-1), 1) := by decide +kernel
theorem dX7_told_21 : decode cX7_told 21 = .ok (.ireturn, 1) := by decide +kernel
theorem dX7_told_22 : decode cX7_told 22 = .ok (.iload_n 2, 1) := by decide +kernel
theorem dX7_told_23 : decode cX7_told 23 = .ok (.tableswitch 90 0 6 #[41, 48, 55, 62, 69, 76, 83], 41) := by decide +kernel
theorem dX7_told_64 : decode cX7_told 64 = .ok (.aload_n 0, 1) := by decide +kernel
theorem dX7_told_65 : decode cX7_told 65 = .ok (.getfield 7, 3) := by decide +kernel
theorem dX7_told_68 : decode cX7_told 68 = .ok (.iload_n 1, 1) := by decide +kernel
theorem dX7_told_69 : decode cX7_told 69 = .ok (.iaload, 1) := by decide +kernel
theorem dX7_told_70 : decode cX7_told 70 = .ok (.ireturn, 1) := by decide +kernel
theorem dX7_told_71 : decode cX7_told 71 = .ok (.aload_n 0, 1) := by decide +kernel
theorem dX7_told_72 : decode cX7_told 72 = .ok (.getfield 13, 3) := by decide +kernel
theorem dX7_told_75 : decode cX7_told 75 = .ok (.iload_n 1, 1) := by decide +kernel
theorem dX7_told_76 : decode cX7_told 76 = .ok (.iaload, 1) := by decide +kernel
theorem dX7_told_77 : decode cX7_told 77 = .ok (.ireturn, 1) := by decide +kernel
theorem dX7_told_78 : decode cX7_told 78 = .ok (.aload_n 0, 1) := by decide +kernel
theorem dX7_told_79 : decode cX7_told 79 = .ok (.getfield 16, 3) := by decide +kernel
theorem dX7_told_82 : decode cX7_told 82 = .ok (.iload_n 1, 1) := by decide +kernel
theorem dX7_told_83 : decode cX7_told 83 = .ok (.iaload, 1) := by decide +kernel
theorem dX7_told_84 : decode cX7_told 84 = .ok (.ireturn, 1) := by decide +kernel
theorem dX7_told_85 : decode cX7_told 85 = .ok (.aload_n 0, 1) := by decide +kernel
theorem dX7_told_86 : decode cX7_told 86 = .ok (.getfield 19, 3) := by decide +kernel
theorem dX7_told_89 : decode cX7_told 89 = .ok (.iload_n 1, 1) := by decide +kernel
theorem dX7_told_90 : decode cX7_told 90 = .ok (.iaload, 1) := by decide +kernel
theorem dX7_told_91 : decode cX7_told 91 = .ok (.ireturn, 1) := by decide +kernel
theorem dX7_told_92 : decode cX7_told 92 = .ok (.aload_n 0, 1) := by decide +kernel
theorem dX7_told_93 : decode cX7_told 93 = .ok (.getfield 22, 3) := by decide +kernel
theorem dX7_told_96 : decode cX7_told 96 = .ok (.iload_n 1, 1) := by decide +kernel
theorem dX7_told_97 : decode cX7_told 97 = .ok (.iaload, 1) := by decide +kernel
theorem dX7_told_98 : decode cX7_told 98 = .ok (.ireturn, 1) := by decide +kernel
theorem dX7_told_99 : decode cX7_told 99 = .ok (.aload_n 0, 1) := by decide +kernel
theorem dX7_told_100 : decode cX7_told 100 = .ok (.getfield 25, 3) := by decide +kernel
theorem dX7_told_103 : decode cX7_told 103 = .ok (.iload_n 1, 1) := by decide +kernel
theorem dX7_told_104 : decode cX7_told 104 = .ok (.iaload, 1) := by decide +kernel
theorem dX7_told_105 : decode cX7_told 105 = .ok (.ireturn, 1) := by decide +kernel
theorem dX7_told_106 : decode cX7_told 106 = .ok (.aload_n 0, 1) := by decide +kernel
theorem dX7_told_107 : decode cX7_told 107 = .ok (.getfield 28, 3) := by decide +kernel
theorem dX7_told_110 : decode cX7_told 110 = .ok (.iload_n 1, 1) := by decide +kernel
theorem dX7_told_111 : decode cX7_told 111 = .ok (.iaload, 1) := by decide +kernel
theorem dX7_told_112 : decode cX7_told 112 = .ok (.ireturn, 1) := by decide +kernel
theorem dX7_told_113 : decode cX7_told 113 = .ok (.aload_n 0, 1) := by decide +kernel
theorem dX7_told_114 : decode cX7_told 114 = .ok (.getfield 31, 3) := by decide +kernel
theorem dX7_told_117 : decode cX7_told 117 = .ok (.iload_n 1, 1) := by decide +kernel
theorem dX7_told_118 : decode cX7_told 118 = .ok (.baload, 1) := by decide +kernel
theorem dX7_told_119 : decode cX7_told 119 = .ok (.ifCond .eq 7, 3) := by decide +kernel
theorem dX7_told_122 : decode cX7_told 122 = .ok (.iconst 1, 1) := by decide +kernel
theorem dX7_told_123 : decode cX7_told 123 = .ok (.goto 4, 3) := by decide +kernel
theorem dX7_told_126 : decode cX7_told 126 = .ok (.iconst 0, 1) := by decide +kernel
theorem dX7_told_127 : decode cX7_told 127 = .ok (.ireturn, 1) := by decide +kernel
theorem dX7_at_0 : decode cX7_at 0 = .ok (.iload_n 1, 1) := by decide +kernel
theorem dX7_at_1 : decode cX7_at 1 = .ok (.invokestatic 148, 3) := by decide +kernel
theorem dX7_at_4 : decode cX7_at 4 = .ok (.ifCond .eq 7, 3) := by decide +kernel
theorem dX7_at_7 : decode cX7_at 7 = .ok (.iload_n 2, 1) := by decide +kernel
theorem dX7_at_8 : decode cX7_at 8 = .ok (.ifCond .ge 5, 3) := by decide +kernel
theorem dX7_at_11 : decode cX7_at 11 = .ok (.iconst (-1), 1) := by decide +kernel
theorem dX7_at_12 : decode cX7_at 12 = .ok (.ireturn, 1) := by decide +kernel
theorem dX7_at_13 : decode cX7_at 13 = .ok (.iload_n 2, 1) := by decide +kernel
theorem dX7_at_14 : decode cX7_at 14 = .ok (.aload_n 0, 1) := by decide +kernel
theorem dX7_at_15 : decode cX7_at 15 = .ok (.getfield 51, 3) := by decide +kernel
theorem dX7_at_18 : decode cX7_at 18 = .ok (.iload_n 1, 1) := by decide +kernel
theorem dX7_at_19 : decode cX7_at 19 = .ok (.iaload, 1) := by decide +kernel
theorem dX7_at_20 : decode cX7_at 20 = .ok (.if_icmp .ge 16, 3) := by decide +kernel
theorem dX7_at_23 : decode cX7_at 23 = .ok (.aload_n 0, 1) := by decide +kernel
theorem dX7_at_24 : decode cX7_at 24 = .ok (.getfield 54, 3) := by decide +kernel
theorem dX7_at_27 : decode cX7_at 27 = .ok (.iconst 4, 1) := by decide +kernel
theorem dX7_at_28 : decode cX7_at 28 = .ok (.iload_n 1, 1) := by decide +kernel
theorem dX7_at_29 : decode cX7_at 29 = .ok (.imul, 1) := by decide +kernel
theorem dX7_at_30 : decode cX7_at 30 = .ok (.iload_n 2, 1) := by decide +kernel
theorem dX7_at_31 : decode cX7_at 31 = .ok (.iadd, 1) := by decide +kernel
theorem dX7_at_32 : decode cX7_at 32 = .ok (.iaload, 1) := by decide +kernel
theorem dX7_at_33 : decode cX7_at 33 = .ok (.goto 5, 3) := by decide +kernel
theorem dX7_at_36 : decode cX7_at 36 = .ok (.bipush (-4), 2) := by decide +kernel
theorem dX7_at_38 : decode cX7_at 38 = .ok (.ireturn, 1) := by decide +kernel
theorem dX7_bed_0 : decode cX7_bed 0 = .ok (.iload_n 1, 1) := by decide +kernel
theorem dX7_bed_1 : decode cX7_bed 1 = .ok (.i2l, 1) := by decide +kernel
theorem dX7_bed_2 : decode cX7_bed 2 = .ok (.lconst 0, 1) := by decide +kernel
theorem dX7_bed_3 : decode cX7_bed 3 = .ok (.ldc2_w 133, 3) := by decide +kernel
theorem dX7_bed_6 : decode cX7_bed 6 = .ok (.invokestatic 96, 3) := by decide +kernel
theorem dX7_bed_9 : decode cX7_bed 9 = .ok (.ifCond .eq 15, 3) := by decide +kernel
theorem dX7_bed_12 : decode cX7_bed 12 = .ok (.iload_n 2, 1) := by decide +kernel
theorem dX7_bed_13 : decode cX7_bed 13 = .ok (.i2l, 1) := by decide +kernel
theorem dX7_bed_14 : decode cX7_bed 14 = .ok (.lconst 0, 1) := by decide +kernel
theorem dX7_bed_15 : decode cX7_bed 15 = .ok (.ldc2_w 208, 3) := by decide +kernel
theorem dX7_bed_18 : decode cX7_bed 18 = .ok (.invokestatic 96, 3) := by decide +kernel
theorem dX7_bed_21 : decode cX7_bed 21 = .ok (.ifCond .ne 5, 3) := by decide +kernel
theorem dX7_bed_24 : decode cX7_bed 24 = .ok (.iconst (-1), 1) := by decide +kernel
theorem dX7_bed_25 : decode cX7_bed 25 = .ok (.ireturn, 1) := by decide +kernel
theorem dX7_bed_26 : decode cX7_bed 26 = .ok (.aload_n 0, 1) := by decide +kernel
theorem dX7_bed_27 : decode cX7_bed 27 = .ok (.getfield 35, 3) := by decide +kernel
theorem dX7_bed_30 : decode cX7_bed 30 = .ok (.iload_n 1, 1) := by decide +kernel
theorem dX7_bed_31 : decode cX7_bed 31 = .ok (.iaload, 1) := by decide +kernel
theorem dX7_bed_32 : decode cX7_bed 32 = .ok (.ifCond .ne 7, 3) := by decide +kernel
theorem dX7_bed_35 : decode cX7_bed 35 = .ok (.iconst 0, 1) := by decide +kernel
theorem dX7_bed_36 : decode cX7_bed 36 = .ok (.goto 5, 3) := by decide +kernel
theorem dX7_bed_39 : decode cX7_bed 39 = .ok (.bipush (-4), 2) := by decide +kernel
theorem dX7_bed_41 : decode cX7_bed 41 = .ok (.istore_n 3, 1) := by decide +kernel
theorem dX7_bed_42 : decode cX7_bed 42 = .ok (.iconst 0, 1) := by decide +kernel
theorem dX7_bed_43 : decode cX7_bed 43 = .ok (.istore 4, 2) := by decide +kernel
theorem dX7_bed_45 : decode cX7_bed 45 = .ok (.iload 4, 2) := by decide +kernel
theorem dX7_bed_47 : decode cX7_bed 47 = .ok (.aload_n 0, 1) := by decide +kernel
theorem dX7_bed_48 : decode cX7_bed 48 = .ok (.getfield 35, 3) := by decide +kernel
theorem dX7_bed_51 : decode cX7_bed 51 = .ok (.iload_n 1, 1) := by decide +kernel
theorem dX7_bed_52 : decode cX7_bed 52 = .ok (.iaload, 1) := by decide +kernel
theorem dX7_bed_53 : decode cX7_bed 53 = .ok (.if_icmp .ge 31, 3) := by decide +kernel
theorem dX7_bed_56 : decode cX7_bed 56 = .ok (.iload_n 3, 1) := by decide +kernel
theorem dX7_bed_57 : decode cX7_bed 57 = .ok (.aload_n 0, 1) := by decide +kernel
theorem dX7_bed_58 : decode cX7_bed 58 = .ok (.getfield 7, 3) := by decide +kernel
theorem dX7_bed_61 : decode cX7_bed 61 = .ok (.aload_n 0, 1) := by decide +kernel
theorem dX7_bed_62 : decode cX7_bed 62 = .ok (.getfield 38, 3) := by decide +kernel
theorem dX7_bed_65 : decode cX7_bed 65 = .ok (.bipush 40, 2) := by decide +kernel
theorem dX7_bed_67 : decode cX7_bed 67 = .ok (.iload_n 1, 1) := by decide +kernel
theorem dX7_bed_68 : decode cX7_bed 68 = .ok (.imul, 1) := by decide +kernel
theorem dX7_bed_69 : decode cX7_bed 69 = .ok (.iload 4, 2) := by decide +kernel
theorem dX7_bed_71 : decode cX7_bed 71 = .ok (.iadd, 1) := by decide +kernel
theorem dX7_bed_72 : decode cX7_bed 72 = .ok (.iaload, 1) := by decide +kernel
theorem dX7_bed_73 : decode cX7_bed 73 = .ok (.iaload, 1) := by decide +kernel
theorem dX7_bed_74 : decode cX7_bed 74 = .ok (.iconst 4, 1) := by decide +kernel
theorem dX7_bed_75 : decode cX7_bed 75 = .ok (.iadd, 1) := by decide +kernel
theorem dX7_bed_76 : decode cX7_bed 76 = .ok (.iadd, 1) := by decide +kernel
theorem dX7_bed_77 : decode cX7_bed 77 = .ok (.istore_n 3, 1) := by decide +kernel
theorem dX7_bed_78 : decode cX7_bed 78 = .ok (.iinc 4 1, 3) := by decide +kernel
theorem dX7_bed_81 : decode cX7_bed 81 = .ok (.goto (-36), 3) := by decide +kernel
theorem dX7_bed_84 : decode cX7_bed 84 = .ok (.iload_n 2, 1) := by decide +kernel
theorem dX7_bed_85 : decode cX7_bed 85 = .ok (.ifCond .ne 12, 3) := by decide +kernel
theorem dX7_bed_88 : decode cX7_bed 88 = .ok (.aload_n 0, 1) := by decide +kernel
theorem dX7_bed_89 : decode cX7_bed 89 = .ok (.getfield 35, 3) := by decide +kernel
theorem dX7_bed_92 : decode cX7_bed 92 = .ok (.iload_n 1, 1) := by decide +kernel
theorem dX7_bed_93 : decode cX7_bed 93 = .ok (.iaload, 1) := by decide +kernel
theorem dX7_bed_94 : decode cX7_bed 94 = .ok (.goto 50, 3) := by decide +kernel
theorem dX7_bed_97 : decode cX7_bed 97 = .ok (.iload_n 2, 1) := by decide +kernel
theorem dX7_bed_98 : decode cX7_bed 98 = .ok (.iconst 1, 1) := by decide +kernel
theorem dX7_bed_99 : decode cX7_bed 99 = .ok (.if_icmp .ne 7, 3) := by decide +kernel
theorem dX7_bed_102 : decode cX7_bed 102 = .ok (.iload_n 3, 1) := by decide +kernel
theorem dX7_bed_103 : decode cX7_bed 103 = .ok (.goto 41, 3) := by decide +kernel
theorem dX7_bed_106 : decode cX7_bed 106 = .ok (.iload_n 2, 1) := by decide +kernel
theorem dX7_bed_107 : decode cX7_bed 107 = .ok (.iconst 2, 1) := by decide +kernel
theorem dX7_bed_108 : decode cX7_bed 108 = .ok (.if_icmp .ne 12, 3) := by decide +kernel
theorem dX7_bed_111 : decode cX7_bed 111 = .ok (.aload_n 0, 1) := by decide +kernel
theorem dX7_bed_112 : decode cX7_bed 112 = .ok (.getfield 41, 3) := by decide +kernel
theorem dX7_bed_115 : decode cX7_bed 115 = .ok (.iload_n 1, 1) := by decide +kernel
theorem dX7_bed_116 : decode cX7_bed 116 = .ok (.iaload, 1) := by decide +kernel
theorem dX7_bed_117 : decode cX7_bed 117 = .ok (.goto 27, 3) := by decide +kernel
theorem dX7_bed_120 : decode cX7_bed 120 = .ok (.aload_n 0, 1) := by decide +kernel
theorem dX7_bed_121 : decode cX7_bed 121 = .ok (.getfield 35, 3) := by decide +kernel
theorem dX7_bed_124 : decode cX7_bed 124 = .ok (.iload_n 1, 1) := by decide +kernel
theorem dX7_bed_125 : decode cX7_bed 125 = .ok (.iaload, 1) := by decide +kernel
theorem dX7_bed_126 : decode cX7_bed 126 = .ok (.ifCond .ne 7, 3) := by decide +kernel
theorem dX7_bed_129 : decode cX7_bed 129 = .ok (.iconst 0, 1) := by decide +kernel
theorem dX7_bed_130 : decode cX7_bed 130 = .ok (.goto 14, 3) := by decide +kernel
theorem dX7_bed_133 : decode cX7_bed 133 = .ok (.aload_n 0, 1) := by decide +kernel
theorem dX7_bed_134 : decode cX7_bed 134 = .ok (.getfield 135, 3) := by decide +kernel
theorem dX7_bed_137 : decode cX7_bed 137 = .ok (.aload_n 0, 1) := by decide +kernel
theorem dX7_bed_138 : decode cX7_bed 138 = .ok (.getfield 44, 3) := by decide +kernel
theorem dX7_bed_141 : decode cX7_bed 141 = .ok (.iload_n 1, 1) := by decide +kernel
theorem dX7_bed_142 : decode cX7_bed 142 = .ok (.iaload, 1) := by decide +kernel
theorem dX7_bed_143 : decode cX7_bed 143 = .ok (.isub, 1) := by decide +kernel
theorem dX7_bed_144 : decode cX7_bed 144 = .ok (.ireturn, 1) := by decide +kernel
theorem dX7_count_0 : decode cX7_count 0 = .ok (.iload_n 1, 1) := by decide +kernel
theorem dX7_count_1 : decode cX7_count 1 = .ok (.i2l, 1) := by decide +kernel
theorem dX7_count_2 : decode cX7_count 2 = .ok (.lconst 0, 1) := by decide +kernel
theorem dX7_count_3 : decode cX7_count 3 = .ok (.ldc2_w 210, 3) := by decide +kernel
theorem dX7_count_6 : decode cX7_count 6 = .ok (.invokestatic 96, 3) := by decide +kernel
theorem dX7_count_9 : decode cX7_count 9 = .ok (.ifCond .ne 5, 3) := by decide +kernel
theorem dX7_count_12 : decode cX7_count 12 = .ok (.iconst (-1), 1) := by decide +kernel
theorem dX7_count_13 : decode cX7_count 13 = .ok (.ireturn, 1) := by decide +kernel
theorem dX7_count_14 : decode cX7_count 14 = .ok (.iload_n 1, 1) := by decide +kernel
theorem dX7_count_15 : decode cX7_count 15 = .ok (.iconst 4, 1) := by decide +kernel
theorem dX7_count_16 : decode cX7_count 16 = .ok (.if_icmp .ge 43, 3) := by decide +kernel
theorem dX7_count_19 : decode cX7_count 19 = .ok (.iload_n 1, 1) := by decide +kernel
theorem dX7_count_20 : decode cX7_count 20 = .ok (.ifCond .ne 10, 3) := by decide +kernel
theorem dX7_count_23 : decode cX7_count 23 = .ok (.aload_n 0, 1) := by decide +kernel
theorem dX7_count_24 : decode cX7_count 24 = .ok (.getfield 93, 3) := by decide +kernel
theorem dX7_count_27 : decode cX7_count 27 = .ok (.goto 31, 3) := by decide +kernel
theorem dX7_count_30 : decode cX7_count 30 = .ok (.iload_n 1, 1) := by decide +kernel
theorem dX7_count_31 : decode cX7_count 31 = .ok (.iconst 1, 1) := by decide +kernel
theorem dX7_count_32 : decode cX7_count 32 = .ok (.if_icmp .ne 10, 3) := by decide +kernel
theorem dX7_count_35 : decode cX7_count 35 = .ok (.aload_n 0, 1) := by decide +kernel
theorem dX7_count_36 : decode cX7_count 36 = .ok (.getfield 135, 3) := by decide +kernel
theorem dX7_count_39 : decode cX7_count 39 = .ok (.goto 19, 3) := by decide +kernel
theorem dX7_count_42 : decode cX7_count 42 = .ok (.iload_n 1, 1) := by decide +kernel
theorem dX7_count_43 : decode cX7_count 43 = .ok (.iconst 2, 1) := by decide +kernel
theorem dX7_count_44 : decode cX7_count 44 = .ok (.if_icmp .ne 10, 3) := by decide +kernel
theorem dX7_count_47 : decode cX7_count 47 = .ok (.aload_n 0, 1) := by decide +kernel
theorem dX7_count_48 : decode cX7_count 48 = .ok (.getfield 197, 3) := by decide +kernel
theorem dX7_count_51 : decode cX7_count 51 = .ok (.goto 7, 3) := by decide +kernel
theorem dX7_count_54 : decode cX7_count 54 = .ok (.aload_n 0, 1) := by decide +kernel
theorem dX7_count_55 : decode cX7_count 55 = .ok (.getfield 138, 3) := by decide +kernel
theorem dX7_count_58 : decode cX7_count 58 = .ok (.ireturn, 1) := by decide +kernel
theorem dX7_count_59 : decode cX7_count 59 = .ok (.iconst 0, 1) := by decide +kernel
theorem dX7_count_60 : decode cX7_count 60 = .ok (.istore_n 2, 1) := by decide +kernel
theorem dX7_count_61 : decode cX7_count 61 = .ok (.iconst 0, 1) := by decide +kernel
theorem dX7_count_62 : decode cX7_count 62 = .ok (.istore_n 3, 1) := by decide +kernel
theorem dX7_count_63 : decode cX7_count 63 = .ok (.iload_n 3, 1) := by decide +kernel
theorem dX7_count_64 : decode cX7_count 64 = .ok (.aload_n 0, 1) := by decide +kernel
theorem dX7_count_65 : decode cX7_count 65 = .ok (.getfield 93, 3) := by decide +kernel
theorem dX7_count_68 : decode cX7_count 68 = .ok (.if_icmp .ge 29, 3) := by decide +kernel
theorem dX7_count_71 : decode cX7_count 71 = .ok (.iload_n 2, 1) := by decide +kernel
theorem dX7_count_72 : decode cX7_count 72 = .ok (.aload_n 0, 1) := by decide +kernel
theorem dX7_count_73 : decode cX7_count 73 = .ok (.getfield 22, 3) := by decide +kernel
theorem dX7_count_76 : decode cX7_count 76 = .ok (.iload_n 3, 1) := by decide +kernel
theorem dX7_count_77 : decode cX7_count 77 = .ok (.iaload, 1) := by decide +kernel
theorem dX7_count_78 : decode cX7_count 78 = .ok (.iload_n 1, 1) := by decide +kernel
theorem dX7_count_79 : decode cX7_count 79 = .ok (.iconst 4, 1) := by decide +kernel
theorem dX7_count_80 : decode cX7_count 80 = .ok (.isub, 1) := by decide +kernel
theorem dX7_count_81 : decode cX7_count 81 = .ok (.if_icmp .ne 7, 3) := by decide +kernel
theorem dX7_count_84 : decode cX7_count 84 = .ok (.iconst 1, 1) := by decide +kernel
theorem dX7_count_85 : decode cX7_count 85 = .ok (.goto 4, 3) := by decide +kernel
theorem dX7_count_88 : decode cX7_count 88 = .ok (.iconst 0, 1) := by decide +kernel
theorem dX7_count_89 : decode cX7_count 89 = .ok (.iadd, 1) := by decide +kernel
theorem dX7_count_90 : decode cX7_count 90 = .ok (.istore_n 2, 1) := by decide +kernel
theorem dX7_count_91 : decode cX7_count 91 = .ok (.iinc 3 1, 3) := by decide +kernel
theorem dX7_count_94 : decode cX7_count 94 = .ok (.goto (-31), 3) := by decide +kernel
theorem dX7_count_97 : decode cX7_count 97 = .ok (.iload_n 2, 1) := by decide +kernel
theorem dX7_count_98 : decode cX7_count 98 = .ok (.ireturn, 1) := by decide +kernel
theorem dL_law_0 : decode cL_law 0 = .ok (.new 7, 3) := by decide +kernel
theorem dL_law_3 : decode cL_law 3 = .ok (.dup, 1) := by decide +kernel
theorem dL_law_4 : decode cL_law 4 = .ok (.invokespecial 9, 3) := by decide +kernel
theorem dL_law_7 : decode cL_law 7 = .ok (.astore_n 1, 1) := by decide +kernel
theorem dL_law_8 : decode cL_law 8 = .ok (.new 10, 3) := by decide +kernel
theorem dL_law_11 : decode cL_law 11 = .ok (.dup, 1) := by decide +kernel
theorem dL_law_12 : decode cL_law 12 = .ok (.invokespecial 12, 3) := by decide +kernel
theorem dL_law_15 : decode cL_law 15 = .ok (.astore_n 2, 1) := by decide +kernel
theorem dL_law_16 : decode cL_law 16 = .ok (.iconst 0, 1) := by decide +kernel
theorem dL_law_17 : decode cL_law 17 = .ok (.istore_n 3, 1) := by decide +kernel
theorem dL_law_18 : decode cL_law 18 = .ok (.iload_n 3, 1) := by decide +kernel
theorem dL_law_19 : decode cL_law 19 = .ok (.aload_n 0, 1) := by decide +kernel
theorem dL_law_20 : decode cL_law 20 = .ok (.arraylength, 1) := by decide +kernel
theorem dL_law_21 : decode cL_law 21 = .ok (.iconst 5, 1) := by decide +kernel
theorem dL_law_22 : decode cL_law 22 = .ok (.isub, 1) := by decide +kernel
theorem dL_law_23 : decode cL_law 23 = .ok (.if_icmp .gt 697, 3) := by decide +kernel
theorem dL_law_26 : decode cL_law 26 = .ok (.aload_n 0, 1) := by decide +kernel
theorem dL_law_27 : decode cL_law 27 = .ok (.iload_n 3, 1) := by decide +kernel
theorem dL_law_28 : decode cL_law 28 = .ok (.iaload, 1) := by decide +kernel
theorem dL_law_29 : decode cL_law 29 = .ok (.bipush 31, 2) := by decide +kernel
theorem dL_law_31 : decode cL_law 31 = .ok (.iand, 1) := by decide +kernel
theorem dL_law_32 : decode cL_law 32 = .ok (.tableswitch 682 0 17 #[88, 131, 164, 207, 250, 273, 296, 319, 352, 385, 448, 471, 484, 507, 560, 593, 626, 659], 88) := by decide +kernel
theorem dL_law_120 : decode cL_law 120 = .ok (.aload_n 1, 1) := by decide +kernel
theorem dL_law_121 : decode cL_law 121 = .ok (.aload_n 0, 1) := by decide +kernel
theorem dL_law_122 : decode cL_law 122 = .ok (.iload_n 3, 1) := by decide +kernel
theorem dL_law_123 : decode cL_law 123 = .ok (.iconst 1, 1) := by decide +kernel
theorem dL_law_124 : decode cL_law 124 = .ok (.iadd, 1) := by decide +kernel
theorem dL_law_125 : decode cL_law 125 = .ok (.iaload, 1) := by decide +kernel
theorem dL_law_126 : decode cL_law 126 = .ok (.aload_n 0, 1) := by decide +kernel
theorem dL_law_127 : decode cL_law 127 = .ok (.iload_n 3, 1) := by decide +kernel
theorem dL_law_128 : decode cL_law 128 = .ok (.iconst 2, 1) := by decide +kernel
theorem dL_law_129 : decode cL_law 129 = .ok (.iadd, 1) := by decide +kernel
theorem dL_law_130 : decode cL_law 130 = .ok (.iaload, 1) := by decide +kernel
theorem dL_law_131 : decode cL_law 131 = .ok (.aload_n 0, 1) := by decide +kernel
theorem dL_law_132 : decode cL_law 132 = .ok (.iload_n 3, 1) := by decide +kernel
theorem dL_law_133 : decode cL_law 133 = .ok (.iconst 3, 1) := by decide +kernel
theorem dL_law_134 : decode cL_law 134 = .ok (.iadd, 1) := by decide +kernel
theorem dL_law_135 : decode cL_law 135 = .ok (.iaload, 1) := by decide +kernel
theorem dL_law_136 : decode cL_law 136 = .ok (.invokevirtual 13, 3) := by decide +kernel
theorem dL_law_139 : decode cL_law 139 = .ok (.aload_n 2, 1) := by decide +kernel
theorem dL_law_140 : decode cL_law 140 = .ok (.aload_n 0, 1) := by decide +kernel
theorem dL_law_141 : decode cL_law 141 = .ok (.iload_n 3, 1) := by decide +kernel
theorem dL_law_142 : decode cL_law 142 = .ok (.iconst 1, 1) := by decide +kernel
theorem dL_law_143 : decode cL_law 143 = .ok (.iadd, 1) := by decide +kernel
theorem dL_law_144 : decode cL_law 144 = .ok (.iaload, 1) := by decide +kernel
theorem dL_law_145 : decode cL_law 145 = .ok (.aload_n 0, 1) := by decide +kernel
theorem dL_law_146 : decode cL_law 146 = .ok (.iload_n 3, 1) := by decide +kernel
theorem dL_law_147 : decode cL_law 147 = .ok (.iconst 2, 1) := by decide +kernel
theorem dL_law_148 : decode cL_law 148 = .ok (.iadd, 1) := by decide +kernel
theorem dL_law_149 : decode cL_law 149 = .ok (.iaload, 1) := by decide +kernel
theorem dL_law_150 : decode cL_law 150 = .ok (.aload_n 0, 1) := by decide +kernel
theorem dL_law_151 : decode cL_law 151 = .ok (.iload_n 3, 1) := by decide +kernel
theorem dL_law_152 : decode cL_law 152 = .ok (.iconst 3, 1) := by decide +kernel
theorem dL_law_153 : decode cL_law 153 = .ok (.iadd, 1) := by decide +kernel
theorem dL_law_154 : decode cL_law 154 = .ok (.iaload, 1) := by decide +kernel
theorem dL_law_155 : decode cL_law 155 = .ok (.invokevirtual 17, 3) := by decide +kernel
theorem dL_law_158 : decode cL_law 158 = .ok (.if_icmp .eq 556, 3) := by decide +kernel
theorem dL_law_161 : decode cL_law 161 = .ok (.iconst 0, 1) := by decide +kernel
theorem dL_law_162 : decode cL_law 162 = .ok (.ireturn, 1) := by decide +kernel
theorem dL_law_163 : decode cL_law 163 = .ok (.aload_n 1, 1) := by decide +kernel
theorem dL_law_164 : decode cL_law 164 = .ok (.aload_n 0, 1) := by decide +kernel
theorem dL_law_165 : decode cL_law 165 = .ok (.iload_n 3, 1) := by decide +kernel
theorem dL_law_166 : decode cL_law 166 = .ok (.iconst 1, 1) := by decide +kernel
theorem dL_law_167 : decode cL_law 167 = .ok (.iadd, 1) := by decide +kernel
theorem dL_law_168 : decode cL_law 168 = .ok (.iaload, 1) := by decide +kernel
theorem dL_law_169 : decode cL_law 169 = .ok (.aload_n 0, 1) := by decide +kernel
theorem dL_law_170 : decode cL_law 170 = .ok (.iload_n 3, 1) := by decide +kernel
theorem dL_law_171 : decode cL_law 171 = .ok (.iconst 2, 1) := by decide +kernel
theorem dL_law_172 : decode cL_law 172 = .ok (.iadd, 1) := by decide +kernel
theorem dL_law_173 : decode cL_law 173 = .ok (.iaload, 1) := by decide +kernel
theorem dL_law_174 : decode cL_law 174 = .ok (.invokevirtual 18, 3) := by decide +kernel
theorem dL_law_177 : decode cL_law 177 = .ok (.aload_n 2, 1) := by decide +kernel
theorem dL_law_178 : decode cL_law 178 = .ok (.aload_n 0, 1) := by decide +kernel
theorem dL_law_179 : decode cL_law 179 = .ok (.iload_n 3, 1) := by decide +kernel
theorem dL_law_180 : decode cL_law 180 = .ok (.iconst 1, 1) := by decide +kernel
theorem dL_law_181 : decode cL_law 181 = .ok (.iadd, 1) := by decide +kernel
theorem dL_law_182 : decode cL_law 182 = .ok (.iaload, 1) := by decide +kernel
theorem dL_law_183 : decode cL_law 183 = .ok (.aload_n 0, 1) := by decide +kernel
theorem dL_law_184 : decode cL_law 184 = .ok (.iload_n 3, 1) := by decide +kernel
theorem dL_law_185 : decode cL_law 185 = .ok (.iconst 2, 1) := by decide +kernel
theorem dL_law_186 : decode cL_law 186 = .ok (.iadd, 1) := by decide +kernel
theorem dL_law_187 : decode cL_law 187 = .ok (.iaload, 1) := by decide +kernel
theorem dL_law_188 : decode cL_law 188 = .ok (.invokevirtual 22, 3) := by decide +kernel
theorem dL_law_191 : decode cL_law 191 = .ok (.if_icmp .eq 523, 3) := by decide +kernel
theorem dL_law_194 : decode cL_law 194 = .ok (.iconst 0, 1) := by decide +kernel
theorem dL_law_195 : decode cL_law 195 = .ok (.ireturn, 1) := by decide +kernel
theorem dL_law_196 : decode cL_law 196 = .ok (.aload_n 1, 1) := by decide +kernel
theorem dL_law_197 : decode cL_law 197 = .ok (.aload_n 0, 1) := by decide +kernel
theorem dL_law_198 : decode cL_law 198 = .ok (.iload_n 3, 1) := by decide +kernel
theorem dL_law_199 : decode cL_law 199 = .ok (.iconst 1, 1) := by decide +kernel
theorem dL_law_200 : decode cL_law 200 = .ok (.iadd, 1) := by decide +kernel
theorem dL_law_201 : decode cL_law 201 = .ok (.iaload, 1) := by decide +kernel
theorem dL_law_202 : decode cL_law 202 = .ok (.aload_n 0, 1) := by decide +kernel
theorem dL_law_203 : decode cL_law 203 = .ok (.iload_n 3, 1) := by decide +kernel
theorem dL_law_204 : decode cL_law 204 = .ok (.iconst 2, 1) := by decide +kernel
theorem dL_law_205 : decode cL_law 205 = .ok (.iadd, 1) := by decide +kernel
theorem dL_law_206 : decode cL_law 206 = .ok (.iaload, 1) := by decide +kernel
theorem dL_law_207 : decode cL_law 207 = .ok (.aload_n 0, 1) := by decide +kernel
theorem dL_law_208 : decode cL_law 208 = .ok (.iload_n 3, 1) := by decide +kernel
theorem dL_law_209 : decode cL_law 209 = .ok (.iconst 3, 1) := by decide +kernel
theorem dL_law_210 : decode cL_law 210 = .ok (.iadd, 1) := by decide +kernel
theorem dL_law_211 : decode cL_law 211 = .ok (.iaload, 1) := by decide +kernel
theorem dL_law_212 : decode cL_law 212 = .ok (.invokevirtual 23, 3) := by decide +kernel
theorem dL_law_215 : decode cL_law 215 = .ok (.aload_n 2, 1) := by decide +kernel
theorem dL_law_216 : decode cL_law 216 = .ok (.aload_n 0, 1) := by decide +kernel
theorem dL_law_217 : decode cL_law 217 = .ok (.iload_n 3, 1) := by decide +kernel
theorem dL_law_218 : decode cL_law 218 = .ok (.iconst 1, 1) := by decide +kernel
theorem dL_law_219 : decode cL_law 219 = .ok (.iadd, 1) := by decide +kernel
theorem dL_law_220 : decode cL_law 220 = .ok (.iaload, 1) := by decide +kernel
theorem dL_law_221 : decode cL_law 221 = .ok (.aload_n 0, 1) := by decide +kernel
theorem dL_law_222 : decode cL_law 222 = .ok (.iload_n 3, 1) := by decide +kernel
theorem dL_law_223 : decode cL_law 223 = .ok (.iconst 2, 1) := by decide +kernel
theorem dL_law_224 : decode cL_law 224 = .ok (.iadd, 1) := by decide +kernel
theorem dL_law_225 : decode cL_law 225 = .ok (.iaload, 1) := by decide +kernel
theorem dL_law_226 : decode cL_law 226 = .ok (.aload_n 0, 1) := by decide +kernel
theorem dL_law_227 : decode cL_law 227 = .ok (.iload_n 3, 1) := by decide +kernel
theorem dL_law_228 : decode cL_law 228 = .ok (.iconst 3, 1) := by decide +kernel
theorem dL_law_229 : decode cL_law 229 = .ok (.iadd, 1) := by decide +kernel
theorem dL_law_230 : decode cL_law 230 = .ok (.iaload, 1) := by decide +kernel
theorem dL_law_231 : decode cL_law 231 = .ok (.invokevirtual 26, 3) := by decide +kernel
theorem dL_law_234 : decode cL_law 234 = .ok (.if_icmp .eq 480, 3) := by decide +kernel
theorem dL_law_237 : decode cL_law 237 = .ok (.iconst 0, 1) := by decide +kernel
theorem dL_law_238 : decode cL_law 238 = .ok (.ireturn, 1) := by decide +kernel
theorem dL_law_239 : decode cL_law 239 = .ok (.aload_n 1, 1) := by decide +kernel
theorem dL_law_240 : decode cL_law 240 = .ok (.aload_n 0, 1) := by decide +kernel
theorem dL_law_241 : decode cL_law 241 = .ok (.iload_n 3, 1) := by decide +kernel
theorem dL_law_242 : decode cL_law 242 = .ok (.iconst 1, 1) := by decide +kernel
theorem dL_law_243 : decode cL_law 243 = .ok (.iadd, 1) := by decide +kernel
theorem dL_law_244 : decode cL_law 244 = .ok (.iaload, 1) := by decide +kernel
theorem dL_law_245 : decode cL_law 245 = .ok (.aload_n 0, 1) := by decide +kernel
theorem dL_law_246 : decode cL_law 246 = .ok (.iload_n 3, 1) := by decide +kernel
theorem dL_law_247 : decode cL_law 247 = .ok (.iconst 2, 1) := by decide +kernel
theorem dL_law_248 : decode cL_law 248 = .ok (.iadd, 1) := by decide +kernel
theorem dL_law_249 : decode cL_law 249 = .ok (.iaload, 1) := by decide +kernel
theorem dL_law_250 : decode cL_law 250 = .ok (.aload_n 0, 1) := by decide +kernel
theorem dL_law_251 : decode cL_law 251 = .ok (.iload_n 3, 1) := by decide +kernel
theorem dL_law_252 : decode cL_law 252 = .ok (.iconst 3, 1) := by decide +kernel
theorem dL_law_253 : decode cL_law 253 = .ok (.iadd, 1) := by decide +kernel
theorem dL_law_254 : decode cL_law 254 = .ok (.iaload, 1) := by decide +kernel
theorem dL_law_255 : decode cL_law 255 = .ok (.invokevirtual 27, 3) := by decide +kernel
theorem dL_law_258 : decode cL_law 258 = .ok (.aload_n 2, 1) := by decide +kernel
theorem dL_law_259 : decode cL_law 259 = .ok (.aload_n 0, 1) := by decide +kernel
theorem dL_law_260 : decode cL_law 260 = .ok (.iload_n 3, 1) := by decide +kernel
theorem dL_law_261 : decode cL_law 261 = .ok (.iconst 1, 1) := by decide +kernel
theorem dL_law_262 : decode cL_law 262 = .ok (.iadd, 1) := by decide +kernel
theorem dL_law_263 : decode cL_law 263 = .ok (.iaload, 1) := by decide +kernel
theorem dL_law_264 : decode cL_law 264 = .ok (.aload_n 0, 1) := by decide +kernel
theorem dL_law_265 : decode cL_law 265 = .ok (.iload_n 3, 1) := by decide +kernel
theorem dL_law_266 : decode cL_law 266 = .ok (.iconst 2, 1) := by decide +kernel
theorem dL_law_267 : decode cL_law 267 = .ok (.iadd, 1) := by decide +kernel
theorem dL_law_268 : decode cL_law 268 = .ok (.iaload, 1) := by decide +kernel
theorem dL_law_269 : decode cL_law 269 = .ok (.aload_n 0, 1) := by decide +kernel
theorem dL_law_270 : decode cL_law 270 = .ok (.iload_n 3, 1) := by decide +kernel
theorem dL_law_271 : decode cL_law 271 = .ok (.iconst 3, 1) := by decide +kernel
theorem dL_law_272 : decode cL_law 272 = .ok (.iadd, 1) := by decide +kernel
theorem dL_law_273 : decode cL_law 273 = .ok (.iaload, 1) := by decide +kernel
theorem dL_law_274 : decode cL_law 274 = .ok (.invokevirtual 30, 3) := by decide +kernel
theorem dL_law_277 : decode cL_law 277 = .ok (.if_icmp .eq 437, 3) := by decide +kernel
theorem dL_law_280 : decode cL_law 280 = .ok (.iconst 0, 1) := by decide +kernel
theorem dL_law_281 : decode cL_law 281 = .ok (.ireturn, 1) := by decide +kernel
theorem dL_law_282 : decode cL_law 282 = .ok (.aload_n 1, 1) := by decide +kernel
theorem dL_law_283 : decode cL_law 283 = .ok (.aload_n 0, 1) := by decide +kernel
theorem dL_law_284 : decode cL_law 284 = .ok (.iload_n 3, 1) := by decide +kernel
theorem dL_law_285 : decode cL_law 285 = .ok (.iconst 1, 1) := by decide +kernel
theorem dL_law_286 : decode cL_law 286 = .ok (.iadd, 1) := by decide +kernel
theorem dL_law_287 : decode cL_law 287 = .ok (.iaload, 1) := by decide +kernel
theorem dL_law_288 : decode cL_law 288 = .ok (.invokevirtual 31, 3) := by decide +kernel
theorem dL_law_291 : decode cL_law 291 = .ok (.aload_n 2, 1) := by decide +kernel
theorem dL_law_292 : decode cL_law 292 = .ok (.aload_n 0, 1) := by decide +kernel
theorem dL_law_293 : decode cL_law 293 = .ok (.iload_n 3, 1) := by decide +kernel
theorem dL_law_294 : decode cL_law 294 = .ok (.iconst 1, 1) := by decide +kernel
theorem dL_law_295 : decode cL_law 295 = .ok (.iadd, 1) := by decide +kernel
theorem dL_law_296 : decode cL_law 296 = .ok (.iaload, 1) := by decide +kernel
theorem dL_law_297 : decode cL_law 297 = .ok (.invokevirtual 35, 3) := by decide +kernel
theorem dL_law_300 : decode cL_law 300 = .ok (.if_icmp .eq 414, 3) := by decide +kernel
theorem dL_law_303 : decode cL_law 303 = .ok (.iconst 0, 1) := by decide +kernel
theorem dL_law_304 : decode cL_law 304 = .ok (.ireturn, 1) := by decide +kernel
theorem dL_law_305 : decode cL_law 305 = .ok (.aload_n 1, 1) := by decide +kernel
theorem dL_law_306 : decode cL_law 306 = .ok (.aload_n 0, 1) := by decide +kernel
theorem dL_law_307 : decode cL_law 307 = .ok (.iload_n 3, 1) := by decide +kernel
theorem dL_law_308 : decode cL_law 308 = .ok (.iconst 1, 1) := by decide +kernel
theorem dL_law_309 : decode cL_law 309 = .ok (.iadd, 1) := by decide +kernel
theorem dL_law_310 : decode cL_law 310 = .ok (.iaload, 1) := by decide +kernel
theorem dL_law_311 : decode cL_law 311 = .ok (.invokevirtual 36, 3) := by decide +kernel
theorem dL_law_314 : decode cL_law 314 = .ok (.aload_n 2, 1) := by decide +kernel
theorem dL_law_315 : decode cL_law 315 = .ok (.aload_n 0, 1) := by decide +kernel
theorem dL_law_316 : decode cL_law 316 = .ok (.iload_n 3, 1) := by decide +kernel
theorem dL_law_317 : decode cL_law 317 = .ok (.iconst 1, 1) := by decide +kernel
theorem dL_law_318 : decode cL_law 318 = .ok (.iadd, 1) := by decide +kernel
theorem dL_law_319 : decode cL_law 319 = .ok (.iaload, 1) := by decide +kernel
theorem dL_law_320 : decode cL_law 320 = .ok (.invokevirtual 39, 3) := by decide +kernel
theorem dL_law_323 : decode cL_law 323 = .ok (.if_icmp .eq 391, 3) := by decide +kernel
theorem dL_law_326 : decode cL_law 326 = .ok (.iconst 0, 1) := by decide +kernel
theorem dL_law_327 : decode cL_law 327 = .ok (.ireturn, 1) := by decide +kernel
theorem dL_law_328 : decode cL_law 328 = .ok (.aload_n 1, 1) := by decide +kernel
theorem dL_law_329 : decode cL_law 329 = .ok (.aload_n 0, 1) := by decide +kernel
theorem dL_law_330 : decode cL_law 330 = .ok (.iload_n 3, 1) := by decide +kernel
theorem dL_law_331 : decode cL_law 331 = .ok (.iconst 1, 1) := by decide +kernel
theorem dL_law_332 : decode cL_law 332 = .ok (.iadd, 1) := by decide +kernel
theorem dL_law_333 : decode cL_law 333 = .ok (.iaload, 1) := by decide +kernel
theorem dL_law_334 : decode cL_law 334 = .ok (.invokevirtual 40, 3) := by decide +kernel
theorem dL_law_337 : decode cL_law 337 = .ok (.aload_n 2, 1) := by decide +kernel
theorem dL_law_338 : decode cL_law 338 = .ok (.aload_n 0, 1) := by decide +kernel
theorem dL_law_339 : decode cL_law 339 = .ok (.iload_n 3, 1) := by decide +kernel
theorem dL_law_340 : decode cL_law 340 = .ok (.iconst 1, 1) := by decide +kernel
theorem dL_law_341 : decode cL_law 341 = .ok (.iadd, 1) := by decide +kernel
theorem dL_law_342 : decode cL_law 342 = .ok (.iaload, 1) := by decide +kernel
theorem dL_law_343 : decode cL_law 343 = .ok (.invokevirtual 43, 3) := by decide +kernel
theorem dL_law_346 : decode cL_law 346 = .ok (.if_icmp .eq 368, 3) := by decide +kernel
theorem dL_law_349 : decode cL_law 349 = .ok (.iconst 0, 1) := by decide +kernel
theorem dL_law_350 : decode cL_law 350 = .ok (.ireturn, 1) := by decide +kernel
theorem dL_law_351 : decode cL_law 351 = .ok (.aload_n 1, 1) := by decide +kernel
theorem dL_law_352 : decode cL_law 352 = .ok (.aload_n 0, 1) := by decide +kernel
theorem dL_law_353 : decode cL_law 353 = .ok (.iload_n 3, 1) := by decide +kernel
theorem dL_law_354 : decode cL_law 354 = .ok (.iconst 1, 1) := by decide +kernel
theorem dL_law_355 : decode cL_law 355 = .ok (.iadd, 1) := by decide +kernel
theorem dL_law_356 : decode cL_law 356 = .ok (.iaload, 1) := by decide +kernel
theorem dL_law_357 : decode cL_law 357 = .ok (.aload_n 0, 1) := by decide +kernel
theorem dL_law_358 : decode cL_law 358 = .ok (.iload_n 3, 1) := by decide +kernel
theorem dL_law_359 : decode cL_law 359 = .ok (.iconst 2, 1) := by decide +kernel
theorem dL_law_360 : decode cL_law 360 = .ok (.iadd, 1) := by decide +kernel
theorem dL_law_361 : decode cL_law 361 = .ok (.iaload, 1) := by decide +kernel
theorem dL_law_362 : decode cL_law 362 = .ok (.invokevirtual 44, 3) := by decide +kernel
theorem dL_law_365 : decode cL_law 365 = .ok (.aload_n 2, 1) := by decide +kernel
theorem dL_law_366 : decode cL_law 366 = .ok (.aload_n 0, 1) := by decide +kernel
theorem dL_law_367 : decode cL_law 367 = .ok (.iload_n 3, 1) := by decide +kernel
theorem dL_law_368 : decode cL_law 368 = .ok (.iconst 1, 1) := by decide +kernel
theorem dL_law_369 : decode cL_law 369 = .ok (.iadd, 1) := by decide +kernel
theorem dL_law_370 : decode cL_law 370 = .ok (.iaload, 1) := by decide +kernel
theorem dL_law_371 : decode cL_law 371 = .ok (.aload_n 0, 1) := by decide +kernel
theorem dL_law_372 : decode cL_law 372 = .ok (.iload_n 3, 1) := by decide +kernel
theorem dL_law_373 : decode cL_law 373 = .ok (.iconst 2, 1) := by decide +kernel
theorem dL_law_374 : decode cL_law 374 = .ok (.iadd, 1) := by decide +kernel
theorem dL_law_375 : decode cL_law 375 = .ok (.iaload, 1) := by decide +kernel
theorem dL_law_376 : decode cL_law 376 = .ok (.invokevirtual 47, 3) := by decide +kernel
theorem dL_law_379 : decode cL_law 379 = .ok (.if_icmp .eq 335, 3) := by decide +kernel
theorem dL_law_382 : decode cL_law 382 = .ok (.iconst 0, 1) := by decide +kernel
theorem dL_law_383 : decode cL_law 383 = .ok (.ireturn, 1) := by decide +kernel
theorem dL_law_384 : decode cL_law 384 = .ok (.aload_n 1, 1) := by decide +kernel
theorem dL_law_385 : decode cL_law 385 = .ok (.aload_n 0, 1) := by decide +kernel
theorem dL_law_386 : decode cL_law 386 = .ok (.iload_n 3, 1) := by decide +kernel
theorem dL_law_387 : decode cL_law 387 = .ok (.iconst 1, 1) := by decide +kernel
theorem dL_law_388 : decode cL_law 388 = .ok (.iadd, 1) := by decide +kernel
theorem dL_law_389 : decode cL_law 389 = .ok (.iaload, 1) := by decide +kernel
theorem dL_law_390 : decode cL_law 390 = .ok (.aload_n 0, 1) := by decide +kernel
theorem dL_law_391 : decode cL_law 391 = .ok (.iload_n 3, 1) := by decide +kernel
theorem dL_law_392 : decode cL_law 392 = .ok (.iconst 2, 1) := by decide +kernel
theorem dL_law_393 : decode cL_law 393 = .ok (.iadd, 1) := by decide +kernel
theorem dL_law_394 : decode cL_law 394 = .ok (.iaload, 1) := by decide +kernel
theorem dL_law_395 : decode cL_law 395 = .ok (.invokevirtual 48, 3) := by decide +kernel
theorem dL_law_398 : decode cL_law 398 = .ok (.aload_n 2, 1) := by decide +kernel
theorem dL_law_399 : decode cL_law 399 = .ok (.aload_n 0, 1) := by decide +kernel
theorem dL_law_400 : decode cL_law 400 = .ok (.iload_n 3, 1) := by decide +kernel
theorem dL_law_401 : decode cL_law 401 = .ok (.iconst 1, 1) := by decide +kernel
theorem dL_law_402 : decode cL_law 402 = .ok (.iadd, 1) := by decide +kernel
theorem dL_law_403 : decode cL_law 403 = .ok (.iaload, 1) := by decide +kernel
theorem dL_law_404 : decode cL_law 404 = .ok (.aload_n 0, 1) := by decide +kernel
theorem dL_law_405 : decode cL_law 405 = .ok (.iload_n 3, 1) := by decide +kernel
theorem dL_law_406 : decode cL_law 406 = .ok (.iconst 2, 1) := by decide +kernel
theorem dL_law_407 : decode cL_law 407 = .ok (.iadd, 1) := by decide +kernel
theorem dL_law_408 : decode cL_law 408 = .ok (.iaload, 1) := by decide +kernel
theorem dL_law_409 : decode cL_law 409 = .ok (.invokevirtual 51, 3) := by decide +kernel
theorem dL_law_412 : decode cL_law 412 = .ok (.if_icmp .eq 302, 3) := by decide +kernel
theorem dL_law_415 : decode cL_law 415 = .ok (.iconst 0, 1) := by decide +kernel
theorem dL_law_416 : decode cL_law 416 = .ok (.ireturn, 1) := by decide +kernel
theorem dL_law_417 : decode cL_law 417 = .ok (.aload_n 1, 1) := by decide +kernel
theorem dL_law_418 : decode cL_law 418 = .ok (.aload_n 0, 1) := by decide +kernel
theorem dL_law_419 : decode cL_law 419 = .ok (.iload_n 3, 1) := by decide +kernel
theorem dL_law_420 : decode cL_law 420 = .ok (.iconst 1, 1) := by decide +kernel
theorem dL_law_421 : decode cL_law 421 = .ok (.iadd, 1) := by decide +kernel
theorem dL_law_422 : decode cL_law 422 = .ok (.iaload, 1) := by decide +kernel
theorem dL_law_423 : decode cL_law 423 = .ok (.aload_n 0, 1) := by decide +kernel
theorem dL_law_424 : decode cL_law 424 = .ok (.iload_n 3, 1) := by decide +kernel
theorem dL_law_425 : decode cL_law 425 = .ok (.iconst 2, 1) := by decide +kernel
theorem dL_law_426 : decode cL_law 426 = .ok (.iadd, 1) := by decide +kernel
theorem dL_law_427 : decode cL_law 427 = .ok (.iaload, 1) := by decide +kernel
theorem dL_law_428 : decode cL_law 428 = .ok (.i2l, 1) := by decide +kernel
theorem dL_law_429 : decode cL_law 429 = .ok (.bipush 32, 2) := by decide +kernel
theorem dL_law_431 : decode cL_law 431 = .ok (.lshl, 1) := by decide +kernel
theorem dL_law_432 : decode cL_law 432 = .ok (.aload_n 0, 1) := by decide +kernel
theorem dL_law_433 : decode cL_law 433 = .ok (.iload_n 3, 1) := by decide +kernel
theorem dL_law_434 : decode cL_law 434 = .ok (.iconst 3, 1) := by decide +kernel
theorem dL_law_435 : decode cL_law 435 = .ok (.iadd, 1) := by decide +kernel
theorem dL_law_436 : decode cL_law 436 = .ok (.iaload, 1) := by decide +kernel
theorem dL_law_437 : decode cL_law 437 = .ok (.i2l, 1) := by decide +kernel
theorem dL_law_438 : decode cL_law 438 = .ok (.ldc2_w 52, 3) := by decide +kernel
theorem dL_law_441 : decode cL_law 441 = .ok (.land, 1) := by decide +kernel
theorem dL_law_442 : decode cL_law 442 = .ok (.lor, 1) := by decide +kernel
theorem dL_law_443 : decode cL_law 443 = .ok (.invokevirtual 54, 3) := by decide +kernel
theorem dL_law_446 : decode cL_law 446 = .ok (.aload_n 2, 1) := by decide +kernel
theorem dL_law_447 : decode cL_law 447 = .ok (.aload_n 0, 1) := by decide +kernel
theorem dL_law_448 : decode cL_law 448 = .ok (.iload_n 3, 1) := by decide +kernel
theorem dL_law_449 : decode cL_law 449 = .ok (.iconst 1, 1) := by decide +kernel
theorem dL_law_450 : decode cL_law 450 = .ok (.iadd, 1) := by decide +kernel
theorem dL_law_451 : decode cL_law 451 = .ok (.iaload, 1) := by decide +kernel
theorem dL_law_452 : decode cL_law 452 = .ok (.aload_n 0, 1) := by decide +kernel
theorem dL_law_453 : decode cL_law 453 = .ok (.iload_n 3, 1) := by decide +kernel
theorem dL_law_454 : decode cL_law 454 = .ok (.iconst 2, 1) := by decide +kernel
theorem dL_law_455 : decode cL_law 455 = .ok (.iadd, 1) := by decide +kernel
theorem dL_law_456 : decode cL_law 456 = .ok (.iaload, 1) := by decide +kernel
theorem dL_law_457 : decode cL_law 457 = .ok (.i2l, 1) := by decide +kernel
theorem dL_law_458 : decode cL_law 458 = .ok (.bipush 32, 2) := by decide +kernel
theorem dL_law_460 : decode cL_law 460 = .ok (.lshl, 1) := by decide +kernel
theorem dL_law_461 : decode cL_law 461 = .ok (.aload_n 0, 1) := by decide +kernel
theorem dL_law_462 : decode cL_law 462 = .ok (.iload_n 3, 1) := by decide +kernel
theorem dL_law_463 : decode cL_law 463 = .ok (.iconst 3, 1) := by decide +kernel
theorem dL_law_464 : decode cL_law 464 = .ok (.iadd, 1) := by decide +kernel
theorem dL_law_465 : decode cL_law 465 = .ok (.iaload, 1) := by decide +kernel
theorem dL_law_466 : decode cL_law 466 = .ok (.i2l, 1) := by decide +kernel
theorem dL_law_467 : decode cL_law 467 = .ok (.ldc2_w 52, 3) := by decide +kernel
theorem dL_law_470 : decode cL_law 470 = .ok (.land, 1) := by decide +kernel
theorem dL_law_471 : decode cL_law 471 = .ok (.lor, 1) := by decide +kernel
theorem dL_law_472 : decode cL_law 472 = .ok (.invokevirtual 58, 3) := by decide +kernel
theorem dL_law_475 : decode cL_law 475 = .ok (.if_icmp .eq 239, 3) := by decide +kernel
theorem dL_law_478 : decode cL_law 478 = .ok (.iconst 0, 1) := by decide +kernel
theorem dL_law_479 : decode cL_law 479 = .ok (.ireturn, 1) := by decide +kernel
theorem dL_law_480 : decode cL_law 480 = .ok (.aload_n 1, 1) := by decide +kernel
theorem dL_law_481 : decode cL_law 481 = .ok (.aload_n 0, 1) := by decide +kernel
theorem dL_law_482 : decode cL_law 482 = .ok (.iload_n 3, 1) := by decide +kernel
theorem dL_law_483 : decode cL_law 483 = .ok (.iconst 1, 1) := by decide +kernel
theorem dL_law_484 : decode cL_law 484 = .ok (.iadd, 1) := by decide +kernel
theorem dL_law_485 : decode cL_law 485 = .ok (.iaload, 1) := by decide +kernel
theorem dL_law_486 : decode cL_law 486 = .ok (.invokevirtual 59, 3) := by decide +kernel
theorem dL_law_489 : decode cL_law 489 = .ok (.aload_n 2, 1) := by decide +kernel
theorem dL_law_490 : decode cL_law 490 = .ok (.aload_n 0, 1) := by decide +kernel
theorem dL_law_491 : decode cL_law 491 = .ok (.iload_n 3, 1) := by decide +kernel
theorem dL_law_492 : decode cL_law 492 = .ok (.iconst 1, 1) := by decide +kernel
theorem dL_law_493 : decode cL_law 493 = .ok (.iadd, 1) := by decide +kernel
theorem dL_law_494 : decode cL_law 494 = .ok (.iaload, 1) := by decide +kernel
theorem dL_law_495 : decode cL_law 495 = .ok (.invokevirtual 62, 3) := by decide +kernel
theorem dL_law_498 : decode cL_law 498 = .ok (.if_icmp .eq 216, 3) := by decide +kernel
theorem dL_law_501 : decode cL_law 501 = .ok (.iconst 0, 1) := by decide +kernel
theorem dL_law_502 : decode cL_law 502 = .ok (.ireturn, 1) := by decide +kernel
theorem dL_law_503 : decode cL_law 503 = .ok (.aload_n 1, 1) := by decide +kernel
theorem dL_law_504 : decode cL_law 504 = .ok (.invokevirtual 63, 3) := by decide +kernel
theorem dL_law_507 : decode cL_law 507 = .ok (.aload_n 2, 1) := by decide +kernel
theorem dL_law_508 : decode cL_law 508 = .ok (.invokevirtual 67, 3) := by decide +kernel
theorem dL_law_511 : decode cL_law 511 = .ok (.if_icmp .eq 203, 3) := by decide +kernel
theorem dL_law_514 : decode cL_law 514 = .ok (.iconst 0, 1) := by decide +kernel
theorem dL_law_515 : decode cL_law 515 = .ok (.ireturn, 1) := by decide +kernel
theorem dL_law_516 : decode cL_law 516 = .ok (.aload_n 1, 1) := by decide +kernel
theorem dL_law_517 : decode cL_law 517 = .ok (.aload_n 0, 1) := by decide +kernel
theorem dL_law_518 : decode cL_law 518 = .ok (.iload_n 3, 1) := by decide +kernel
theorem dL_law_519 : decode cL_law 519 = .ok (.iconst 1, 1) := by decide +kernel
theorem dL_law_520 : decode cL_law 520 = .ok (.iadd, 1) := by decide +kernel
theorem dL_law_521 : decode cL_law 521 = .ok (.iaload, 1) := by decide +kernel
theorem dL_law_522 : decode cL_law 522 = .ok (.invokevirtual 68, 3) := by decide +kernel
theorem dL_law_525 : decode cL_law 525 = .ok (.aload_n 2, 1) := by decide +kernel
theorem dL_law_526 : decode cL_law 526 = .ok (.aload_n 0, 1) := by decide +kernel
theorem dL_law_527 : decode cL_law 527 = .ok (.iload_n 3, 1) := by decide +kernel
theorem dL_law_528 : decode cL_law 528 = .ok (.iconst 1, 1) := by decide +kernel
theorem dL_law_529 : decode cL_law 529 = .ok (.iadd, 1) := by decide +kernel
theorem dL_law_530 : decode cL_law 530 = .ok (.iaload, 1) := by decide +kernel
theorem dL_law_531 : decode cL_law 531 = .ok (.invokevirtual 71, 3) := by decide +kernel
theorem dL_law_534 : decode cL_law 534 = .ok (.if_icmp .eq 180, 3) := by decide +kernel
theorem dL_law_537 : decode cL_law 537 = .ok (.iconst 0, 1) := by decide +kernel
theorem dL_law_538 : decode cL_law 538 = .ok (.ireturn, 1) := by decide +kernel
theorem dL_law_539 : decode cL_law 539 = .ok (.aload_n 1, 1) := by decide +kernel
theorem dL_law_540 : decode cL_law 540 = .ok (.aload_n 0, 1) := by decide +kernel
theorem dL_law_541 : decode cL_law 541 = .ok (.iload_n 3, 1) := by decide +kernel
theorem dL_law_542 : decode cL_law 542 = .ok (.iconst 1, 1) := by decide +kernel
theorem dL_law_543 : decode cL_law 543 = .ok (.iadd, 1) := by decide +kernel
theorem dL_law_544 : decode cL_law 544 = .ok (.iaload, 1) := by decide +kernel
theorem dL_law_545 : decode cL_law 545 = .ok (.aload_n 0, 1) := by decide +kernel
theorem dL_law_546 : decode cL_law 546 = .ok (.iload_n 3, 1) := by decide +kernel
theorem dL_law_547 : decode cL_law 547 = .ok (.iconst 2, 1) := by decide +kernel
theorem dL_law_548 : decode cL_law 548 = .ok (.iadd, 1) := by decide +kernel
theorem dL_law_549 : decode cL_law 549 = .ok (.iaload, 1) := by decide +kernel
theorem dL_law_550 : decode cL_law 550 = .ok (.aload_n 0, 1) := by decide +kernel
theorem dL_law_551 : decode cL_law 551 = .ok (.iload_n 3, 1) := by decide +kernel
theorem dL_law_552 : decode cL_law 552 = .ok (.iconst 3, 1) := by decide +kernel
theorem dL_law_553 : decode cL_law 553 = .ok (.iadd, 1) := by decide +kernel
theorem dL_law_554 : decode cL_law 554 = .ok (.iaload, 1) := by decide +kernel
theorem dL_law_555 : decode cL_law 555 = .ok (.aload_n 0, 1) := by decide +kernel
theorem dL_law_556 : decode cL_law 556 = .ok (.iload_n 3, 1) := by decide +kernel
theorem dL_law_557 : decode cL_law 557 = .ok (.iconst 4, 1) := by decide +kernel
theorem dL_law_558 : decode cL_law 558 = .ok (.iadd, 1) := by decide +kernel
theorem dL_law_559 : decode cL_law 559 = .ok (.iaload, 1) := by decide +kernel
theorem dL_law_560 : decode cL_law 560 = .ok (.invokevirtual 72, 3) := by decide +kernel
theorem dL_law_563 : decode cL_law 563 = .ok (.aload_n 2, 1) := by decide +kernel
theorem dL_law_564 : decode cL_law 564 = .ok (.aload_n 0, 1) := by decide +kernel
theorem dL_law_565 : decode cL_law 565 = .ok (.iload_n 3, 1) := by decide +kernel
theorem dL_law_566 : decode cL_law 566 = .ok (.iconst 1, 1) := by decide +kernel
theorem dL_law_567 : decode cL_law 567 = .ok (.iadd, 1) := by decide +kernel
theorem dL_law_568 : decode cL_law 568 = .ok (.iaload, 1) := by decide +kernel
theorem dL_law_569 : decode cL_law 569 = .ok (.aload_n 0, 1) := by decide +kernel
theorem dL_law_570 : decode cL_law 570 = .ok (.iload_n 3, 1) := by decide +kernel
theorem dL_law_571 : decode cL_law 571 = .ok (.iconst 2, 1) := by decide +kernel
theorem dL_law_572 : decode cL_law 572 = .ok (.iadd, 1) := by decide +kernel
theorem dL_law_573 : decode cL_law 573 = .ok (.iaload, 1) := by decide +kernel
theorem dL_law_574 : decode cL_law 574 = .ok (.aload_n 0, 1) := by decide +kernel
theorem dL_law_575 : decode cL_law 575 = .ok (.iload_n 3, 1) := by decide +kernel
theorem dL_law_576 : decode cL_law 576 = .ok (.iconst 3, 1) := by decide +kernel
theorem dL_law_577 : decode cL_law 577 = .ok (.iadd, 1) := by decide +kernel
theorem dL_law_578 : decode cL_law 578 = .ok (.iaload, 1) := by decide +kernel
theorem dL_law_579 : decode cL_law 579 = .ok (.aload_n 0, 1) := by decide +kernel
theorem dL_law_580 : decode cL_law 580 = .ok (.iload_n 3, 1) := by decide +kernel
theorem dL_law_581 : decode cL_law 581 = .ok (.iconst 4, 1) := by decide +kernel
theorem dL_law_582 : decode cL_law 582 = .ok (.iadd, 1) := by decide +kernel
theorem dL_law_583 : decode cL_law 583 = .ok (.iaload, 1) := by decide +kernel
theorem dL_law_584 : decode cL_law 584 = .ok (.invokevirtual 76, 3) := by decide +kernel
theorem dL_law_587 : decode cL_law 587 = .ok (.if_icmp .eq 127, 3) := by decide +kernel
theorem dL_law_590 : decode cL_law 590 = .ok (.iconst 0, 1) := by decide +kernel
theorem dL_law_591 : decode cL_law 591 = .ok (.ireturn, 1) := by decide +kernel
theorem dL_law_592 : decode cL_law 592 = .ok (.aload_n 1, 1) := by decide +kernel
theorem dL_law_593 : decode cL_law 593 = .ok (.aload_n 0, 1) := by decide +kernel
theorem dL_law_594 : decode cL_law 594 = .ok (.iload_n 3, 1) := by decide +kernel
theorem dL_law_595 : decode cL_law 595 = .ok (.iconst 1, 1) := by decide +kernel
theorem dL_law_596 : decode cL_law 596 = .ok (.iadd, 1) := by decide +kernel
theorem dL_law_597 : decode cL_law 597 = .ok (.iaload, 1) := by decide +kernel
theorem dL_law_598 : decode cL_law 598 = .ok (.aload_n 0, 1) := by decide +kernel
theorem dL_law_599 : decode cL_law 599 = .ok (.iload_n 3, 1) := by decide +kernel
theorem dL_law_600 : decode cL_law 600 = .ok (.iconst 2, 1) := by decide +kernel
theorem dL_law_601 : decode cL_law 601 = .ok (.iadd, 1) := by decide +kernel
theorem dL_law_602 : decode cL_law 602 = .ok (.iaload, 1) := by decide +kernel
theorem dL_law_603 : decode cL_law 603 = .ok (.invokevirtual 77, 3) := by decide +kernel
theorem dL_law_606 : decode cL_law 606 = .ok (.aload_n 2, 1) := by decide +kernel
theorem dL_law_607 : decode cL_law 607 = .ok (.aload_n 0, 1) := by decide +kernel
theorem dL_law_608 : decode cL_law 608 = .ok (.iload_n 3, 1) := by decide +kernel
theorem dL_law_609 : decode cL_law 609 = .ok (.iconst 1, 1) := by decide +kernel
theorem dL_law_610 : decode cL_law 610 = .ok (.iadd, 1) := by decide +kernel
theorem dL_law_611 : decode cL_law 611 = .ok (.iaload, 1) := by decide +kernel
theorem dL_law_612 : decode cL_law 612 = .ok (.aload_n 0, 1) := by decide +kernel
theorem dL_law_613 : decode cL_law 613 = .ok (.iload_n 3, 1) := by decide +kernel
theorem dL_law_614 : decode cL_law 614 = .ok (.iconst 2, 1) := by decide +kernel
theorem dL_law_615 : decode cL_law 615 = .ok (.iadd, 1) := by decide +kernel
theorem dL_law_616 : decode cL_law 616 = .ok (.iaload, 1) := by decide +kernel
theorem dL_law_617 : decode cL_law 617 = .ok (.invokevirtual 80, 3) := by decide +kernel
theorem dL_law_620 : decode cL_law 620 = .ok (.if_icmp .eq 94, 3) := by decide +kernel
theorem dL_law_623 : decode cL_law 623 = .ok (.iconst 0, 1) := by decide +kernel
theorem dL_law_624 : decode cL_law 624 = .ok (.ireturn, 1) := by decide +kernel
theorem dL_law_625 : decode cL_law 625 = .ok (.aload_n 1, 1) := by decide +kernel
theorem dL_law_626 : decode cL_law 626 = .ok (.aload_n 0, 1) := by decide +kernel
theorem dL_law_627 : decode cL_law 627 = .ok (.iload_n 3, 1) := by decide +kernel
theorem dL_law_628 : decode cL_law 628 = .ok (.iconst 1, 1) := by decide +kernel
theorem dL_law_629 : decode cL_law 629 = .ok (.iadd, 1) := by decide +kernel
theorem dL_law_630 : decode cL_law 630 = .ok (.iaload, 1) := by decide +kernel
theorem dL_law_631 : decode cL_law 631 = .ok (.aload_n 0, 1) := by decide +kernel
theorem dL_law_632 : decode cL_law 632 = .ok (.iload_n 3, 1) := by decide +kernel
theorem dL_law_633 : decode cL_law 633 = .ok (.iconst 2, 1) := by decide +kernel
theorem dL_law_634 : decode cL_law 634 = .ok (.iadd, 1) := by decide +kernel
theorem dL_law_635 : decode cL_law 635 = .ok (.iaload, 1) := by decide +kernel
theorem dL_law_636 : decode cL_law 636 = .ok (.invokevirtual 81, 3) := by decide +kernel
theorem dL_law_639 : decode cL_law 639 = .ok (.aload_n 2, 1) := by decide +kernel
theorem dL_law_640 : decode cL_law 640 = .ok (.aload_n 0, 1) := by decide +kernel
theorem dL_law_641 : decode cL_law 641 = .ok (.iload_n 3, 1) := by decide +kernel
theorem dL_law_642 : decode cL_law 642 = .ok (.iconst 1, 1) := by decide +kernel
theorem dL_law_643 : decode cL_law 643 = .ok (.iadd, 1) := by decide +kernel
theorem dL_law_644 : decode cL_law 644 = .ok (.iaload, 1) := by decide +kernel
theorem dL_law_645 : decode cL_law 645 = .ok (.aload_n 0, 1) := by decide +kernel
theorem dL_law_646 : decode cL_law 646 = .ok (.iload_n 3, 1) := by decide +kernel
theorem dL_law_647 : decode cL_law 647 = .ok (.iconst 2, 1) := by decide +kernel
theorem dL_law_648 : decode cL_law 648 = .ok (.iadd, 1) := by decide +kernel
theorem dL_law_649 : decode cL_law 649 = .ok (.iaload, 1) := by decide +kernel
theorem dL_law_650 : decode cL_law 650 = .ok (.invokevirtual 84, 3) := by decide +kernel
theorem dL_law_653 : decode cL_law 653 = .ok (.if_icmp .eq 61, 3) := by decide +kernel
theorem dL_law_656 : decode cL_law 656 = .ok (.iconst 0, 1) := by decide +kernel
theorem dL_law_657 : decode cL_law 657 = .ok (.ireturn, 1) := by decide +kernel
theorem dL_law_658 : decode cL_law 658 = .ok (.aload_n 1, 1) := by decide +kernel
theorem dL_law_659 : decode cL_law 659 = .ok (.aload_n 0, 1) := by decide +kernel
theorem dL_law_660 : decode cL_law 660 = .ok (.iload_n 3, 1) := by decide +kernel
theorem dL_law_661 : decode cL_law 661 = .ok (.iconst 1, 1) := by decide +kernel
theorem dL_law_662 : decode cL_law 662 = .ok (.iadd, 1) := by decide +kernel
theorem dL_law_663 : decode cL_law 663 = .ok (.iaload, 1) := by decide +kernel
theorem dL_law_664 : decode cL_law 664 = .ok (.aload_n 0, 1) := by decide +kernel
theorem dL_law_665 : decode cL_law 665 = .ok (.iload_n 3, 1) := by decide +kernel
theorem dL_law_666 : decode cL_law 666 = .ok (.iconst 2, 1) := by decide +kernel
theorem dL_law_667 : decode cL_law 667 = .ok (.iadd, 1) := by decide +kernel
theorem dL_law_668 : decode cL_law 668 = .ok (.iaload, 1) := by decide +kernel
theorem dL_law_669 : decode cL_law 669 = .ok (.invokevirtual 85, 3) := by decide +kernel
theorem dL_law_672 : decode cL_law 672 = .ok (.aload_n 2, 1) := by decide +kernel
theorem dL_law_673 : decode cL_law 673 = .ok (.aload_n 0, 1) := by decide +kernel
theorem dL_law_674 : decode cL_law 674 = .ok (.iload_n 3, 1) := by decide +kernel
theorem dL_law_675 : decode cL_law 675 = .ok (.iconst 1, 1) := by decide +kernel
theorem dL_law_676 : decode cL_law 676 = .ok (.iadd, 1) := by decide +kernel
theorem dL_law_677 : decode cL_law 677 = .ok (.iaload, 1) := by decide +kernel
theorem dL_law_678 : decode cL_law 678 = .ok (.aload_n 0, 1) := by decide +kernel
theorem dL_law_679 : decode cL_law 679 = .ok (.iload_n 3, 1) := by decide +kernel
theorem dL_law_680 : decode cL_law 680 = .ok (.iconst 2, 1) := by decide +kernel
theorem dL_law_681 : decode cL_law 681 = .ok (.iadd, 1) := by decide +kernel
theorem dL_law_682 : decode cL_law 682 = .ok (.iaload, 1) := by decide +kernel
theorem dL_law_683 : decode cL_law 683 = .ok (.invokevirtual 88, 3) := by decide +kernel
theorem dL_law_686 : decode cL_law 686 = .ok (.if_icmp .eq 28, 3) := by decide +kernel
theorem dL_law_689 : decode cL_law 689 = .ok (.iconst 0, 1) := by decide +kernel
theorem dL_law_690 : decode cL_law 690 = .ok (.ireturn, 1) := by decide +kernel
theorem dL_law_691 : decode cL_law 691 = .ok (.aload_n 1, 1) := by decide +kernel
theorem dL_law_692 : decode cL_law 692 = .ok (.aload_n 0, 1) := by decide +kernel
theorem dL_law_693 : decode cL_law 693 = .ok (.iload_n 3, 1) := by decide +kernel
theorem dL_law_694 : decode cL_law 694 = .ok (.iconst 1, 1) := by decide +kernel
theorem dL_law_695 : decode cL_law 695 = .ok (.iadd, 1) := by decide +kernel
theorem dL_law_696 : decode cL_law 696 = .ok (.iaload, 1) := by decide +kernel
theorem dL_law_697 : decode cL_law 697 = .ok (.invokevirtual 89, 3) := by decide +kernel
theorem dL_law_700 : decode cL_law 700 = .ok (.aload_n 2, 1) := by decide +kernel
theorem dL_law_701 : decode cL_law 701 = .ok (.aload_n 0, 1) := by decide +kernel
theorem dL_law_702 : decode cL_law 702 = .ok (.iload_n 3, 1) := by decide +kernel
theorem dL_law_703 : decode cL_law 703 = .ok (.iconst 1, 1) := by decide +kernel
theorem dL_law_704 : decode cL_law 704 = .ok (.iadd, 1) := by decide +kernel
theorem dL_law_705 : decode cL_law 705 = .ok (.iaload, 1) := by decide +kernel
theorem dL_law_706 : decode cL_law 706 = .ok (.invokevirtual 92, 3) := by decide +kernel
theorem dL_law_709 : decode cL_law 709 = .ok (.if_icmp .eq 5, 3) := by decide +kernel
theorem dL_law_712 : decode cL_law 712 = .ok (.iconst 0, 1) := by decide +kernel
theorem dL_law_713 : decode cL_law 713 = .ok (.ireturn, 1) := by decide +kernel
theorem dL_law_714 : decode cL_law 714 = .ok (.iinc 3 5, 3) := by decide +kernel
theorem dL_law_717 : decode cL_law 717 = .ok (.goto (-699), 3) := by decide +kernel
theorem dL_law_720 : decode cL_law 720 = .ok (.iconst 1, 1) := by decide +kernel
theorem dL_law_721 : decode cL_law 721 = .ok (.ireturn, 1) := by decide +kernel
end
section
/-! the words that may be used, with their places -/
def tbl : List Cond := lw_tbl.filter goodWord
theorem tm (i : Nat) {w : Cond} (h : lw_tbl[i]? = some w) (g : goodWord w = true) : w ∈ tbl := List.mem_filter.mpr ⟨List.mem_of_getElem? h, g⟩
theorem tbl_good : GoodIn tbl tbl := fun w h => ⟨h, good_of_word (List.mem_filter.mp h).2⟩
theorem tbl_in : ∀ w ∈ tbl, w ∈ lw_tbl := fun w h => (List.mem_filter.mp h).1
theorem ly0_0 : u_lay RX0 TX0 0 ∈ tbl := tm 192 (by decide +kernel) (by decide +kernel)
theorem ly0_1 : u_lay RX0 TX0 1 ∈ tbl := tm 194 (by decide +kernel) (by decide +kernel)
theorem ly0_2 : u_lay RX0 TX0 2 ∈ tbl := tm 196 (by decide +kernel) (by decide +kernel)
theorem ly0_3 : u_lay RX0 TX0 3 ∈ tbl := tm 198 (by decide +kernel) (by decide +kernel)
theorem inX0 : ∀ w ∈ u_ws RX0 TX0 4, w ∈ tbl := by
  intro w h
  obtain ⟨k, hk, rfl⟩ := List.mem_map.mp h
  have hk := List.mem_range.mp hk
  match k, hk with
  | 0, _ => exact ly0_0
  | 1, _ => exact ly0_1
  | 2, _ => exact ly0_2
  | 3, _ => exact ly0_3
  | k + 4, hk => exact absurd hk (by omega)
theorem ly1_0 : u_lay RX1 TX1 0 ∈ tbl := tm 134 (by decide +kernel) (by decide +kernel)
theorem ly1_1 : u_lay RX1 TX1 1 ∈ tbl := tm 136 (by decide +kernel) (by decide +kernel)
theorem ly1_2 : u_lay RX1 TX1 2 ∈ tbl := tm 138 (by decide +kernel) (by decide +kernel)
theorem ly1_3 : u_lay RX1 TX1 3 ∈ tbl := tm 140 (by decide +kernel) (by decide +kernel)
theorem inX1 : ∀ w ∈ u_ws RX1 TX1 4, w ∈ tbl := by
  intro w h
  obtain ⟨k, hk, rfl⟩ := List.mem_map.mp h
  have hk := List.mem_range.mp hk
  match k, hk with
  | 0, _ => exact ly1_0
  | 1, _ => exact ly1_1
  | 2, _ => exact ly1_2
  | 3, _ => exact ly1_3
  | k + 4, hk => exact absurd hk (by omega)
theorem ly2_0 : u_lay RX2 TX2 0 ∈ tbl := tm 78 (by decide +kernel) (by decide +kernel)
theorem ly2_1 : u_lay RX2 TX2 1 ∈ tbl := tm 80 (by decide +kernel) (by decide +kernel)
theorem ly2_2 : u_lay RX2 TX2 2 ∈ tbl := tm 82 (by decide +kernel) (by decide +kernel)
theorem ly2_3 : u_lay RX2 TX2 3 ∈ tbl := tm 84 (by decide +kernel) (by decide +kernel)
theorem ly2_4 : u_lay RX2 TX2 4 ∈ tbl := tm 86 (by decide +kernel) (by decide +kernel)
theorem inX2 : ∀ w ∈ u_ws RX2 TX2 5, w ∈ tbl := by
  intro w h
  obtain ⟨k, hk, rfl⟩ := List.mem_map.mp h
  have hk := List.mem_range.mp hk
  match k, hk with
  | 0, _ => exact ly2_0
  | 1, _ => exact ly2_1
  | 2, _ => exact ly2_2
  | 3, _ => exact ly2_3
  | 4, _ => exact ly2_4
  | k + 5, hk => exact absurd hk (by omega)
theorem ly3_0 : u_lay RX3 TX3 0 ∈ tbl := tm 100 (by decide +kernel) (by decide +kernel)
theorem ly3_1 : u_lay RX3 TX3 1 ∈ tbl := tm 102 (by decide +kernel) (by decide +kernel)
theorem ly3_2 : u_lay RX3 TX3 2 ∈ tbl := tm 104 (by decide +kernel) (by decide +kernel)
theorem ly3_3 : u_lay RX3 TX3 3 ∈ tbl := tm 106 (by decide +kernel) (by decide +kernel)
theorem inX3 : ∀ w ∈ u_ws RX3 TX3 4, w ∈ tbl := by
  intro w h
  obtain ⟨k, hk, rfl⟩ := List.mem_map.mp h
  have hk := List.mem_range.mp hk
  match k, hk with
  | 0, _ => exact ly3_0
  | 1, _ => exact ly3_1
  | 2, _ => exact ly3_2
  | 3, _ => exact ly3_3
  | k + 4, hk => exact absurd hk (by omega)
theorem ly4_0 : u_lay RX4 TX4 0 ∈ tbl := tm 162 (by decide +kernel) (by decide +kernel)
theorem ly4_1 : u_lay RX4 TX4 1 ∈ tbl := tm 164 (by decide +kernel) (by decide +kernel)
theorem ly4_2 : u_lay RX4 TX4 2 ∈ tbl := tm 166 (by decide +kernel) (by decide +kernel)
theorem ly4_3 : u_lay RX4 TX4 3 ∈ tbl := tm 168 (by decide +kernel) (by decide +kernel)
theorem ly4_4 : u_lay RX4 TX4 4 ∈ tbl := tm 170 (by decide +kernel) (by decide +kernel)
theorem ly4_5 : u_lay RX4 TX4 5 ∈ tbl := tm 172 (by decide +kernel) (by decide +kernel)
theorem ly4_6 : u_lay RX4 TX4 6 ∈ tbl := tm 174 (by decide +kernel) (by decide +kernel)
theorem ly4_7 : u_lay RX4 TX4 7 ∈ tbl := tm 176 (by decide +kernel) (by decide +kernel)
theorem inX4 : ∀ w ∈ u_ws RX4 TX4 8, w ∈ tbl := by
  intro w h
  obtain ⟨k, hk, rfl⟩ := List.mem_map.mp h
  have hk := List.mem_range.mp hk
  match k, hk with
  | 0, _ => exact ly4_0
  | 1, _ => exact ly4_1
  | 2, _ => exact ly4_2
  | 3, _ => exact ly4_3
  | 4, _ => exact ly4_4
  | 5, _ => exact ly4_5
  | 6, _ => exact ly4_6
  | 7, _ => exact ly4_7
  | k + 8, hk => exact absurd hk (by omega)
theorem ly5_0 : u_lay RX5 TX5 0 ∈ tbl := tm 125 (by decide +kernel) (by decide +kernel)
theorem ly5_1 : u_lay RX5 TX5 1 ∈ tbl := tm 127 (by decide +kernel) (by decide +kernel)
theorem inX5 : ∀ w ∈ u_ws RX5 TX5 2, w ∈ tbl := by
  intro w h
  obtain ⟨k, hk, rfl⟩ := List.mem_map.mp h
  have hk := List.mem_range.mp hk
  match k, hk with
  | 0, _ => exact ly5_0
  | 1, _ => exact ly5_1
  | k + 2, hk => exact absurd hk (by omega)
theorem ly6_0 : u_lay RX6 TX6 0 ∈ tbl := tm 213 (by decide +kernel) (by decide +kernel)
theorem ly6_1 : u_lay RX6 TX6 1 ∈ tbl := tm 215 (by decide +kernel) (by decide +kernel)
theorem ly6_2 : u_lay RX6 TX6 2 ∈ tbl := tm 217 (by decide +kernel) (by decide +kernel)
theorem ly6_3 : u_lay RX6 TX6 3 ∈ tbl := tm 219 (by decide +kernel) (by decide +kernel)
theorem ly6_4 : u_lay RX6 TX6 4 ∈ tbl := tm 221 (by decide +kernel) (by decide +kernel)
theorem ly6_5 : u_lay RX6 TX6 5 ∈ tbl := tm 223 (by decide +kernel) (by decide +kernel)
theorem ly6_6 : u_lay RX6 TX6 6 ∈ tbl := tm 225 (by decide +kernel) (by decide +kernel)
theorem ly6_7 : u_lay RX6 TX6 7 ∈ tbl := tm 227 (by decide +kernel) (by decide +kernel)
theorem ly6_8 : u_lay RX6 TX6 8 ∈ tbl := tm 229 (by decide +kernel) (by decide +kernel)
theorem ly6_9 : u_lay RX6 TX6 9 ∈ tbl := tm 231 (by decide +kernel) (by decide +kernel)
theorem ly6_10 : u_lay RX6 TX6 10 ∈ tbl := tm 233 (by decide +kernel) (by decide +kernel)
theorem inX6 : ∀ w ∈ u_ws RX6 TX6 11, w ∈ tbl := by
  intro w h
  obtain ⟨k, hk, rfl⟩ := List.mem_map.mp h
  have hk := List.mem_range.mp hk
  match k, hk with
  | 0, _ => exact ly6_0
  | 1, _ => exact ly6_1
  | 2, _ => exact ly6_2
  | 3, _ => exact ly6_3
  | 4, _ => exact ly6_4
  | 5, _ => exact ly6_5
  | 6, _ => exact ly6_6
  | 7, _ => exact ly6_7
  | 8, _ => exact ly6_8
  | 9, _ => exact ly6_9
  | 10, _ => exact ly6_10
  | k + 11, hk => exact absurd hk (by omega)
theorem ly7_0 : u_lay RX7 TX7 0 ∈ tbl := tm 556 (by decide +kernel) (by decide +kernel)
theorem ly7_1 : u_lay RX7 TX7 1 ∈ tbl := tm 558 (by decide +kernel) (by decide +kernel)
theorem ly7_2 : u_lay RX7 TX7 2 ∈ tbl := tm 560 (by decide +kernel) (by decide +kernel)
theorem ly7_3 : u_lay RX7 TX7 3 ∈ tbl := tm 562 (by decide +kernel) (by decide +kernel)
theorem ly7_4 : u_lay RX7 TX7 4 ∈ tbl := tm 564 (by decide +kernel) (by decide +kernel)
theorem ly7_5 : u_lay RX7 TX7 5 ∈ tbl := tm 566 (by decide +kernel) (by decide +kernel)
theorem ly7_6 : u_lay RX7 TX7 6 ∈ tbl := tm 568 (by decide +kernel) (by decide +kernel)
theorem ly7_7 : u_lay RX7 TX7 7 ∈ tbl := tm 570 (by decide +kernel) (by decide +kernel)
theorem ly7_8 : u_lay RX7 TX7 8 ∈ tbl := tm 572 (by decide +kernel) (by decide +kernel)
theorem ly7_9 : u_lay RX7 TX7 9 ∈ tbl := tm 574 (by decide +kernel) (by decide +kernel)
theorem ly7_10 : u_lay RX7 TX7 10 ∈ tbl := tm 576 (by decide +kernel) (by decide +kernel)
theorem ly7_11 : u_lay RX7 TX7 11 ∈ tbl := tm 578 (by decide +kernel) (by decide +kernel)
theorem ly7_12 : u_lay RX7 TX7 12 ∈ tbl := tm 580 (by decide +kernel) (by decide +kernel)
theorem ly7_13 : u_lay RX7 TX7 13 ∈ tbl := tm 582 (by decide +kernel) (by decide +kernel)
theorem ly7_14 : u_lay RX7 TX7 14 ∈ tbl := tm 584 (by decide +kernel) (by decide +kernel)
theorem ly7_15 : u_lay RX7 TX7 15 ∈ tbl := tm 586 (by decide +kernel) (by decide +kernel)
theorem ly7_16 : u_lay RX7 TX7 16 ∈ tbl := tm 588 (by decide +kernel) (by decide +kernel)
theorem ly7_17 : u_lay RX7 TX7 17 ∈ tbl := tm 590 (by decide +kernel) (by decide +kernel)
theorem ly7_18 : u_lay RX7 TX7 18 ∈ tbl := tm 592 (by decide +kernel) (by decide +kernel)
theorem ly7_19 : u_lay RX7 TX7 19 ∈ tbl := tm 594 (by decide +kernel) (by decide +kernel)
theorem ly7_20 : u_lay RX7 TX7 20 ∈ tbl := tm 596 (by decide +kernel) (by decide +kernel)
theorem ly7_21 : u_lay RX7 TX7 21 ∈ tbl := tm 598 (by decide +kernel) (by decide +kernel)
theorem ly7_22 : u_lay RX7 TX7 22 ∈ tbl := tm 600 (by decide +kernel) (by decide +kernel)
theorem ly7_23 : u_lay RX7 TX7 23 ∈ tbl := tm 602 (by decide +kernel) (by decide +kernel)
theorem ly7_24 : u_lay RX7 TX7 24 ∈ tbl := tm 604 (by decide +kernel) (by decide +kernel)
theorem ly7_25 : u_lay RX7 TX7 25 ∈ tbl := tm 606 (by decide +kernel) (by decide +kernel)
theorem ly7_26 : u_lay RX7 TX7 26 ∈ tbl := tm 608 (by decide +kernel) (by decide +kernel)
theorem ly7_27 : u_lay RX7 TX7 27 ∈ tbl := tm 610 (by decide +kernel) (by decide +kernel)
theorem ly7_28 : u_lay RX7 TX7 28 ∈ tbl := tm 612 (by decide +kernel) (by decide +kernel)
theorem ly7_29 : u_lay RX7 TX7 29 ∈ tbl := tm 614 (by decide +kernel) (by decide +kernel)
theorem ly7_30 : u_lay RX7 TX7 30 ∈ tbl := tm 616 (by decide +kernel) (by decide +kernel)
theorem ly7_31 : u_lay RX7 TX7 31 ∈ tbl := tm 618 (by decide +kernel) (by decide +kernel)
theorem ly7_32 : u_lay RX7 TX7 32 ∈ tbl := tm 620 (by decide +kernel) (by decide +kernel)
theorem ly7_33 : u_lay RX7 TX7 33 ∈ tbl := tm 622 (by decide +kernel) (by decide +kernel)
theorem inX7 : ∀ w ∈ u_ws RX7 TX7 34, w ∈ tbl := by
  intro w h
  obtain ⟨k, hk, rfl⟩ := List.mem_map.mp h
  have hk := List.mem_range.mp hk
  match k, hk with
  | 0, _ => exact ly7_0
  | 1, _ => exact ly7_1
  | 2, _ => exact ly7_2
  | 3, _ => exact ly7_3
  | 4, _ => exact ly7_4
  | 5, _ => exact ly7_5
  | 6, _ => exact ly7_6
  | 7, _ => exact ly7_7
  | 8, _ => exact ly7_8
  | 9, _ => exact ly7_9
  | 10, _ => exact ly7_10
  | 11, _ => exact ly7_11
  | 12, _ => exact ly7_12
  | 13, _ => exact ly7_13
  | 14, _ => exact ly7_14
  | 15, _ => exact ly7_15
  | 16, _ => exact ly7_16
  | 17, _ => exact ly7_17
  | 18, _ => exact ly7_18
  | 19, _ => exact ly7_19
  | 20, _ => exact ly7_20
  | 21, _ => exact ly7_21
  | 22, _ => exact ly7_22
  | 23, _ => exact ly7_23
  | 24, _ => exact ly7_24
  | 25, _ => exact ly7_25
  | 26, _ => exact ly7_26
  | 27, _ => exact ly7_27
  | 28, _ => exact ly7_28
  | 29, _ => exact ly7_29
  | 30, _ => exact ly7_30
  | 31, _ => exact ly7_31
  | 32, _ => exact ly7_32
  | 33, _ => exact ly7_33
  | k + 34, hk => exact absurd hk (by omega)
def isNst : Cond → Bool | .fieldLinkNest .. => true | .methodLinkNest .. => true | _ => false
def nws : List Cond := lw_tbl.filter isNst
theorem tmn (i : Nat) {w : Cond} (h : lw_tbl[i]? = some w) (g : isNst w = true) : w ∈ nws := List.mem_filter.mpr ⟨List.mem_of_getElem? h, g⟩
theorem nws_in : ∀ w ∈ nws, w ∈ lw_tbl := fun w h => (List.mem_filter.mp h).1
theorem tn_26 : (Jvm.Cond.methodLinkNest "StoneBeds" (29 : Nat) ({ cls := "StoneBeds$Lorry", name := "<init>", desc := "()V" } : Jvm.MethodName) "StoneBeds") ∈ nws := tmn 65 (by decide +kernel) rfl
theorem tn_32 : (Jvm.Cond.fieldLinkNest "StoneBeds" (212 : Nat) "StoneBeds$Lorry" "parts" "I" "StoneBeds") ∈ nws := tmn 71 (by decide +kernel) rfl
theorem tn_34 : (Jvm.Cond.fieldLinkNest "StoneBeds" (220 : Nat) "StoneBeds$Lorry" "weight" "I" "StoneBeds") ∈ nws := tmn 73 (by decide +kernel) rfl
theorem tn_36 : (Jvm.Cond.fieldLinkNest "StoneBeds" (221 : Nat) "StoneBeds$Lorry" "front" "I" "StoneBeds") ∈ nws := tmn 75 (by decide +kernel) rfl
theorem tn_38 : (Jvm.Cond.fieldLinkNest "StoneBeds" (224 : Nat) "StoneBeds$Lorry" "rear" "I" "StoneBeds") ∈ nws := tmn 77 (by decide +kernel) rfl
theorem tn_53 : (Jvm.Cond.methodLinkNest "StoneBeds" (36 : Nat) ({ cls := "StoneBeds$Packer", name := "<init>", desc := "()V" } : Jvm.MethodName) "StoneBeds") ∈ nws := tmn 92 (by decide +kernel) rfl
theorem tn_78 : (Jvm.Cond.methodLinkNest "StoneBeds$Digger" (24 : Nat) ({ cls := "StoneBeds$Pile", name := "<init>", desc := "()V" } : Jvm.MethodName) "StoneBeds") ∈ nws := tmn 117 (by decide +kernel) rfl
theorem tn_84 : (Jvm.Cond.fieldLinkNest "StoneBeds$Digger" (36 : Nat) "StoneBeds$Pile" "height" "I" "StoneBeds") ∈ nws := tmn 123 (by decide +kernel) rfl
theorem tn_85 : (Jvm.Cond.fieldLinkNest "StoneBeds" (168 : Nat) "StoneBeds$Pile" "height" "I" "StoneBeds") ∈ nws := tmn 124 (by decide +kernel) rfl
theorem tn_105 : (Jvm.Cond.methodLinkNest "StoneBeds" (48 : Nat) ({ cls := "StoneBeds$Part", name := "<init>", desc := "()V" } : Jvm.MethodName) "StoneBeds") ∈ nws := tmn 144 (by decide +kernel) rfl
theorem tn_110 : (Jvm.Cond.fieldLinkNest "StoneBeds" (108 : Nat) "StoneBeds$Part" "length" "I" "StoneBeds") ∈ nws := tmn 149 (by decide +kernel) rfl
theorem tn_112 : (Jvm.Cond.fieldLinkNest "StoneBeds" (230 : Nat) "StoneBeds$Part" "plan" "I" "StoneBeds") ∈ nws := tmn 151 (by decide +kernel) rfl
theorem tn_114 : (Jvm.Cond.fieldLinkNest "StoneBeds" (204 : Nat) "StoneBeds$Part" "weight" "I" "StoneBeds") ∈ nws := tmn 153 (by decide +kernel) rfl
theorem tn_115 : (Jvm.Cond.fieldLinkNest "StoneBeds" (70 : Nat) "StoneBeds$Part" "need" "I" "StoneBeds") ∈ nws := tmn 154 (by decide +kernel) rfl
theorem tn_117 : (Jvm.Cond.fieldLinkNest "StoneBeds" (133 : Nat) "StoneBeds$Part" "where" "I" "StoneBeds") ∈ nws := tmn 156 (by decide +kernel) rfl
theorem tn_119 : (Jvm.Cond.fieldLinkNest "StoneBeds" (136 : Nat) "StoneBeds$Part" "number" "I" "StoneBeds") ∈ nws := tmn 158 (by decide +kernel) rfl
theorem tn_120 : (Jvm.Cond.fieldLinkNest "StoneBeds" (143 : Nat) "StoneBeds$Part" "camber" "I" "StoneBeds") ∈ nws := tmn 159 (by decide +kernel) rfl
theorem tn_122 : (Jvm.Cond.fieldLinkNest "StoneBeds" (146 : Nat) "StoneBeds$Part" "toBeStruck" "Z" "StoneBeds") ∈ nws := tmn 161 (by decide +kernel) rfl
theorem tn_141 : (Jvm.Cond.methodLinkNest "StoneBeds" (49 : Nat) ({ cls := "StoneBeds$Bed", name := "<init>", desc := "()V" } : Jvm.MethodName) "StoneBeds") ∈ nws := tmn 180 (by decide +kernel) rfl
theorem tn_146 : (Jvm.Cond.fieldLinkNest "StoneBeds" (96 : Nat) "StoneBeds$Bed" "parts" "I" "StoneBeds") ∈ nws := tmn 185 (by decide +kernel) rfl
theorem tn_148 : (Jvm.Cond.fieldLinkNest "StoneBeds" (243 : Nat) "StoneBeds$Bed" "length" "I" "StoneBeds") ∈ nws := tmn 187 (by decide +kernel) rfl
theorem tn_150 : (Jvm.Cond.fieldLinkNest "StoneBeds" (127 : Nat) "StoneBeds$Bed" "ripeness" "I" "StoneBeds") ∈ nws := tmn 189 (by decide +kernel) rfl
theorem tn_152 : (Jvm.Cond.fieldLinkNest "StoneBeds" (130 : Nat) "StoneBeds$Bed" "castHour" "I" "StoneBeds") ∈ nws := tmn 191 (by decide +kernel) rfl
theorem tn_162 : (Jvm.Cond.methodLinkNest "StoneBeds" (50 : Nat) ({ cls := "StoneBeds$Pile", name := "<init>", desc := "()V" } : Jvm.MethodName) "StoneBeds") ∈ nws := tmn 201 (by decide +kernel) rfl
theorem tw_0 : (Jvm.Cond.initialized "StoneBedsLaw") ∈ tbl := tm 39 (by decide +kernel) (by decide +kernel)
theorem tw_1 : (Jvm.Cond.initialized "StoneBeds") ∈ tbl := tm 40 (by decide +kernel) (by decide +kernel)
theorem tw_2 : (Jvm.Cond.initialized "StoneBeds$Lorry") ∈ tbl := tm 41 (by decide +kernel) (by decide +kernel)
theorem tw_3 : (Jvm.Cond.initialized "StoneBeds$Packer") ∈ tbl := tm 42 (by decide +kernel) (by decide +kernel)
theorem tw_4 : (Jvm.Cond.initialized "StoneBeds$Digger") ∈ tbl := tm 43 (by decide +kernel) (by decide +kernel)
theorem tw_5 : (Jvm.Cond.initialized "StoneBeds$Pile") ∈ tbl := tm 44 (by decide +kernel) (by decide +kernel)
theorem tw_6 : (Jvm.Cond.initialized "StoneBeds$Part") ∈ tbl := tm 45 (by decide +kernel) (by decide +kernel)
theorem tw_7 : (Jvm.Cond.initialized "StoneBeds$Bed") ∈ tbl := tm 46 (by decide +kernel) (by decide +kernel)
theorem tw_8 : (Jvm.Cond.initialized "StoneBedsModel") ∈ tbl := tm 47 (by decide +kernel) (by decide +kernel)
theorem tw_9 : (Jvm.Cond.initialized "java/lang/Math") ∈ tbl := tm 48 (by decide +kernel) (by decide +kernel)
theorem tw_10 : (Jvm.Cond.classLink "StoneBedsLaw" (7 : Nat) "StoneBeds") ∈ tbl := tm 49 (by decide +kernel) (by decide +kernel)
theorem tw_11 : (Jvm.Cond.instantiable "StoneBeds" (11 : Nat)) ∈ tbl := tm 50 (by decide +kernel) (by decide +kernel)
theorem tw_12 : (Jvm.Cond.methodLink "StoneBedsLaw" (9 : Nat) ({ cls := "StoneBeds", name := "<init>", desc := "()V" } : Jvm.MethodName)) ∈ tbl := tm 51 (by decide +kernel) (by decide +kernel)
theorem tw_13 : (Jvm.Cond.instanceMethod ({ cls := "StoneBeds", name := "<init>", desc := "()V" } : Jvm.MethodName)) ∈ tbl := tm 52 (by decide +kernel) (by decide +kernel)
theorem tw_14 : (Jvm.Cond.code ({ cls := "StoneBeds", name := "<init>", desc := "()V" } : Jvm.MethodName) prog_1_method_1_code (2 : Nat) (Option.none : Option Jvm.ClassFile.FieldType)) ∈ tbl := tm 53 (by decide +kernel) (by decide +kernel)
theorem tw_15 : (Jvm.Cond.methodLink "StoneBeds" (1 : Nat) ({ cls := "java/lang/Object", name := "<init>", desc := "()V" } : Jvm.MethodName)) ∈ tbl := tm 54 (by decide +kernel) (by decide +kernel)
theorem tw_16 : (Jvm.Cond.instanceMethod ({ cls := "java/lang/Object", name := "<init>", desc := "()V" } : Jvm.MethodName)) ∈ tbl := tm 55 (by decide +kernel) (by decide +kernel)
theorem tw_17 : (Jvm.Cond.code ({ cls := "java/lang/Object", name := "<init>", desc := "()V" } : Jvm.MethodName) object_method_1_code (1 : Nat) (Option.none : Option Jvm.ClassFile.FieldType)) ∈ tbl := tm 56 (by decide +kernel) (by decide +kernel)
theorem tw_18 : (Jvm.Cond.classLink "StoneBeds" (9 : Nat) "StoneBeds$Part") ∈ tbl := tm 57 (by decide +kernel) (by decide +kernel)
theorem tw_20 : (Jvm.Cond.classLink "StoneBeds" (15 : Nat) "StoneBeds$Bed") ∈ tbl := tm 59 (by decide +kernel) (by decide +kernel)
theorem tw_22 : (Jvm.Cond.classLink "StoneBeds" (21 : Nat) "StoneBeds$Pile") ∈ tbl := tm 61 (by decide +kernel) (by decide +kernel)
theorem tw_24 : (Jvm.Cond.classLink "StoneBeds" (27 : Nat) "StoneBeds$Lorry") ∈ tbl := tm 63 (by decide +kernel) (by decide +kernel)
theorem tw_25 : (Jvm.Cond.instantiable "StoneBeds$Lorry" (5 : Nat)) ∈ tbl := tm 64 (by decide +kernel) (by decide +kernel)
theorem tw_27 : (Jvm.Cond.instanceMethod ({ cls := "StoneBeds$Lorry", name := "<init>", desc := "()V" } : Jvm.MethodName)) ∈ tbl := tm 66 (by decide +kernel) (by decide +kernel)
theorem tw_28 : (Jvm.Cond.code ({ cls := "StoneBeds$Lorry", name := "<init>", desc := "()V" } : Jvm.MethodName) prog_4_method_1_code (1 : Nat) (Option.none : Option Jvm.ClassFile.FieldType)) ∈ tbl := tm 67 (by decide +kernel) (by decide +kernel)
theorem tw_29 : (Jvm.Cond.methodLink "StoneBeds$Lorry" (3 : Nat) ({ cls := "java/lang/Object", name := "<init>", desc := "()V" } : Jvm.MethodName)) ∈ tbl := tm 68 (by decide +kernel) (by decide +kernel)
theorem tw_30 : (Jvm.Cond.fieldLink "StoneBeds$Lorry" (9 : Nat) "StoneBeds$Lorry" "held" "[I") ∈ tbl := tm 69 (by decide +kernel) (by decide +kernel)
theorem tw_31 : (Jvm.Cond.fieldLink "StoneBeds$Lorry" (15 : Nat) "StoneBeds$Lorry" "parts" "I") ∈ tbl := tm 70 (by decide +kernel) (by decide +kernel)
theorem tw_33 : (Jvm.Cond.fieldLink "StoneBeds$Lorry" (19 : Nat) "StoneBeds$Lorry" "weight" "I") ∈ tbl := tm 72 (by decide +kernel) (by decide +kernel)
theorem tw_35 : (Jvm.Cond.fieldLink "StoneBeds$Lorry" (22 : Nat) "StoneBeds$Lorry" "front" "I") ∈ tbl := tm 74 (by decide +kernel) (by decide +kernel)
theorem tw_37 : (Jvm.Cond.fieldLink "StoneBeds$Lorry" (29 : Nat) "StoneBeds$Lorry" "rear" "I") ∈ tbl := tm 76 (by decide +kernel) (by decide +kernel)
theorem tw_50 : (Jvm.Cond.arrayClass Jvm.ClassFile.FieldType.int) ∈ tbl := tm 89 (by decide +kernel) (by decide +kernel)
theorem tw_51 : (Jvm.Cond.classLink "StoneBeds" (34 : Nat) "StoneBeds$Packer") ∈ tbl := tm 90 (by decide +kernel) (by decide +kernel)
theorem tw_52 : (Jvm.Cond.instantiable "StoneBeds$Packer" (4 : Nat)) ∈ tbl := tm 91 (by decide +kernel) (by decide +kernel)
theorem tw_54 : (Jvm.Cond.instanceMethod ({ cls := "StoneBeds$Packer", name := "<init>", desc := "()V" } : Jvm.MethodName)) ∈ tbl := tm 93 (by decide +kernel) (by decide +kernel)
theorem tw_55 : (Jvm.Cond.code ({ cls := "StoneBeds$Packer", name := "<init>", desc := "()V" } : Jvm.MethodName) prog_5_method_1_code (1 : Nat) (Option.none : Option Jvm.ClassFile.FieldType)) ∈ tbl := tm 94 (by decide +kernel) (by decide +kernel)
theorem tw_56 : (Jvm.Cond.methodLink "StoneBeds$Packer" (3 : Nat) ({ cls := "java/lang/Object", name := "<init>", desc := "()V" } : Jvm.MethodName)) ∈ tbl := tm 95 (by decide +kernel) (by decide +kernel)
theorem tw_57 : (Jvm.Cond.fieldLink "StoneBeds$Packer" (9 : Nat) "StoneBeds$Packer" "sizes" "[I") ∈ tbl := tm 96 (by decide +kernel) (by decide +kernel)
theorem tw_58 : (Jvm.Cond.fieldLink "StoneBeds$Packer" (15 : Nat) "StoneBeds$Packer" "filled" "[I") ∈ tbl := tm 97 (by decide +kernel) (by decide +kernel)
theorem tw_59 : (Jvm.Cond.fieldLink "StoneBeds$Packer" (18 : Nat) "StoneBeds$Packer" "held" "I") ∈ tbl := tm 98 (by decide +kernel) (by decide +kernel)
theorem tw_60 : (Jvm.Cond.fieldLink "StoneBeds$Packer" (22 : Nat) "StoneBeds$Packer" "sum" "I") ∈ tbl := tm 99 (by decide +kernel) (by decide +kernel)
theorem tw_70 : (Jvm.Cond.classLink "StoneBeds" (41 : Nat) "StoneBeds$Digger") ∈ tbl := tm 109 (by decide +kernel) (by decide +kernel)
theorem tw_71 : (Jvm.Cond.instantiable "StoneBeds$Digger" (4 : Nat)) ∈ tbl := tm 110 (by decide +kernel) (by decide +kernel)
theorem tw_72 : (Jvm.Cond.methodLink "StoneBeds" (43 : Nat) ({ cls := "StoneBeds$Digger", name := "<init>", desc := "()V" } : Jvm.MethodName)) ∈ tbl := tm 111 (by decide +kernel) (by decide +kernel)
theorem tw_73 : (Jvm.Cond.instanceMethod ({ cls := "StoneBeds$Digger", name := "<init>", desc := "()V" } : Jvm.MethodName)) ∈ tbl := tm 112 (by decide +kernel) (by decide +kernel)
theorem tw_74 : (Jvm.Cond.code ({ cls := "StoneBeds$Digger", name := "<init>", desc := "()V" } : Jvm.MethodName) prog_3_method_1_code (2 : Nat) (Option.none : Option Jvm.ClassFile.FieldType)) ∈ tbl := tm 113 (by decide +kernel) (by decide +kernel)
theorem tw_75 : (Jvm.Cond.methodLink "StoneBeds$Digger" (3 : Nat) ({ cls := "java/lang/Object", name := "<init>", desc := "()V" } : Jvm.MethodName)) ∈ tbl := tm 114 (by decide +kernel) (by decide +kernel)
theorem tw_76 : (Jvm.Cond.classLink "StoneBeds$Digger" (9 : Nat) "StoneBeds$Pile") ∈ tbl := tm 115 (by decide +kernel) (by decide +kernel)
theorem tw_77 : (Jvm.Cond.instantiable "StoneBeds$Pile" (2 : Nat)) ∈ tbl := tm 116 (by decide +kernel) (by decide +kernel)
theorem tw_79 : (Jvm.Cond.instanceMethod ({ cls := "StoneBeds$Pile", name := "<init>", desc := "()V" } : Jvm.MethodName)) ∈ tbl := tm 118 (by decide +kernel) (by decide +kernel)
theorem tw_80 : (Jvm.Cond.code ({ cls := "StoneBeds$Pile", name := "<init>", desc := "()V" } : Jvm.MethodName) prog_7_method_1_code (1 : Nat) (Option.none : Option Jvm.ClassFile.FieldType)) ∈ tbl := tm 119 (by decide +kernel) (by decide +kernel)
theorem tw_81 : (Jvm.Cond.methodLink "StoneBeds$Pile" (3 : Nat) ({ cls := "java/lang/Object", name := "<init>", desc := "()V" } : Jvm.MethodName)) ∈ tbl := tm 120 (by decide +kernel) (by decide +kernel)
theorem tw_82 : (Jvm.Cond.fieldLink "StoneBeds$Pile" (9 : Nat) "StoneBeds$Pile" "held" "[I") ∈ tbl := tm 121 (by decide +kernel) (by decide +kernel)
theorem tw_83 : (Jvm.Cond.fieldLink "StoneBeds$Pile" (15 : Nat) "StoneBeds$Pile" "height" "I") ∈ tbl := tm 122 (by decide +kernel) (by decide +kernel)
theorem tw_91 : (Jvm.Cond.fieldLink "StoneBeds$Digger" (11 : Nat) "StoneBeds$Digger" "piles" "[LStoneBeds$Pile;") ∈ tbl := tm 130 (by decide +kernel) (by decide +kernel)
theorem tw_92 : (Jvm.Cond.fieldLink "StoneBeds$Digger" (17 : Nat) "StoneBeds$Digger" "turns" "[I") ∈ tbl := tm 131 (by decide +kernel) (by decide +kernel)
theorem tw_93 : (Jvm.Cond.fieldLink "StoneBeds$Digger" (21 : Nat) "StoneBeds$Digger" "takenFrom" "[I") ∈ tbl := tm 132 (by decide +kernel) (by decide +kernel)
theorem tw_94 : (Jvm.Cond.fieldLink "StoneBeds$Digger" (25 : Nat) "StoneBeds$Digger" "wanted" "I") ∈ tbl := tm 133 (by decide +kernel) (by decide +kernel)
theorem tw_104 : (Jvm.Cond.instantiable "StoneBeds$Part" (8 : Nat)) ∈ tbl := tm 143 (by decide +kernel) (by decide +kernel)
theorem tw_106 : (Jvm.Cond.instanceMethod ({ cls := "StoneBeds$Part", name := "<init>", desc := "()V" } : Jvm.MethodName)) ∈ tbl := tm 145 (by decide +kernel) (by decide +kernel)
theorem tw_107 : (Jvm.Cond.code ({ cls := "StoneBeds$Part", name := "<init>", desc := "()V" } : Jvm.MethodName) prog_6_method_1_code (1 : Nat) (Option.none : Option Jvm.ClassFile.FieldType)) ∈ tbl := tm 146 (by decide +kernel) (by decide +kernel)
theorem tw_108 : (Jvm.Cond.methodLink "StoneBeds$Part" (3 : Nat) ({ cls := "java/lang/Object", name := "<init>", desc := "()V" } : Jvm.MethodName)) ∈ tbl := tm 147 (by decide +kernel) (by decide +kernel)
theorem tw_109 : (Jvm.Cond.fieldLink "StoneBeds$Part" (18 : Nat) "StoneBeds$Part" "length" "I") ∈ tbl := tm 148 (by decide +kernel) (by decide +kernel)
theorem tw_111 : (Jvm.Cond.fieldLink "StoneBeds$Part" (21 : Nat) "StoneBeds$Part" "plan" "I") ∈ tbl := tm 150 (by decide +kernel) (by decide +kernel)
theorem tw_113 : (Jvm.Cond.fieldLink "StoneBeds$Part" (24 : Nat) "StoneBeds$Part" "weight" "I") ∈ tbl := tm 152 (by decide +kernel) (by decide +kernel)
theorem tw_116 : (Jvm.Cond.fieldLink "StoneBeds$Part" (9 : Nat) "StoneBeds$Part" "where" "I") ∈ tbl := tm 155 (by decide +kernel) (by decide +kernel)
theorem tw_118 : (Jvm.Cond.fieldLink "StoneBeds$Part" (15 : Nat) "StoneBeds$Part" "number" "I") ∈ tbl := tm 157 (by decide +kernel) (by decide +kernel)
theorem tw_121 : (Jvm.Cond.fieldLink "StoneBeds$Part" (31 : Nat) "StoneBeds$Part" "toBeStruck" "Z") ∈ tbl := tm 160 (by decide +kernel) (by decide +kernel)
theorem tw_140 : (Jvm.Cond.instantiable "StoneBeds$Bed" (4 : Nat)) ∈ tbl := tm 179 (by decide +kernel) (by decide +kernel)
theorem tw_142 : (Jvm.Cond.instanceMethod ({ cls := "StoneBeds$Bed", name := "<init>", desc := "()V" } : Jvm.MethodName)) ∈ tbl := tm 181 (by decide +kernel) (by decide +kernel)
theorem tw_143 : (Jvm.Cond.code ({ cls := "StoneBeds$Bed", name := "<init>", desc := "()V" } : Jvm.MethodName) prog_2_method_1_code (1 : Nat) (Option.none : Option Jvm.ClassFile.FieldType)) ∈ tbl := tm 182 (by decide +kernel) (by decide +kernel)
theorem tw_144 : (Jvm.Cond.methodLink "StoneBeds$Bed" (3 : Nat) ({ cls := "java/lang/Object", name := "<init>", desc := "()V" } : Jvm.MethodName)) ∈ tbl := tm 183 (by decide +kernel) (by decide +kernel)
theorem tw_145 : (Jvm.Cond.fieldLink "StoneBeds$Bed" (15 : Nat) "StoneBeds$Bed" "parts" "I") ∈ tbl := tm 184 (by decide +kernel) (by decide +kernel)
theorem tw_147 : (Jvm.Cond.fieldLink "StoneBeds$Bed" (9 : Nat) "StoneBeds$Bed" "length" "I") ∈ tbl := tm 186 (by decide +kernel) (by decide +kernel)
theorem tw_149 : (Jvm.Cond.fieldLink "StoneBeds$Bed" (21 : Nat) "StoneBeds$Bed" "ripeness" "I") ∈ tbl := tm 188 (by decide +kernel) (by decide +kernel)
theorem tw_151 : (Jvm.Cond.fieldLink "StoneBeds$Bed" (18 : Nat) "StoneBeds$Bed" "castHour" "I") ∈ tbl := tm 190 (by decide +kernel) (by decide +kernel)
theorem tw_163 : (Jvm.Cond.fieldLink "StoneBeds" (11 : Nat) "StoneBeds" "parts" "[LStoneBeds$Part;") ∈ tbl := tm 202 (by decide +kernel) (by decide +kernel)
theorem tw_164 : (Jvm.Cond.fieldLink "StoneBeds" (17 : Nat) "StoneBeds" "beds" "[LStoneBeds$Bed;") ∈ tbl := tm 203 (by decide +kernel) (by decide +kernel)
theorem tw_165 : (Jvm.Cond.fieldLink "StoneBeds" (23 : Nat) "StoneBeds" "stacks" "[LStoneBeds$Pile;") ∈ tbl := tm 204 (by decide +kernel) (by decide +kernel)
theorem tw_166 : (Jvm.Cond.fieldLink "StoneBeds" (30 : Nat) "StoneBeds" "lorry" "LStoneBeds$Lorry;") ∈ tbl := tm 205 (by decide +kernel) (by decide +kernel)
theorem tw_167 : (Jvm.Cond.fieldLink "StoneBeds" (37 : Nat) "StoneBeds" "packer" "LStoneBeds$Packer;") ∈ tbl := tm 206 (by decide +kernel) (by decide +kernel)
theorem tw_168 : (Jvm.Cond.fieldLink "StoneBeds" (44 : Nat) "StoneBeds" "digger" "LStoneBeds$Digger;") ∈ tbl := tm 207 (by decide +kernel) (by decide +kernel)
theorem tw_169 : (Jvm.Cond.fieldLink "StoneBeds" (59 : Nat) "StoneBeds" "partCount" "I") ∈ tbl := tm 208 (by decide +kernel) (by decide +kernel)
theorem tw_170 : (Jvm.Cond.fieldLink "StoneBeds" (117 : Nat) "StoneBeds" "castCount" "I") ∈ tbl := tm 209 (by decide +kernel) (by decide +kernel)
theorem tw_171 : (Jvm.Cond.fieldLink "StoneBeds" (216 : Nat) "StoneBeds" "tripCount" "I") ∈ tbl := tm 210 (by decide +kernel) (by decide +kernel)
theorem tw_172 : (Jvm.Cond.fieldLink "StoneBeds" (111 : Nat) "StoneBeds" "hour" "I") ∈ tbl := tm 211 (by decide +kernel) (by decide +kernel)
theorem tw_173 : (Jvm.Cond.fieldLink "StoneBeds" (51 : Nat) "StoneBeds" "warmth" "I") ∈ tbl := tm 212 (by decide +kernel) (by decide +kernel)
theorem tw_197 : (Jvm.Cond.methodLink "StoneBedsLaw" (13 : Nat) ({ cls := "StoneBeds", name := "part", desc := "(III)I" } : Jvm.MethodName)) ∈ tbl := tm 236 (by decide +kernel) (by decide +kernel)
theorem tw_198 : (Jvm.Cond.instanceMethod ({ cls := "StoneBeds", name := "part", desc := "(III)I" } : Jvm.MethodName)) ∈ tbl := tm 237 (by decide +kernel) (by decide +kernel)
theorem tw_199 : (Jvm.Cond.selects "StoneBeds" ({ cls := "StoneBeds", name := "part", desc := "(III)I" } : Jvm.MethodName) ({ cls := "StoneBeds", name := "part", desc := "(III)I" } : Jvm.MethodName)) ∈ tbl := tm 238 (by decide +kernel) (by decide +kernel)
theorem tw_200 : (Jvm.Cond.code ({ cls := "StoneBeds", name := "part", desc := "(III)I" } : Jvm.MethodName) prog_1_method_2_code (4 : Nat) (Option.some Jvm.ClassFile.FieldType.int)) ∈ tbl := tm 239 (by decide +kernel) (by decide +kernel)
theorem tw_201 : (Jvm.Cond.methodLink "StoneBeds" (55 : Nat) ({ cls := "StoneBeds", name := "areMeasures", desc := "(III)Z" } : Jvm.MethodName)) ∈ tbl := tm 240 (by decide +kernel) (by decide +kernel)
theorem tw_202 : (Jvm.Cond.static ({ cls := "StoneBeds", name := "areMeasures", desc := "(III)Z" } : Jvm.MethodName)) ∈ tbl := tm 241 (by decide +kernel) (by decide +kernel)
theorem tw_203 : (Jvm.Cond.code ({ cls := "StoneBeds", name := "areMeasures", desc := "(III)Z" } : Jvm.MethodName) prog_1_method_23_code (3 : Nat) (Option.some Jvm.ClassFile.FieldType.boolean)) ∈ tbl := tm 242 (by decide +kernel) (by decide +kernel)
theorem tw_204 : (Jvm.Cond.methodLink "StoneBeds" (62 : Nat) ({ cls := "StoneBeds", name := "draw", desc := "(IIII)I" } : Jvm.MethodName)) ∈ tbl := tm 243 (by decide +kernel) (by decide +kernel)
theorem tw_206 : (Jvm.Cond.instanceMethod ({ cls := "StoneBeds", name := "draw", desc := "(IIII)I" } : Jvm.MethodName)) ∈ tbl := tm 245 (by decide +kernel) (by decide +kernel)
theorem tw_207 : (Jvm.Cond.code ({ cls := "StoneBeds", name := "draw", desc := "(IIII)I" } : Jvm.MethodName) prog_1_method_28_code (7 : Nat) (Option.some Jvm.ClassFile.FieldType.int)) ∈ tbl := tm 246 (by decide +kernel) (by decide +kernel)
theorem tw_208 : (Jvm.Cond.methodLink "StoneBeds" (66 : Nat) ({ cls := "StoneBeds", name := "partOf", desc := "(I)LStoneBeds$Part;" } : Jvm.MethodName)) ∈ tbl := tm 247 (by decide +kernel) (by decide +kernel)
theorem tw_210 : (Jvm.Cond.instanceMethod ({ cls := "StoneBeds", name := "partOf", desc := "(I)LStoneBeds$Part;" } : Jvm.MethodName)) ∈ tbl := tm 249 (by decide +kernel) (by decide +kernel)
theorem tw_211 : (Jvm.Cond.code ({ cls := "StoneBeds", name := "partOf", desc := "(I)LStoneBeds$Part;" } : Jvm.MethodName) prog_1_method_20_code (2 : Nat) (Option.some (Jvm.ClassFile.FieldType.object "StoneBeds$Part"))) ∈ tbl := tm 250 (by decide +kernel) (by decide +kernel)
theorem tw_212 : (Jvm.Cond.methodLink "StoneBeds" (233 : Nat) ({ cls := "StoneBeds$Part", name := "measure", desc := "(III)V" } : Jvm.MethodName)) ∈ tbl := tm 251 (by decide +kernel) (by decide +kernel)
theorem tw_213 : (Jvm.Cond.instanceMethod ({ cls := "StoneBeds$Part", name := "measure", desc := "(III)V" } : Jvm.MethodName)) ∈ tbl := tm 252 (by decide +kernel) (by decide +kernel)
theorem tw_214 : (Jvm.Cond.selects "StoneBeds$Part" ({ cls := "StoneBeds$Part", name := "measure", desc := "(III)V" } : Jvm.MethodName) ({ cls := "StoneBeds$Part", name := "measure", desc := "(III)V" } : Jvm.MethodName)) ∈ tbl := tm 253 (by decide +kernel) (by decide +kernel)
theorem tw_215 : (Jvm.Cond.code ({ cls := "StoneBeds$Part", name := "measure", desc := "(III)V" } : Jvm.MethodName) prog_6_method_2_code (4 : Nat) (Option.none : Option Jvm.ClassFile.FieldType)) ∈ tbl := tm 254 (by decide +kernel) (by decide +kernel)
theorem tw_216 : (Jvm.Cond.methodLink "StoneBedsLaw" (18 : Nat) ({ cls := "StoneBeds", name := "need", desc := "(II)I" } : Jvm.MethodName)) ∈ tbl := tm 255 (by decide +kernel) (by decide +kernel)
theorem tw_217 : (Jvm.Cond.instanceMethod ({ cls := "StoneBeds", name := "need", desc := "(II)I" } : Jvm.MethodName)) ∈ tbl := tm 256 (by decide +kernel) (by decide +kernel)
theorem tw_218 : (Jvm.Cond.selects "StoneBeds" ({ cls := "StoneBeds", name := "need", desc := "(II)I" } : Jvm.MethodName) ({ cls := "StoneBeds", name := "need", desc := "(II)I" } : Jvm.MethodName)) ∈ tbl := tm 257 (by decide +kernel) (by decide +kernel)
theorem tw_219 : (Jvm.Cond.code ({ cls := "StoneBeds", name := "need", desc := "(II)I" } : Jvm.MethodName) prog_1_method_3_code (5 : Nat) (Option.some Jvm.ClassFile.FieldType.int)) ∈ tbl := tm 258 (by decide +kernel) (by decide +kernel)
theorem tw_220 : (Jvm.Cond.methodLink "StoneBedsLaw" (23 : Nat) ({ cls := "StoneBeds", name := "casts", desc := "(III)I" } : Jvm.MethodName)) ∈ tbl := tm 259 (by decide +kernel) (by decide +kernel)
theorem tw_221 : (Jvm.Cond.instanceMethod ({ cls := "StoneBeds", name := "casts", desc := "(III)I" } : Jvm.MethodName)) ∈ tbl := tm 260 (by decide +kernel) (by decide +kernel)
theorem tw_222 : (Jvm.Cond.selects "StoneBeds" ({ cls := "StoneBeds", name := "casts", desc := "(III)I" } : Jvm.MethodName) ({ cls := "StoneBeds", name := "casts", desc := "(III)I" } : Jvm.MethodName)) ∈ tbl := tm 261 (by decide +kernel) (by decide +kernel)
theorem tw_223 : (Jvm.Cond.code ({ cls := "StoneBeds", name := "casts", desc := "(III)I" } : Jvm.MethodName) prog_1_method_4_code (7 : Nat) (Option.some Jvm.ClassFile.FieldType.int)) ∈ tbl := tm 262 (by decide +kernel) (by decide +kernel)
theorem tw_224 : (Jvm.Cond.methodLink "StoneBeds" (73 : Nat) ({ cls := "StoneBeds", name := "isDrawn", desc := "(LStoneBeds$Part;)Z" } : Jvm.MethodName)) ∈ tbl := tm 263 (by decide +kernel) (by decide +kernel)
theorem tw_225 : (Jvm.Cond.static ({ cls := "StoneBeds", name := "isDrawn", desc := "(LStoneBeds$Part;)Z" } : Jvm.MethodName)) ∈ tbl := tm 264 (by decide +kernel) (by decide +kernel)
theorem tw_226 : (Jvm.Cond.code ({ cls := "StoneBeds", name := "isDrawn", desc := "(LStoneBeds$Part;)Z" } : Jvm.MethodName) prog_1_method_26_code (1 : Nat) (Option.some Jvm.ClassFile.FieldType.boolean)) ∈ tbl := tm 265 (by decide +kernel) (by decide +kernel)
theorem tw_227 : (Jvm.Cond.methodLink "StoneBeds" (77 : Nat) ({ cls := "StoneBeds", name := "givePacker", desc := "(III)V" } : Jvm.MethodName)) ∈ tbl := tm 266 (by decide +kernel) (by decide +kernel)
theorem tw_229 : (Jvm.Cond.instanceMethod ({ cls := "StoneBeds", name := "givePacker", desc := "(III)V" } : Jvm.MethodName)) ∈ tbl := tm 268 (by decide +kernel) (by decide +kernel)
theorem tw_230 : (Jvm.Cond.code ({ cls := "StoneBeds", name := "givePacker", desc := "(III)V" } : Jvm.MethodName) prog_1_method_30_code (6 : Nat) (Option.none : Option Jvm.ClassFile.FieldType)) ∈ tbl := tm 269 (by decide +kernel) (by decide +kernel)
theorem tw_231 : (Jvm.Cond.methodLink "StoneBeds" (244 : Nat) ({ cls := "StoneBeds$Packer", name := "clear", desc := "()V" } : Jvm.MethodName)) ∈ tbl := tm 270 (by decide +kernel) (by decide +kernel)
theorem tw_232 : (Jvm.Cond.instanceMethod ({ cls := "StoneBeds$Packer", name := "clear", desc := "()V" } : Jvm.MethodName)) ∈ tbl := tm 271 (by decide +kernel) (by decide +kernel)
theorem tw_233 : (Jvm.Cond.selects "StoneBeds$Packer" ({ cls := "StoneBeds$Packer", name := "clear", desc := "()V" } : Jvm.MethodName) ({ cls := "StoneBeds$Packer", name := "clear", desc := "()V" } : Jvm.MethodName)) ∈ tbl := tm 272 (by decide +kernel) (by decide +kernel)
theorem tw_234 : (Jvm.Cond.code ({ cls := "StoneBeds$Packer", name := "clear", desc := "()V" } : Jvm.MethodName) prog_5_method_2_code (1 : Nat) (Option.none : Option Jvm.ClassFile.FieldType)) ∈ tbl := tm 273 (by decide +kernel) (by decide +kernel)
theorem tw_235 : (Jvm.Cond.methodLink "StoneBeds" (245 : Nat) ({ cls := "StoneBeds$Packer", name := "add", desc := "(I)V" } : Jvm.MethodName)) ∈ tbl := tm 274 (by decide +kernel) (by decide +kernel)
theorem tw_236 : (Jvm.Cond.instanceMethod ({ cls := "StoneBeds$Packer", name := "add", desc := "(I)V" } : Jvm.MethodName)) ∈ tbl := tm 275 (by decide +kernel) (by decide +kernel)
theorem tw_237 : (Jvm.Cond.selects "StoneBeds$Packer" ({ cls := "StoneBeds$Packer", name := "add", desc := "(I)V" } : Jvm.MethodName) ({ cls := "StoneBeds$Packer", name := "add", desc := "(I)V" } : Jvm.MethodName)) ∈ tbl := tm 276 (by decide +kernel) (by decide +kernel)
theorem tw_238 : (Jvm.Cond.code ({ cls := "StoneBeds$Packer", name := "add", desc := "(I)V" } : Jvm.MethodName) prog_5_method_3_code (4 : Nat) (Option.none : Option Jvm.ClassFile.FieldType)) ∈ tbl := tm 277 (by decide +kernel) (by decide +kernel)
theorem tw_239 : (Jvm.Cond.methodLink "StoneBeds" (81 : Nat) ({ cls := "StoneBeds$Packer", name := "fewestCasts", desc := "()I" } : Jvm.MethodName)) ∈ tbl := tm 278 (by decide +kernel) (by decide +kernel)
theorem tw_240 : (Jvm.Cond.instanceMethod ({ cls := "StoneBeds$Packer", name := "fewestCasts", desc := "()I" } : Jvm.MethodName)) ∈ tbl := tm 279 (by decide +kernel) (by decide +kernel)
theorem tw_241 : (Jvm.Cond.selects "StoneBeds$Packer" ({ cls := "StoneBeds$Packer", name := "fewestCasts", desc := "()I" } : Jvm.MethodName) ({ cls := "StoneBeds$Packer", name := "fewestCasts", desc := "()I" } : Jvm.MethodName)) ∈ tbl := tm 280 (by decide +kernel) (by decide +kernel)
theorem tw_242 : (Jvm.Cond.code ({ cls := "StoneBeds$Packer", name := "fewestCasts", desc := "()I" } : Jvm.MethodName) prog_5_method_5_code (4 : Nat) (Option.some Jvm.ClassFile.FieldType.int)) ∈ tbl := tm 281 (by decide +kernel) (by decide +kernel)
theorem tw_243 : (Jvm.Cond.methodLink "StoneBeds$Packer" (25 : Nat) ({ cls := "StoneBeds$Packer", name := "plainCasts", desc := "()I" } : Jvm.MethodName)) ∈ tbl := tm 282 (by decide +kernel) (by decide +kernel)
theorem tw_244 : (Jvm.Cond.instanceMethod ({ cls := "StoneBeds$Packer", name := "plainCasts", desc := "()I" } : Jvm.MethodName)) ∈ tbl := tm 283 (by decide +kernel) (by decide +kernel)
theorem tw_245 : (Jvm.Cond.selects "StoneBeds$Packer" ({ cls := "StoneBeds$Packer", name := "plainCasts", desc := "()I" } : Jvm.MethodName) ({ cls := "StoneBeds$Packer", name := "plainCasts", desc := "()I" } : Jvm.MethodName)) ∈ tbl := tm 284 (by decide +kernel) (by decide +kernel)
theorem tw_246 : (Jvm.Cond.code ({ cls := "StoneBeds$Packer", name := "plainCasts", desc := "()I" } : Jvm.MethodName) prog_5_method_4_code (4 : Nat) (Option.some Jvm.ClassFile.FieldType.int)) ∈ tbl := tm 285 (by decide +kernel) (by decide +kernel)
theorem tw_247 : (Jvm.Cond.methodLink "StoneBeds$Packer" (29 : Nat) ({ cls := "StoneBeds$Packer", name := "packs", desc := "(III)Z" } : Jvm.MethodName)) ∈ tbl := tm 286 (by decide +kernel) (by decide +kernel)
theorem tw_249 : (Jvm.Cond.instanceMethod ({ cls := "StoneBeds$Packer", name := "packs", desc := "(III)Z" } : Jvm.MethodName)) ∈ tbl := tm 288 (by decide +kernel) (by decide +kernel)
theorem tw_250 : (Jvm.Cond.code ({ cls := "StoneBeds$Packer", name := "packs", desc := "(III)Z" } : Jvm.MethodName) prog_5_method_6_code (8 : Nat) (Option.some Jvm.ClassFile.FieldType.boolean)) ∈ tbl := tm 289 (by decide +kernel) (by decide +kernel)
theorem tw_251 : (Jvm.Cond.methodLink "StoneBeds$Packer" (33 : Nat) ({ cls := "StoneBeds$Packer", name := "packsOn", desc := "(IIII)Z" } : Jvm.MethodName)) ∈ tbl := tm 290 (by decide +kernel) (by decide +kernel)
theorem tw_253 : (Jvm.Cond.instanceMethod ({ cls := "StoneBeds$Packer", name := "packsOn", desc := "(IIII)Z" } : Jvm.MethodName)) ∈ tbl := tm 292 (by decide +kernel) (by decide +kernel)
theorem tw_254 : (Jvm.Cond.code ({ cls := "StoneBeds$Packer", name := "packsOn", desc := "(IIII)Z" } : Jvm.MethodName) prog_5_method_7_code (8 : Nat) (Option.some Jvm.ClassFile.FieldType.boolean)) ∈ tbl := tm 293 (by decide +kernel) (by decide +kernel)
theorem tw_255 : (Jvm.Cond.methodLink "StoneBeds" (85 : Nat) ({ cls := "StoneBeds$Packer", name := "plainCasts", desc := "()I" } : Jvm.MethodName)) ∈ tbl := tm 294 (by decide +kernel) (by decide +kernel)
theorem tw_256 : (Jvm.Cond.methodLink "StoneBedsLaw" (27 : Nat) ({ cls := "StoneBeds", name := "cast", desc := "(III)I" } : Jvm.MethodName)) ∈ tbl := tm 295 (by decide +kernel) (by decide +kernel)
theorem tw_257 : (Jvm.Cond.instanceMethod ({ cls := "StoneBeds", name := "cast", desc := "(III)I" } : Jvm.MethodName)) ∈ tbl := tm 296 (by decide +kernel) (by decide +kernel)
theorem tw_258 : (Jvm.Cond.selects "StoneBeds" ({ cls := "StoneBeds", name := "cast", desc := "(III)I" } : Jvm.MethodName) ({ cls := "StoneBeds", name := "cast", desc := "(III)I" } : Jvm.MethodName)) ∈ tbl := tm 297 (by decide +kernel) (by decide +kernel)
theorem tw_259 : (Jvm.Cond.code ({ cls := "StoneBeds", name := "cast", desc := "(III)I" } : Jvm.MethodName) prog_1_method_5_code (7 : Nat) (Option.some Jvm.ClassFile.FieldType.int)) ∈ tbl := tm 298 (by decide +kernel) (by decide +kernel)
theorem tw_260 : (Jvm.Cond.methodLink "StoneBeds" (88 : Nat) ({ cls := "StoneBeds", name := "bedOf", desc := "(I)LStoneBeds$Bed;" } : Jvm.MethodName)) ∈ tbl := tm 299 (by decide +kernel) (by decide +kernel)
theorem tw_262 : (Jvm.Cond.instanceMethod ({ cls := "StoneBeds", name := "bedOf", desc := "(I)LStoneBeds$Bed;" } : Jvm.MethodName)) ∈ tbl := tm 301 (by decide +kernel) (by decide +kernel)
theorem tw_263 : (Jvm.Cond.code ({ cls := "StoneBeds", name := "bedOf", desc := "(I)LStoneBeds$Bed;" } : Jvm.MethodName) prog_1_method_21_code (2 : Nat) (Option.some (Jvm.ClassFile.FieldType.object "StoneBeds$Bed"))) ∈ tbl := tm 302 (by decide +kernel) (by decide +kernel)
theorem tw_264 : (Jvm.Cond.methodLink "StoneBeds" (92 : Nat) ({ cls := "StoneBeds", name := "areParts", desc := "(II)Z" } : Jvm.MethodName)) ∈ tbl := tm 303 (by decide +kernel) (by decide +kernel)
theorem tw_266 : (Jvm.Cond.instanceMethod ({ cls := "StoneBeds", name := "areParts", desc := "(II)Z" } : Jvm.MethodName)) ∈ tbl := tm 305 (by decide +kernel) (by decide +kernel)
theorem tw_267 : (Jvm.Cond.code ({ cls := "StoneBeds", name := "areParts", desc := "(II)Z" } : Jvm.MethodName) prog_1_method_31_code (4 : Nat) (Option.some Jvm.ClassFile.FieldType.boolean)) ∈ tbl := tm 306 (by decide +kernel) (by decide +kernel)
theorem tw_268 : (Jvm.Cond.methodLink "StoneBeds" (101 : Nat) ({ cls := "StoneBeds", name := "hasBit", desc := "(II)Z" } : Jvm.MethodName)) ∈ tbl := tm 307 (by decide +kernel) (by decide +kernel)
theorem tw_269 : (Jvm.Cond.static ({ cls := "StoneBeds", name := "hasBit", desc := "(II)Z" } : Jvm.MethodName)) ∈ tbl := tm 308 (by decide +kernel) (by decide +kernel)
theorem tw_270 : (Jvm.Cond.code ({ cls := "StoneBeds", name := "hasBit", desc := "(II)Z" } : Jvm.MethodName) prog_1_method_24_code (2 : Nat) (Option.some Jvm.ClassFile.FieldType.boolean)) ∈ tbl := tm 309 (by decide +kernel) (by decide +kernel)
theorem tw_271 : (Jvm.Cond.methodLink "StoneBeds" (98 : Nat) ({ cls := "StoneBeds", name := "areDrawnAndFit", desc := "(II)Z" } : Jvm.MethodName)) ∈ tbl := tm 310 (by decide +kernel) (by decide +kernel)
theorem tw_273 : (Jvm.Cond.instanceMethod ({ cls := "StoneBeds", name := "areDrawnAndFit", desc := "(II)Z" } : Jvm.MethodName)) ∈ tbl := tm 312 (by decide +kernel) (by decide +kernel)
theorem tw_274 : (Jvm.Cond.code ({ cls := "StoneBeds", name := "areDrawnAndFit", desc := "(II)Z" } : Jvm.MethodName) prog_1_method_32_code (7 : Nat) (Option.some Jvm.ClassFile.FieldType.boolean)) ∈ tbl := tm 313 (by decide +kernel) (by decide +kernel)
theorem tw_275 : (Jvm.Cond.methodLink "StoneBeds" (104 : Nat) ({ cls := "StoneBeds$Part", name := "isNow", desc := "(II)V" } : Jvm.MethodName)) ∈ tbl := tm 314 (by decide +kernel) (by decide +kernel)
theorem tw_276 : (Jvm.Cond.instanceMethod ({ cls := "StoneBeds$Part", name := "isNow", desc := "(II)V" } : Jvm.MethodName)) ∈ tbl := tm 315 (by decide +kernel) (by decide +kernel)
theorem tw_277 : (Jvm.Cond.selects "StoneBeds$Part" ({ cls := "StoneBeds$Part", name := "isNow", desc := "(II)V" } : Jvm.MethodName) ({ cls := "StoneBeds$Part", name := "isNow", desc := "(II)V" } : Jvm.MethodName)) ∈ tbl := tm 316 (by decide +kernel) (by decide +kernel)
theorem tw_278 : (Jvm.Cond.code ({ cls := "StoneBeds$Part", name := "isNow", desc := "(II)V" } : Jvm.MethodName) prog_6_method_3_code (3 : Nat) (Option.none : Option Jvm.ClassFile.FieldType)) ∈ tbl := tm 317 (by decide +kernel) (by decide +kernel)
theorem tw_279 : (Jvm.Cond.methodLink "StoneBeds" (114 : Nat) ({ cls := "StoneBeds$Bed", name := "take", desc := "(II)V" } : Jvm.MethodName)) ∈ tbl := tm 318 (by decide +kernel) (by decide +kernel)
theorem tw_280 : (Jvm.Cond.instanceMethod ({ cls := "StoneBeds$Bed", name := "take", desc := "(II)V" } : Jvm.MethodName)) ∈ tbl := tm 319 (by decide +kernel) (by decide +kernel)
theorem tw_281 : (Jvm.Cond.selects "StoneBeds$Bed" ({ cls := "StoneBeds$Bed", name := "take", desc := "(II)V" } : Jvm.MethodName) ({ cls := "StoneBeds$Bed", name := "take", desc := "(II)V" } : Jvm.MethodName)) ∈ tbl := tm 320 (by decide +kernel) (by decide +kernel)
theorem tw_282 : (Jvm.Cond.code ({ cls := "StoneBeds$Bed", name := "take", desc := "(II)V" } : Jvm.MethodName) prog_2_method_2_code (3 : Nat) (Option.none : Option Jvm.ClassFile.FieldType)) ∈ tbl := tm 321 (by decide +kernel) (by decide +kernel)
theorem tw_283 : (Jvm.Cond.methodLink "StoneBedsLaw" (31 : Nat) ({ cls := "StoneBeds", name := "warmth", desc := "(I)I" } : Jvm.MethodName)) ∈ tbl := tm 322 (by decide +kernel) (by decide +kernel)
theorem tw_284 : (Jvm.Cond.instanceMethod ({ cls := "StoneBeds", name := "warmth", desc := "(I)I" } : Jvm.MethodName)) ∈ tbl := tm 323 (by decide +kernel) (by decide +kernel)
theorem tw_285 : (Jvm.Cond.selects "StoneBeds" ({ cls := "StoneBeds", name := "warmth", desc := "(I)I" } : Jvm.MethodName) ({ cls := "StoneBeds", name := "warmth", desc := "(I)I" } : Jvm.MethodName)) ∈ tbl := tm 324 (by decide +kernel) (by decide +kernel)
theorem tw_286 : (Jvm.Cond.code ({ cls := "StoneBeds", name := "warmth", desc := "(I)I" } : Jvm.MethodName) prog_1_method_6_code (3 : Nat) (Option.some Jvm.ClassFile.FieldType.int)) ∈ tbl := tm 325 (by decide +kernel) (by decide +kernel)
theorem tw_287 : (Jvm.Cond.methodLink "StoneBedsLaw" (36 : Nat) ({ cls := "StoneBeds", name := "hours", desc := "(I)I" } : Jvm.MethodName)) ∈ tbl := tm 326 (by decide +kernel) (by decide +kernel)
theorem tw_288 : (Jvm.Cond.instanceMethod ({ cls := "StoneBeds", name := "hours", desc := "(I)I" } : Jvm.MethodName)) ∈ tbl := tm 327 (by decide +kernel) (by decide +kernel)
theorem tw_289 : (Jvm.Cond.selects "StoneBeds" ({ cls := "StoneBeds", name := "hours", desc := "(I)I" } : Jvm.MethodName) ({ cls := "StoneBeds", name := "hours", desc := "(I)I" } : Jvm.MethodName)) ∈ tbl := tm 328 (by decide +kernel) (by decide +kernel)
theorem tw_290 : (Jvm.Cond.code ({ cls := "StoneBeds", name := "hours", desc := "(I)I" } : Jvm.MethodName) prog_1_method_7_code (5 : Nat) (Option.some Jvm.ClassFile.FieldType.int)) ∈ tbl := tm 329 (by decide +kernel) (by decide +kernel)
theorem tw_291 : (Jvm.Cond.constant "StoneBeds" (120 : Nat) (100000 : Int32)) ∈ tbl := tm 330 (by decide +kernel) (by decide +kernel)
theorem tw_292 : (Jvm.Cond.methodLink "StoneBeds" (121 : Nat) ({ cls := "java/lang/Math", name := "max", desc := "(II)I" } : Jvm.MethodName)) ∈ tbl := tm 331 (by decide +kernel) (by decide +kernel)
theorem tw_293 : (Jvm.Cond.static ({ cls := "java/lang/Math", name := "max", desc := "(II)I" } : Jvm.MethodName)) ∈ tbl := tm 332 (by decide +kernel) (by decide +kernel)
theorem tw_294 : (Jvm.Cond.code ({ cls := "java/lang/Math", name := "max", desc := "(II)I" } : Jvm.MethodName) prog_10_method_65_code (2 : Nat) (Option.some Jvm.ClassFile.FieldType.int)) ∈ tbl := tm 333 (by decide +kernel) (by decide +kernel)
theorem tw_295 : (Jvm.Cond.methodLink "StoneBedsLaw" (40 : Nat) ({ cls := "StoneBeds", name := "letGo", desc := "(I)I" } : Jvm.MethodName)) ∈ tbl := tm 334 (by decide +kernel) (by decide +kernel)
theorem tw_296 : (Jvm.Cond.instanceMethod ({ cls := "StoneBeds", name := "letGo", desc := "(I)I" } : Jvm.MethodName)) ∈ tbl := tm 335 (by decide +kernel) (by decide +kernel)
theorem tw_297 : (Jvm.Cond.selects "StoneBeds" ({ cls := "StoneBeds", name := "letGo", desc := "(I)I" } : Jvm.MethodName) ({ cls := "StoneBeds", name := "letGo", desc := "(I)I" } : Jvm.MethodName)) ∈ tbl := tm 336 (by decide +kernel) (by decide +kernel)
theorem tw_298 : (Jvm.Cond.code ({ cls := "StoneBeds", name := "letGo", desc := "(I)I" } : Jvm.MethodName) prog_1_method_8_code (6 : Nat) (Option.some Jvm.ClassFile.FieldType.int)) ∈ tbl := tm 337 (by decide +kernel) (by decide +kernel)
theorem tw_299 : (Jvm.Cond.methodLink "StoneBeds" (139 : Nat) ({ cls := "StoneBeds", name := "camberOf", desc := "(LStoneBeds$Part;I)I" } : Jvm.MethodName)) ∈ tbl := tm 338 (by decide +kernel) (by decide +kernel)
theorem tw_300 : (Jvm.Cond.static ({ cls := "StoneBeds", name := "camberOf", desc := "(LStoneBeds$Part;I)I" } : Jvm.MethodName)) ∈ tbl := tm 339 (by decide +kernel) (by decide +kernel)
theorem tw_301 : (Jvm.Cond.code ({ cls := "StoneBeds", name := "camberOf", desc := "(LStoneBeds$Part;I)I" } : Jvm.MethodName) prog_1_method_27_code (3 : Nat) (Option.some Jvm.ClassFile.FieldType.int)) ∈ tbl := tm 340 (by decide +kernel) (by decide +kernel)
theorem tw_302 : (Jvm.Cond.methodLink "StoneBeds" (150 : Nat) ({ cls := "StoneBeds$Part", name := "isStruck", desc := "()V" } : Jvm.MethodName)) ∈ tbl := tm 341 (by decide +kernel) (by decide +kernel)
theorem tw_303 : (Jvm.Cond.instanceMethod ({ cls := "StoneBeds$Part", name := "isStruck", desc := "()V" } : Jvm.MethodName)) ∈ tbl := tm 342 (by decide +kernel) (by decide +kernel)
theorem tw_304 : (Jvm.Cond.selects "StoneBeds$Part" ({ cls := "StoneBeds$Part", name := "isStruck", desc := "()V" } : Jvm.MethodName) ({ cls := "StoneBeds$Part", name := "isStruck", desc := "()V" } : Jvm.MethodName)) ∈ tbl := tm 343 (by decide +kernel) (by decide +kernel)
theorem tw_305 : (Jvm.Cond.code ({ cls := "StoneBeds$Part", name := "isStruck", desc := "()V" } : Jvm.MethodName) prog_6_method_4_code (1 : Nat) (Option.none : Option Jvm.ClassFile.FieldType)) ∈ tbl := tm 344 (by decide +kernel) (by decide +kernel)
theorem tw_306 : (Jvm.Cond.methodLink "StoneBeds$Part" (27 : Nat) ({ cls := "StoneBeds$Part", name := "isNow", desc := "(II)V" } : Jvm.MethodName)) ∈ tbl := tm 345 (by decide +kernel) (by decide +kernel)
theorem tw_307 : (Jvm.Cond.methodLink "StoneBeds" (153 : Nat) ({ cls := "StoneBeds$Bed", name := "clear", desc := "()V" } : Jvm.MethodName)) ∈ tbl := tm 346 (by decide +kernel) (by decide +kernel)
theorem tw_308 : (Jvm.Cond.instanceMethod ({ cls := "StoneBeds$Bed", name := "clear", desc := "()V" } : Jvm.MethodName)) ∈ tbl := tm 347 (by decide +kernel) (by decide +kernel)
theorem tw_309 : (Jvm.Cond.selects "StoneBeds$Bed" ({ cls := "StoneBeds$Bed", name := "clear", desc := "()V" } : Jvm.MethodName) ({ cls := "StoneBeds$Bed", name := "clear", desc := "()V" } : Jvm.MethodName)) ∈ tbl := tm 348 (by decide +kernel) (by decide +kernel)
theorem tw_310 : (Jvm.Cond.code ({ cls := "StoneBeds$Bed", name := "clear", desc := "()V" } : Jvm.MethodName) prog_2_method_3_code (1 : Nat) (Option.none : Option Jvm.ClassFile.FieldType)) ∈ tbl := tm 349 (by decide +kernel) (by decide +kernel)
theorem tw_311 : (Jvm.Cond.methodLink "StoneBedsLaw" (44 : Nat) ({ cls := "StoneBeds", name := "stack", desc := "(II)I" } : Jvm.MethodName)) ∈ tbl := tm 350 (by decide +kernel) (by decide +kernel)
theorem tw_312 : (Jvm.Cond.instanceMethod ({ cls := "StoneBeds", name := "stack", desc := "(II)I" } : Jvm.MethodName)) ∈ tbl := tm 351 (by decide +kernel) (by decide +kernel)
theorem tw_313 : (Jvm.Cond.selects "StoneBeds" ({ cls := "StoneBeds", name := "stack", desc := "(II)I" } : Jvm.MethodName) ({ cls := "StoneBeds", name := "stack", desc := "(II)I" } : Jvm.MethodName)) ∈ tbl := tm 352 (by decide +kernel) (by decide +kernel)
theorem tw_314 : (Jvm.Cond.code ({ cls := "StoneBeds", name := "stack", desc := "(II)I" } : Jvm.MethodName) prog_1_method_9_code (5 : Nat) (Option.some Jvm.ClassFile.FieldType.int)) ∈ tbl := tm 353 (by decide +kernel) (by decide +kernel)
theorem tw_315 : (Jvm.Cond.methodLink "StoneBeds" (156 : Nat) ({ cls := "StoneBeds", name := "stackOf", desc := "(I)LStoneBeds$Pile;" } : Jvm.MethodName)) ∈ tbl := tm 354 (by decide +kernel) (by decide +kernel)
theorem tw_317 : (Jvm.Cond.instanceMethod ({ cls := "StoneBeds", name := "stackOf", desc := "(I)LStoneBeds$Pile;" } : Jvm.MethodName)) ∈ tbl := tm 356 (by decide +kernel) (by decide +kernel)
theorem tw_318 : (Jvm.Cond.code ({ cls := "StoneBeds", name := "stackOf", desc := "(I)LStoneBeds$Pile;" } : Jvm.MethodName) prog_1_method_22_code (2 : Nat) (Option.some (Jvm.ClassFile.FieldType.object "StoneBeds$Pile"))) ∈ tbl := tm 357 (by decide +kernel) (by decide +kernel)
theorem tw_319 : (Jvm.Cond.methodLink "StoneBeds" (160 : Nat) ({ cls := "StoneBeds$Pile", name := "hasRoom", desc := "()Z" } : Jvm.MethodName)) ∈ tbl := tm 358 (by decide +kernel) (by decide +kernel)
theorem tw_320 : (Jvm.Cond.instanceMethod ({ cls := "StoneBeds$Pile", name := "hasRoom", desc := "()Z" } : Jvm.MethodName)) ∈ tbl := tm 359 (by decide +kernel) (by decide +kernel)
theorem tw_321 : (Jvm.Cond.selects "StoneBeds$Pile" ({ cls := "StoneBeds$Pile", name := "hasRoom", desc := "()Z" } : Jvm.MethodName) ({ cls := "StoneBeds$Pile", name := "hasRoom", desc := "()Z" } : Jvm.MethodName)) ∈ tbl := tm 360 (by decide +kernel) (by decide +kernel)
theorem tw_322 : (Jvm.Cond.code ({ cls := "StoneBeds$Pile", name := "hasRoom", desc := "()Z" } : Jvm.MethodName) prog_7_method_2_code (1 : Nat) (Option.some Jvm.ClassFile.FieldType.boolean)) ∈ tbl := tm 361 (by decide +kernel) (by decide +kernel)
theorem tw_323 : (Jvm.Cond.methodLink "StoneBeds" (164 : Nat) ({ cls := "StoneBeds$Pile", name := "put", desc := "(I)V" } : Jvm.MethodName)) ∈ tbl := tm 362 (by decide +kernel) (by decide +kernel)
theorem tw_324 : (Jvm.Cond.instanceMethod ({ cls := "StoneBeds$Pile", name := "put", desc := "(I)V" } : Jvm.MethodName)) ∈ tbl := tm 363 (by decide +kernel) (by decide +kernel)
theorem tw_325 : (Jvm.Cond.selects "StoneBeds$Pile" ({ cls := "StoneBeds$Pile", name := "put", desc := "(I)V" } : Jvm.MethodName) ({ cls := "StoneBeds$Pile", name := "put", desc := "(I)V" } : Jvm.MethodName)) ∈ tbl := tm 364 (by decide +kernel) (by decide +kernel)
theorem tw_326 : (Jvm.Cond.code ({ cls := "StoneBeds$Pile", name := "put", desc := "(I)V" } : Jvm.MethodName) prog_7_method_3_code (2 : Nat) (Option.none : Option Jvm.ClassFile.FieldType)) ∈ tbl := tm 365 (by decide +kernel) (by decide +kernel)
theorem tw_327 : (Jvm.Cond.methodLink "StoneBedsLaw" (48 : Nat) ({ cls := "StoneBeds", name := "move", desc := "(II)I" } : Jvm.MethodName)) ∈ tbl := tm 366 (by decide +kernel) (by decide +kernel)
theorem tw_328 : (Jvm.Cond.instanceMethod ({ cls := "StoneBeds", name := "move", desc := "(II)I" } : Jvm.MethodName)) ∈ tbl := tm 367 (by decide +kernel) (by decide +kernel)
theorem tw_329 : (Jvm.Cond.selects "StoneBeds" ({ cls := "StoneBeds", name := "move", desc := "(II)I" } : Jvm.MethodName) ({ cls := "StoneBeds", name := "move", desc := "(II)I" } : Jvm.MethodName)) ∈ tbl := tm 368 (by decide +kernel) (by decide +kernel)
theorem tw_330 : (Jvm.Cond.code ({ cls := "StoneBeds", name := "move", desc := "(II)I" } : Jvm.MethodName) prog_1_method_10_code (7 : Nat) (Option.some Jvm.ClassFile.FieldType.int)) ∈ tbl := tm 369 (by decide +kernel) (by decide +kernel)
theorem tw_331 : (Jvm.Cond.methodLink "StoneBeds" (171 : Nat) ({ cls := "StoneBeds$Pile", name := "top", desc := "()I" } : Jvm.MethodName)) ∈ tbl := tm 370 (by decide +kernel) (by decide +kernel)
theorem tw_332 : (Jvm.Cond.instanceMethod ({ cls := "StoneBeds$Pile", name := "top", desc := "()I" } : Jvm.MethodName)) ∈ tbl := tm 371 (by decide +kernel) (by decide +kernel)
theorem tw_333 : (Jvm.Cond.selects "StoneBeds$Pile" ({ cls := "StoneBeds$Pile", name := "top", desc := "()I" } : Jvm.MethodName) ({ cls := "StoneBeds$Pile", name := "top", desc := "()I" } : Jvm.MethodName)) ∈ tbl := tm 372 (by decide +kernel) (by decide +kernel)
theorem tw_334 : (Jvm.Cond.code ({ cls := "StoneBeds$Pile", name := "top", desc := "()I" } : Jvm.MethodName) prog_7_method_5_code (1 : Nat) (Option.some Jvm.ClassFile.FieldType.int)) ∈ tbl := tm 373 (by decide +kernel) (by decide +kernel)
theorem tw_335 : (Jvm.Cond.methodLink "StoneBeds$Pile" (19 : Nat) ({ cls := "StoneBeds$Pile", name := "from", desc := "(I)I" } : Jvm.MethodName)) ∈ tbl := tm 374 (by decide +kernel) (by decide +kernel)
theorem tw_336 : (Jvm.Cond.instanceMethod ({ cls := "StoneBeds$Pile", name := "from", desc := "(I)I" } : Jvm.MethodName)) ∈ tbl := tm 375 (by decide +kernel) (by decide +kernel)
theorem tw_337 : (Jvm.Cond.selects "StoneBeds$Pile" ({ cls := "StoneBeds$Pile", name := "from", desc := "(I)I" } : Jvm.MethodName) ({ cls := "StoneBeds$Pile", name := "from", desc := "(I)I" } : Jvm.MethodName)) ∈ tbl := tm 376 (by decide +kernel) (by decide +kernel)
theorem tw_338 : (Jvm.Cond.code ({ cls := "StoneBeds$Pile", name := "from", desc := "(I)I" } : Jvm.MethodName) prog_7_method_4_code (2 : Nat) (Option.some Jvm.ClassFile.FieldType.int)) ∈ tbl := tm 377 (by decide +kernel) (by decide +kernel)
theorem tw_339 : (Jvm.Cond.methodLink "StoneBeds" (174 : Nat) ({ cls := "StoneBeds$Pile", name := "takeOff", desc := "()I" } : Jvm.MethodName)) ∈ tbl := tm 378 (by decide +kernel) (by decide +kernel)
theorem tw_340 : (Jvm.Cond.instanceMethod ({ cls := "StoneBeds$Pile", name := "takeOff", desc := "()I" } : Jvm.MethodName)) ∈ tbl := tm 379 (by decide +kernel) (by decide +kernel)
theorem tw_341 : (Jvm.Cond.selects "StoneBeds$Pile" ({ cls := "StoneBeds$Pile", name := "takeOff", desc := "()I" } : Jvm.MethodName) ({ cls := "StoneBeds$Pile", name := "takeOff", desc := "()I" } : Jvm.MethodName)) ∈ tbl := tm 380 (by decide +kernel) (by decide +kernel)
theorem tw_342 : (Jvm.Cond.code ({ cls := "StoneBeds$Pile", name := "takeOff", desc := "()I" } : Jvm.MethodName) prog_7_method_6_code (2 : Nat) (Option.some Jvm.ClassFile.FieldType.int)) ∈ tbl := tm 381 (by decide +kernel) (by decide +kernel)
theorem tw_343 : (Jvm.Cond.methodLink "StoneBeds$Pile" (23 : Nat) ({ cls := "StoneBeds$Pile", name := "top", desc := "()I" } : Jvm.MethodName)) ∈ tbl := tm 382 (by decide +kernel) (by decide +kernel)
theorem tw_344 : (Jvm.Cond.methodLink "StoneBeds" (177 : Nat) ({ cls := "StoneBeds", name := "strikeTops", desc := "(LStoneBeds$Pile;)V" } : Jvm.MethodName)) ∈ tbl := tm 383 (by decide +kernel) (by decide +kernel)
theorem tw_346 : (Jvm.Cond.instanceMethod ({ cls := "StoneBeds", name := "strikeTops", desc := "(LStoneBeds$Pile;)V" } : Jvm.MethodName)) ∈ tbl := tm 385 (by decide +kernel) (by decide +kernel)
theorem tw_347 : (Jvm.Cond.code ({ cls := "StoneBeds", name := "strikeTops", desc := "(LStoneBeds$Pile;)V" } : Jvm.MethodName) prog_1_method_35_code (4 : Nat) (Option.none : Option Jvm.ClassFile.FieldType)) ∈ tbl := tm 386 (by decide +kernel) (by decide +kernel)
theorem tw_348 : (Jvm.Cond.methodLink "StoneBedsLaw" (54 : Nat) ({ cls := "StoneBeds", name := "diggings", desc := "(IJ)I" } : Jvm.MethodName)) ∈ tbl := tm 387 (by decide +kernel) (by decide +kernel)
theorem tw_349 : (Jvm.Cond.instanceMethod ({ cls := "StoneBeds", name := "diggings", desc := "(IJ)I" } : Jvm.MethodName)) ∈ tbl := tm 388 (by decide +kernel) (by decide +kernel)
theorem tw_350 : (Jvm.Cond.selects "StoneBeds" ({ cls := "StoneBeds", name := "diggings", desc := "(IJ)I" } : Jvm.MethodName) ({ cls := "StoneBeds", name := "diggings", desc := "(IJ)I" } : Jvm.MethodName)) ∈ tbl := tm 389 (by decide +kernel) (by decide +kernel)
theorem tw_351 : (Jvm.Cond.code ({ cls := "StoneBeds", name := "diggings", desc := "(IJ)I" } : Jvm.MethodName) prog_1_method_11_code (6 : Nat) (Option.some Jvm.ClassFile.FieldType.int)) ∈ tbl := tm 390 (by decide +kernel) (by decide +kernel)
theorem tw_352 : (Jvm.Cond.methodLink "StoneBeds" (181 : Nat) ({ cls := "StoneBeds$Digger", name := "clear", desc := "()V" } : Jvm.MethodName)) ∈ tbl := tm 391 (by decide +kernel) (by decide +kernel)
theorem tw_353 : (Jvm.Cond.instanceMethod ({ cls := "StoneBeds$Digger", name := "clear", desc := "()V" } : Jvm.MethodName)) ∈ tbl := tm 392 (by decide +kernel) (by decide +kernel)
theorem tw_354 : (Jvm.Cond.selects "StoneBeds$Digger" ({ cls := "StoneBeds$Digger", name := "clear", desc := "()V" } : Jvm.MethodName) ({ cls := "StoneBeds$Digger", name := "clear", desc := "()V" } : Jvm.MethodName)) ∈ tbl := tm 393 (by decide +kernel) (by decide +kernel)
theorem tw_355 : (Jvm.Cond.code ({ cls := "StoneBeds$Digger", name := "clear", desc := "()V" } : Jvm.MethodName) prog_3_method_2_code (2 : Nat) (Option.none : Option Jvm.ClassFile.FieldType)) ∈ tbl := tm 394 (by decide +kernel) (by decide +kernel)
theorem tw_356 : (Jvm.Cond.methodLink "StoneBeds" (182 : Nat) ({ cls := "StoneBeds", name := "ordered", desc := "(JI)I" } : Jvm.MethodName)) ∈ tbl := tm 395 (by decide +kernel) (by decide +kernel)
theorem tw_357 : (Jvm.Cond.static ({ cls := "StoneBeds", name := "ordered", desc := "(JI)I" } : Jvm.MethodName)) ∈ tbl := tm 396 (by decide +kernel) (by decide +kernel)
theorem tw_358 : (Jvm.Cond.code ({ cls := "StoneBeds", name := "ordered", desc := "(JI)I" } : Jvm.MethodName) prog_1_method_25_code (3 : Nat) (Option.some Jvm.ClassFile.FieldType.int)) ∈ tbl := tm 397 (by decide +kernel) (by decide +kernel)
theorem tw_359 : (Jvm.Cond.methodLink "StoneBeds" (186 : Nat) ({ cls := "StoneBeds$Digger", name := "wants", desc := "(I)Z" } : Jvm.MethodName)) ∈ tbl := tm 398 (by decide +kernel) (by decide +kernel)
theorem tw_360 : (Jvm.Cond.instanceMethod ({ cls := "StoneBeds$Digger", name := "wants", desc := "(I)Z" } : Jvm.MethodName)) ∈ tbl := tm 399 (by decide +kernel) (by decide +kernel)
theorem tw_361 : (Jvm.Cond.selects "StoneBeds$Digger" ({ cls := "StoneBeds$Digger", name := "wants", desc := "(I)Z" } : Jvm.MethodName) ({ cls := "StoneBeds$Digger", name := "wants", desc := "(I)Z" } : Jvm.MethodName)) ∈ tbl := tm 400 (by decide +kernel) (by decide +kernel)
theorem tw_362 : (Jvm.Cond.code ({ cls := "StoneBeds$Digger", name := "wants", desc := "(I)Z" } : Jvm.MethodName) prog_3_method_3_code (2 : Nat) (Option.some Jvm.ClassFile.FieldType.boolean)) ∈ tbl := tm 401 (by decide +kernel) (by decide +kernel)
theorem tw_363 : (Jvm.Cond.methodLink "StoneBeds" (190 : Nat) ({ cls := "StoneBeds", name := "countWhere", desc := "(I)I" } : Jvm.MethodName)) ∈ tbl := tm 402 (by decide +kernel) (by decide +kernel)
theorem tw_365 : (Jvm.Cond.instanceMethod ({ cls := "StoneBeds", name := "countWhere", desc := "(I)I" } : Jvm.MethodName)) ∈ tbl := tm 404 (by decide +kernel) (by decide +kernel)
theorem tw_366 : (Jvm.Cond.code ({ cls := "StoneBeds", name := "countWhere", desc := "(I)I" } : Jvm.MethodName) prog_1_method_29_code (5 : Nat) (Option.some Jvm.ClassFile.FieldType.int)) ∈ tbl := tm 405 (by decide +kernel) (by decide +kernel)
theorem tw_367 : (Jvm.Cond.methodLink "StoneBeds" (194 : Nat) ({ cls := "StoneBeds$Digger", name := "copyStack", desc := "(ILStoneBeds$Pile;)V" } : Jvm.MethodName)) ∈ tbl := tm 406 (by decide +kernel) (by decide +kernel)
theorem tw_368 : (Jvm.Cond.instanceMethod ({ cls := "StoneBeds$Digger", name := "copyStack", desc := "(ILStoneBeds$Pile;)V" } : Jvm.MethodName)) ∈ tbl := tm 407 (by decide +kernel) (by decide +kernel)
theorem tw_369 : (Jvm.Cond.selects "StoneBeds$Digger" ({ cls := "StoneBeds$Digger", name := "copyStack", desc := "(ILStoneBeds$Pile;)V" } : Jvm.MethodName) ({ cls := "StoneBeds$Digger", name := "copyStack", desc := "(ILStoneBeds$Pile;)V" } : Jvm.MethodName)) ∈ tbl := tm 408 (by decide +kernel) (by decide +kernel)
theorem tw_370 : (Jvm.Cond.code ({ cls := "StoneBeds$Digger", name := "copyStack", desc := "(ILStoneBeds$Pile;)V" } : Jvm.MethodName) prog_3_method_4_code (6 : Nat) (Option.none : Option Jvm.ClassFile.FieldType)) ∈ tbl := tm 409 (by decide +kernel) (by decide +kernel)
theorem tw_371 : (Jvm.Cond.methodLink "StoneBeds$Digger" (29 : Nat) ({ cls := "StoneBeds$Digger", name := "pileOf", desc := "(I)LStoneBeds$Pile;" } : Jvm.MethodName)) ∈ tbl := tm 410 (by decide +kernel) (by decide +kernel)
theorem tw_373 : (Jvm.Cond.instanceMethod ({ cls := "StoneBeds$Digger", name := "pileOf", desc := "(I)LStoneBeds$Pile;" } : Jvm.MethodName)) ∈ tbl := tm 412 (by decide +kernel) (by decide +kernel)
theorem tw_374 : (Jvm.Cond.code ({ cls := "StoneBeds$Digger", name := "pileOf", desc := "(I)LStoneBeds$Pile;" } : Jvm.MethodName) prog_3_method_6_code (2 : Nat) (Option.some (Jvm.ClassFile.FieldType.object "StoneBeds$Pile"))) ∈ tbl := tm 413 (by decide +kernel) (by decide +kernel)
theorem tw_375 : (Jvm.Cond.methodLink "StoneBeds$Digger" (33 : Nat) ({ cls := "StoneBeds$Pile", name := "clear", desc := "()V" } : Jvm.MethodName)) ∈ tbl := tm 414 (by decide +kernel) (by decide +kernel)
theorem tw_376 : (Jvm.Cond.instanceMethod ({ cls := "StoneBeds$Pile", name := "clear", desc := "()V" } : Jvm.MethodName)) ∈ tbl := tm 415 (by decide +kernel) (by decide +kernel)
theorem tw_377 : (Jvm.Cond.selects "StoneBeds$Pile" ({ cls := "StoneBeds$Pile", name := "clear", desc := "()V" } : Jvm.MethodName) ({ cls := "StoneBeds$Pile", name := "clear", desc := "()V" } : Jvm.MethodName)) ∈ tbl := tm 416 (by decide +kernel) (by decide +kernel)
theorem tw_378 : (Jvm.Cond.code ({ cls := "StoneBeds$Pile", name := "clear", desc := "()V" } : Jvm.MethodName) prog_7_method_7_code (1 : Nat) (Option.none : Option Jvm.ClassFile.FieldType)) ∈ tbl := tm 417 (by decide +kernel) (by decide +kernel)
theorem tw_379 : (Jvm.Cond.methodLink "StoneBeds$Digger" (39 : Nat) ({ cls := "StoneBeds$Pile", name := "from", desc := "(I)I" } : Jvm.MethodName)) ∈ tbl := tm 418 (by decide +kernel) (by decide +kernel)
theorem tw_380 : (Jvm.Cond.methodLink "StoneBeds$Digger" (43 : Nat) ({ cls := "StoneBeds$Pile", name := "put", desc := "(I)V" } : Jvm.MethodName)) ∈ tbl := tm 419 (by decide +kernel) (by decide +kernel)
theorem tw_381 : (Jvm.Cond.methodLink "StoneBeds" (198 : Nat) ({ cls := "StoneBeds$Digger", name := "fewestMoves", desc := "()I" } : Jvm.MethodName)) ∈ tbl := tm 420 (by decide +kernel) (by decide +kernel)
theorem tw_382 : (Jvm.Cond.instanceMethod ({ cls := "StoneBeds$Digger", name := "fewestMoves", desc := "()I" } : Jvm.MethodName)) ∈ tbl := tm 421 (by decide +kernel) (by decide +kernel)
theorem tw_383 : (Jvm.Cond.selects "StoneBeds$Digger" ({ cls := "StoneBeds$Digger", name := "fewestMoves", desc := "()I" } : Jvm.MethodName) ({ cls := "StoneBeds$Digger", name := "fewestMoves", desc := "()I" } : Jvm.MethodName)) ∈ tbl := tm 422 (by decide +kernel) (by decide +kernel)
theorem tw_384 : (Jvm.Cond.code ({ cls := "StoneBeds$Digger", name := "fewestMoves", desc := "()I" } : Jvm.MethodName) prog_3_method_5_code (2 : Nat) (Option.some Jvm.ClassFile.FieldType.int)) ∈ tbl := tm 423 (by decide +kernel) (by decide +kernel)
theorem tw_385 : (Jvm.Cond.methodLink "StoneBeds$Digger" (47 : Nat) ({ cls := "StoneBeds$Digger", name := "mustMove", desc := "()I" } : Jvm.MethodName)) ∈ tbl := tm 424 (by decide +kernel) (by decide +kernel)
theorem tw_387 : (Jvm.Cond.instanceMethod ({ cls := "StoneBeds$Digger", name := "mustMove", desc := "()I" } : Jvm.MethodName)) ∈ tbl := tm 426 (by decide +kernel) (by decide +kernel)
theorem tw_388 : (Jvm.Cond.code ({ cls := "StoneBeds$Digger", name := "mustMove", desc := "()I" } : Jvm.MethodName) prog_3_method_11_code (6 : Nat) (Option.some Jvm.ClassFile.FieldType.int)) ∈ tbl := tm 427 (by decide +kernel) (by decide +kernel)
theorem tw_389 : (Jvm.Cond.methodLink "StoneBeds$Digger" (51 : Nat) ({ cls := "StoneBeds$Digger", name := "reaches", desc := "(II)Z" } : Jvm.MethodName)) ∈ tbl := tm 428 (by decide +kernel) (by decide +kernel)
theorem tw_391 : (Jvm.Cond.instanceMethod ({ cls := "StoneBeds$Digger", name := "reaches", desc := "(II)Z" } : Jvm.MethodName)) ∈ tbl := tm 430 (by decide +kernel) (by decide +kernel)
theorem tw_392 : (Jvm.Cond.code ({ cls := "StoneBeds$Digger", name := "reaches", desc := "(II)Z" } : Jvm.MethodName) prog_3_method_7_code (6 : Nat) (Option.some Jvm.ClassFile.FieldType.boolean)) ∈ tbl := tm 431 (by decide +kernel) (by decide +kernel)
theorem tw_393 : (Jvm.Cond.methodLink "StoneBeds$Digger" (55 : Nat) ({ cls := "StoneBeds$Digger", name := "pileWith", desc := "(I)I" } : Jvm.MethodName)) ∈ tbl := tm 432 (by decide +kernel) (by decide +kernel)
theorem tw_395 : (Jvm.Cond.instanceMethod ({ cls := "StoneBeds$Digger", name := "pileWith", desc := "(I)I" } : Jvm.MethodName)) ∈ tbl := tm 434 (by decide +kernel) (by decide +kernel)
theorem tw_396 : (Jvm.Cond.code ({ cls := "StoneBeds$Digger", name := "pileWith", desc := "(I)I" } : Jvm.MethodName) prog_3_method_10_code (4 : Nat) (Option.some Jvm.ClassFile.FieldType.int)) ∈ tbl := tm 435 (by decide +kernel) (by decide +kernel)
theorem tw_397 : (Jvm.Cond.methodLink "StoneBeds$Digger" (58 : Nat) ({ cls := "StoneBeds$Digger", name := "isTop", desc := "(II)Z" } : Jvm.MethodName)) ∈ tbl := tm 436 (by decide +kernel) (by decide +kernel)
theorem tw_399 : (Jvm.Cond.instanceMethod ({ cls := "StoneBeds$Digger", name := "isTop", desc := "(II)Z" } : Jvm.MethodName)) ∈ tbl := tm 438 (by decide +kernel) (by decide +kernel)
theorem tw_400 : (Jvm.Cond.code ({ cls := "StoneBeds$Digger", name := "isTop", desc := "(II)Z" } : Jvm.MethodName) prog_3_method_9_code (4 : Nat) (Option.some Jvm.ClassFile.FieldType.boolean)) ∈ tbl := tm 439 (by decide +kernel) (by decide +kernel)
theorem tw_401 : (Jvm.Cond.methodLink "StoneBeds$Digger" (72 : Nat) ({ cls := "StoneBeds$Pile", name := "top", desc := "()I" } : Jvm.MethodName)) ∈ tbl := tm 440 (by decide +kernel) (by decide +kernel)
theorem tw_402 : (Jvm.Cond.methodLink "StoneBeds$Digger" (61 : Nat) ({ cls := "StoneBeds$Pile", name := "takeOff", desc := "()I" } : Jvm.MethodName)) ∈ tbl := tm 441 (by decide +kernel) (by decide +kernel)
theorem tw_403 : (Jvm.Cond.methodLink "StoneBeds$Digger" (64 : Nat) ({ cls := "StoneBeds$Digger", name := "digs", desc := "(III)Z" } : Jvm.MethodName)) ∈ tbl := tm 442 (by decide +kernel) (by decide +kernel)
theorem tw_405 : (Jvm.Cond.instanceMethod ({ cls := "StoneBeds$Digger", name := "digs", desc := "(III)Z" } : Jvm.MethodName)) ∈ tbl := tm 444 (by decide +kernel) (by decide +kernel)
theorem tw_406 : (Jvm.Cond.code ({ cls := "StoneBeds$Digger", name := "digs", desc := "(III)Z" } : Jvm.MethodName) prog_3_method_8_code (9 : Nat) (Option.some Jvm.ClassFile.FieldType.boolean)) ∈ tbl := tm 445 (by decide +kernel) (by decide +kernel)
theorem tw_407 : (Jvm.Cond.methodLink "StoneBeds$Digger" (68 : Nat) ({ cls := "StoneBeds$Pile", name := "hasRoom", desc := "()Z" } : Jvm.MethodName)) ∈ tbl := tm 446 (by decide +kernel) (by decide +kernel)
theorem tw_408 : (Jvm.Cond.methodLink "StoneBedsLaw" (59 : Nat) ({ cls := "StoneBeds", name := "load", desc := "(I)I" } : Jvm.MethodName)) ∈ tbl := tm 447 (by decide +kernel) (by decide +kernel)
theorem tw_409 : (Jvm.Cond.instanceMethod ({ cls := "StoneBeds", name := "load", desc := "(I)I" } : Jvm.MethodName)) ∈ tbl := tm 448 (by decide +kernel) (by decide +kernel)
theorem tw_410 : (Jvm.Cond.selects "StoneBeds" ({ cls := "StoneBeds", name := "load", desc := "(I)I" } : Jvm.MethodName) ({ cls := "StoneBeds", name := "load", desc := "(I)I" } : Jvm.MethodName)) ∈ tbl := tm 449 (by decide +kernel) (by decide +kernel)
theorem tw_411 : (Jvm.Cond.code ({ cls := "StoneBeds", name := "load", desc := "(I)I" } : Jvm.MethodName) prog_1_method_12_code (5 : Nat) (Option.some Jvm.ClassFile.FieldType.int)) ∈ tbl := tm 450 (by decide +kernel) (by decide +kernel)
theorem tw_412 : (Jvm.Cond.methodLink "StoneBeds" (201 : Nat) ({ cls := "StoneBeds$Lorry", name := "hasPlace", desc := "()Z" } : Jvm.MethodName)) ∈ tbl := tm 451 (by decide +kernel) (by decide +kernel)
theorem tw_413 : (Jvm.Cond.instanceMethod ({ cls := "StoneBeds$Lorry", name := "hasPlace", desc := "()Z" } : Jvm.MethodName)) ∈ tbl := tm 452 (by decide +kernel) (by decide +kernel)
theorem tw_414 : (Jvm.Cond.selects "StoneBeds$Lorry" ({ cls := "StoneBeds$Lorry", name := "hasPlace", desc := "()Z" } : Jvm.MethodName) ({ cls := "StoneBeds$Lorry", name := "hasPlace", desc := "()Z" } : Jvm.MethodName)) ∈ tbl := tm 453 (by decide +kernel) (by decide +kernel)
theorem tw_415 : (Jvm.Cond.code ({ cls := "StoneBeds$Lorry", name := "hasPlace", desc := "()Z" } : Jvm.MethodName) prog_4_method_2_code (1 : Nat) (Option.some Jvm.ClassFile.FieldType.boolean)) ∈ tbl := tm 454 (by decide +kernel) (by decide +kernel)
theorem tw_416 : (Jvm.Cond.methodLink "StoneBeds" (207 : Nat) ({ cls := "StoneBeds$Lorry", name := "bears", desc := "(I)Z" } : Jvm.MethodName)) ∈ tbl := tm 455 (by decide +kernel) (by decide +kernel)
theorem tw_417 : (Jvm.Cond.instanceMethod ({ cls := "StoneBeds$Lorry", name := "bears", desc := "(I)Z" } : Jvm.MethodName)) ∈ tbl := tm 456 (by decide +kernel) (by decide +kernel)
theorem tw_418 : (Jvm.Cond.selects "StoneBeds$Lorry" ({ cls := "StoneBeds$Lorry", name := "bears", desc := "(I)Z" } : Jvm.MethodName) ({ cls := "StoneBeds$Lorry", name := "bears", desc := "(I)Z" } : Jvm.MethodName)) ∈ tbl := tm 457 (by decide +kernel) (by decide +kernel)
theorem tw_419 : (Jvm.Cond.code ({ cls := "StoneBeds$Lorry", name := "bears", desc := "(I)Z" } : Jvm.MethodName) prog_4_method_3_code (2 : Nat) (Option.some Jvm.ClassFile.FieldType.boolean)) ∈ tbl := tm 458 (by decide +kernel) (by decide +kernel)
theorem tw_420 : (Jvm.Cond.methodLink "StoneBeds$Lorry" (25 : Nat) ({ cls := "StoneBeds$Lorry", name := "frontShare", desc := "()I" } : Jvm.MethodName)) ∈ tbl := tm 459 (by decide +kernel) (by decide +kernel)
theorem tw_422 : (Jvm.Cond.instanceMethod ({ cls := "StoneBeds$Lorry", name := "frontShare", desc := "()I" } : Jvm.MethodName)) ∈ tbl := tm 461 (by decide +kernel) (by decide +kernel)
theorem tw_423 : (Jvm.Cond.code ({ cls := "StoneBeds$Lorry", name := "frontShare", desc := "()I" } : Jvm.MethodName) prog_4_method_7_code (1 : Nat) (Option.some Jvm.ClassFile.FieldType.int)) ∈ tbl := tm 462 (by decide +kernel) (by decide +kernel)
theorem tw_424 : (Jvm.Cond.methodLink "StoneBeds$Lorry" (32 : Nat) ({ cls := "StoneBeds$Lorry", name := "rearShare", desc := "()I" } : Jvm.MethodName)) ∈ tbl := tm 463 (by decide +kernel) (by decide +kernel)
theorem tw_426 : (Jvm.Cond.instanceMethod ({ cls := "StoneBeds$Lorry", name := "rearShare", desc := "()I" } : Jvm.MethodName)) ∈ tbl := tm 465 (by decide +kernel) (by decide +kernel)
theorem tw_427 : (Jvm.Cond.code ({ cls := "StoneBeds$Lorry", name := "rearShare", desc := "()I" } : Jvm.MethodName) prog_4_method_8_code (1 : Nat) (Option.some Jvm.ClassFile.FieldType.int)) ∈ tbl := tm 466 (by decide +kernel) (by decide +kernel)
theorem tw_428 : (Jvm.Cond.methodLink "StoneBeds" (210 : Nat) ({ cls := "StoneBeds$Lorry", name := "take", desc := "(II)I" } : Jvm.MethodName)) ∈ tbl := tm 467 (by decide +kernel) (by decide +kernel)
theorem tw_429 : (Jvm.Cond.instanceMethod ({ cls := "StoneBeds$Lorry", name := "take", desc := "(II)I" } : Jvm.MethodName)) ∈ tbl := tm 468 (by decide +kernel) (by decide +kernel)
theorem tw_430 : (Jvm.Cond.selects "StoneBeds$Lorry" ({ cls := "StoneBeds$Lorry", name := "take", desc := "(II)I" } : Jvm.MethodName) ({ cls := "StoneBeds$Lorry", name := "take", desc := "(II)I" } : Jvm.MethodName)) ∈ tbl := tm 469 (by decide +kernel) (by decide +kernel)
theorem tw_431 : (Jvm.Cond.code ({ cls := "StoneBeds$Lorry", name := "take", desc := "(II)I" } : Jvm.MethodName) prog_4_method_4_code (4 : Nat) (Option.some Jvm.ClassFile.FieldType.int)) ∈ tbl := tm 470 (by decide +kernel) (by decide +kernel)
theorem tw_432 : (Jvm.Cond.methodLink "StoneBedsLaw" (63 : Nat) ({ cls := "StoneBeds", name := "go", desc := "()I" } : Jvm.MethodName)) ∈ tbl := tm 471 (by decide +kernel) (by decide +kernel)
theorem tw_433 : (Jvm.Cond.instanceMethod ({ cls := "StoneBeds", name := "go", desc := "()I" } : Jvm.MethodName)) ∈ tbl := tm 472 (by decide +kernel) (by decide +kernel)
theorem tw_434 : (Jvm.Cond.selects "StoneBeds" ({ cls := "StoneBeds", name := "go", desc := "()I" } : Jvm.MethodName) ({ cls := "StoneBeds", name := "go", desc := "()I" } : Jvm.MethodName)) ∈ tbl := tm 473 (by decide +kernel) (by decide +kernel)
theorem tw_435 : (Jvm.Cond.code ({ cls := "StoneBeds", name := "go", desc := "()I" } : Jvm.MethodName) prog_1_method_13_code (4 : Nat) (Option.some Jvm.ClassFile.FieldType.int)) ∈ tbl := tm 474 (by decide +kernel) (by decide +kernel)
theorem tw_436 : (Jvm.Cond.methodLink "StoneBeds" (213 : Nat) ({ cls := "StoneBeds$Lorry", name := "partOn", desc := "(I)I" } : Jvm.MethodName)) ∈ tbl := tm 475 (by decide +kernel) (by decide +kernel)
theorem tw_437 : (Jvm.Cond.instanceMethod ({ cls := "StoneBeds$Lorry", name := "partOn", desc := "(I)I" } : Jvm.MethodName)) ∈ tbl := tm 476 (by decide +kernel) (by decide +kernel)
theorem tw_438 : (Jvm.Cond.selects "StoneBeds$Lorry" ({ cls := "StoneBeds$Lorry", name := "partOn", desc := "(I)I" } : Jvm.MethodName) ({ cls := "StoneBeds$Lorry", name := "partOn", desc := "(I)I" } : Jvm.MethodName)) ∈ tbl := tm 477 (by decide +kernel) (by decide +kernel)
theorem tw_439 : (Jvm.Cond.code ({ cls := "StoneBeds$Lorry", name := "partOn", desc := "(I)I" } : Jvm.MethodName) prog_4_method_5_code (2 : Nat) (Option.some Jvm.ClassFile.FieldType.int)) ∈ tbl := tm 478 (by decide +kernel) (by decide +kernel)
theorem tw_440 : (Jvm.Cond.methodLink "StoneBeds" (219 : Nat) ({ cls := "StoneBeds$Lorry", name := "clear", desc := "()V" } : Jvm.MethodName)) ∈ tbl := tm 479 (by decide +kernel) (by decide +kernel)
theorem tw_441 : (Jvm.Cond.instanceMethod ({ cls := "StoneBeds$Lorry", name := "clear", desc := "()V" } : Jvm.MethodName)) ∈ tbl := tm 480 (by decide +kernel) (by decide +kernel)
theorem tw_442 : (Jvm.Cond.selects "StoneBeds$Lorry" ({ cls := "StoneBeds$Lorry", name := "clear", desc := "()V" } : Jvm.MethodName) ({ cls := "StoneBeds$Lorry", name := "clear", desc := "()V" } : Jvm.MethodName)) ∈ tbl := tm 481 (by decide +kernel) (by decide +kernel)
theorem tw_443 : (Jvm.Cond.code ({ cls := "StoneBeds$Lorry", name := "clear", desc := "()V" } : Jvm.MethodName) prog_4_method_6_code (1 : Nat) (Option.none : Option Jvm.ClassFile.FieldType)) ∈ tbl := tm 482 (by decide +kernel) (by decide +kernel)
theorem tw_444 : (Jvm.Cond.methodLink "StoneBedsLaw" (68 : Nat) ({ cls := "StoneBeds", name := "lorry", desc := "(I)I" } : Jvm.MethodName)) ∈ tbl := tm 483 (by decide +kernel) (by decide +kernel)
theorem tw_445 : (Jvm.Cond.instanceMethod ({ cls := "StoneBeds", name := "lorry", desc := "(I)I" } : Jvm.MethodName)) ∈ tbl := tm 484 (by decide +kernel) (by decide +kernel)
theorem tw_446 : (Jvm.Cond.selects "StoneBeds" ({ cls := "StoneBeds", name := "lorry", desc := "(I)I" } : Jvm.MethodName) ({ cls := "StoneBeds", name := "lorry", desc := "(I)I" } : Jvm.MethodName)) ∈ tbl := tm 485 (by decide +kernel) (by decide +kernel)
theorem tw_447 : (Jvm.Cond.code ({ cls := "StoneBeds", name := "lorry", desc := "(I)I" } : Jvm.MethodName) prog_1_method_14_code (2 : Nat) (Option.some Jvm.ClassFile.FieldType.int)) ∈ tbl := tm 486 (by decide +kernel) (by decide +kernel)
theorem tw_448 : (Jvm.Cond.methodLink "StoneBeds" (227 : Nat) ({ cls := "StoneBeds", name := "isRight", desc := "()Z" } : Jvm.MethodName)) ∈ tbl := tm 487 (by decide +kernel) (by decide +kernel)
theorem tw_450 : (Jvm.Cond.instanceMethod ({ cls := "StoneBeds", name := "isRight", desc := "()Z" } : Jvm.MethodName)) ∈ tbl := tm 489 (by decide +kernel) (by decide +kernel)
theorem tw_451 : (Jvm.Cond.code ({ cls := "StoneBeds", name := "isRight", desc := "()Z" } : Jvm.MethodName) prog_1_method_33_code (4 : Nat) (Option.some Jvm.ClassFile.FieldType.boolean)) ∈ tbl := tm 490 (by decide +kernel) (by decide +kernel)
theorem tw_452 : (Jvm.Cond.methodLink "StoneBedsLaw" (72 : Nat) ({ cls := "StoneBeds", name := "change", desc := "(IIII)I" } : Jvm.MethodName)) ∈ tbl := tm 491 (by decide +kernel) (by decide +kernel)
theorem tw_453 : (Jvm.Cond.instanceMethod ({ cls := "StoneBeds", name := "change", desc := "(IIII)I" } : Jvm.MethodName)) ∈ tbl := tm 492 (by decide +kernel) (by decide +kernel)
theorem tw_454 : (Jvm.Cond.selects "StoneBeds" ({ cls := "StoneBeds", name := "change", desc := "(IIII)I" } : Jvm.MethodName) ({ cls := "StoneBeds", name := "change", desc := "(IIII)I" } : Jvm.MethodName)) ∈ tbl := tm 493 (by decide +kernel) (by decide +kernel)
theorem tw_455 : (Jvm.Cond.code ({ cls := "StoneBeds", name := "change", desc := "(IIII)I" } : Jvm.MethodName) prog_1_method_15_code (7 : Nat) (Option.some Jvm.ClassFile.FieldType.int)) ∈ tbl := tm 494 (by decide +kernel) (by decide +kernel)
theorem tw_456 : (Jvm.Cond.methodLink "StoneBeds" (236 : Nat) ({ cls := "StoneBeds", name := "strikeWhereItIs", desc := "(LStoneBeds$Part;)V" } : Jvm.MethodName)) ∈ tbl := tm 495 (by decide +kernel) (by decide +kernel)
theorem tw_458 : (Jvm.Cond.instanceMethod ({ cls := "StoneBeds", name := "strikeWhereItIs", desc := "(LStoneBeds$Part;)V" } : Jvm.MethodName)) ∈ tbl := tm 497 (by decide +kernel) (by decide +kernel)
theorem tw_459 : (Jvm.Cond.code ({ cls := "StoneBeds", name := "strikeWhereItIs", desc := "(LStoneBeds$Part;)V" } : Jvm.MethodName) prog_1_method_34_code (2 : Nat) (Option.none : Option Jvm.ClassFile.FieldType)) ∈ tbl := tm 498 (by decide +kernel) (by decide +kernel)
theorem tw_460 : (Jvm.Cond.methodLink "StoneBedsLaw" (77 : Nat) ({ cls := "StoneBeds", name := "told", desc := "(II)I" } : Jvm.MethodName)) ∈ tbl := tm 499 (by decide +kernel) (by decide +kernel)
theorem tw_461 : (Jvm.Cond.instanceMethod ({ cls := "StoneBeds", name := "told", desc := "(II)I" } : Jvm.MethodName)) ∈ tbl := tm 500 (by decide +kernel) (by decide +kernel)
theorem tw_462 : (Jvm.Cond.selects "StoneBeds" ({ cls := "StoneBeds", name := "told", desc := "(II)I" } : Jvm.MethodName) ({ cls := "StoneBeds", name := "told", desc := "(II)I" } : Jvm.MethodName)) ∈ tbl := tm 501 (by decide +kernel) (by decide +kernel)
theorem tw_463 : (Jvm.Cond.code ({ cls := "StoneBeds", name := "told", desc := "(II)I" } : Jvm.MethodName) prog_1_method_16_code (4 : Nat) (Option.some Jvm.ClassFile.FieldType.int)) ∈ tbl := tm 502 (by decide +kernel) (by decide +kernel)
theorem tw_464 : (Jvm.Cond.methodLink "StoneBedsLaw" (81 : Nat) ({ cls := "StoneBeds", name := "at", desc := "(II)I" } : Jvm.MethodName)) ∈ tbl := tm 503 (by decide +kernel) (by decide +kernel)
theorem tw_465 : (Jvm.Cond.instanceMethod ({ cls := "StoneBeds", name := "at", desc := "(II)I" } : Jvm.MethodName)) ∈ tbl := tm 504 (by decide +kernel) (by decide +kernel)
theorem tw_466 : (Jvm.Cond.selects "StoneBeds" ({ cls := "StoneBeds", name := "at", desc := "(II)I" } : Jvm.MethodName) ({ cls := "StoneBeds", name := "at", desc := "(II)I" } : Jvm.MethodName)) ∈ tbl := tm 505 (by decide +kernel) (by decide +kernel)
theorem tw_467 : (Jvm.Cond.code ({ cls := "StoneBeds", name := "at", desc := "(II)I" } : Jvm.MethodName) prog_1_method_17_code (4 : Nat) (Option.some Jvm.ClassFile.FieldType.int)) ∈ tbl := tm 506 (by decide +kernel) (by decide +kernel)
theorem tw_468 : (Jvm.Cond.methodLink "StoneBeds" (240 : Nat) ({ cls := "StoneBeds$Pile", name := "from", desc := "(I)I" } : Jvm.MethodName)) ∈ tbl := tm 507 (by decide +kernel) (by decide +kernel)
theorem tw_469 : (Jvm.Cond.methodLink "StoneBedsLaw" (85 : Nat) ({ cls := "StoneBeds", name := "bed", desc := "(II)I" } : Jvm.MethodName)) ∈ tbl := tm 508 (by decide +kernel) (by decide +kernel)
theorem tw_470 : (Jvm.Cond.instanceMethod ({ cls := "StoneBeds", name := "bed", desc := "(II)I" } : Jvm.MethodName)) ∈ tbl := tm 509 (by decide +kernel) (by decide +kernel)
theorem tw_471 : (Jvm.Cond.selects "StoneBeds" ({ cls := "StoneBeds", name := "bed", desc := "(II)I" } : Jvm.MethodName) ({ cls := "StoneBeds", name := "bed", desc := "(II)I" } : Jvm.MethodName)) ∈ tbl := tm 510 (by decide +kernel) (by decide +kernel)
theorem tw_472 : (Jvm.Cond.code ({ cls := "StoneBeds", name := "bed", desc := "(II)I" } : Jvm.MethodName) prog_1_method_18_code (4 : Nat) (Option.some Jvm.ClassFile.FieldType.int)) ∈ tbl := tm 511 (by decide +kernel) (by decide +kernel)
theorem tw_473 : (Jvm.Cond.methodLink "StoneBedsLaw" (89 : Nat) ({ cls := "StoneBeds", name := "count", desc := "(I)I" } : Jvm.MethodName)) ∈ tbl := tm 512 (by decide +kernel) (by decide +kernel)
theorem tw_474 : (Jvm.Cond.instanceMethod ({ cls := "StoneBeds", name := "count", desc := "(I)I" } : Jvm.MethodName)) ∈ tbl := tm 513 (by decide +kernel) (by decide +kernel)
theorem tw_475 : (Jvm.Cond.selects "StoneBeds" ({ cls := "StoneBeds", name := "count", desc := "(I)I" } : Jvm.MethodName) ({ cls := "StoneBeds", name := "count", desc := "(I)I" } : Jvm.MethodName)) ∈ tbl := tm 514 (by decide +kernel) (by decide +kernel)
theorem tw_476 : (Jvm.Cond.code ({ cls := "StoneBeds", name := "count", desc := "(I)I" } : Jvm.MethodName) prog_1_method_19_code (2 : Nat) (Option.some Jvm.ClassFile.FieldType.int)) ∈ tbl := tm 515 (by decide +kernel) (by decide +kernel)
theorem tw_477 : (Jvm.Cond.classLink "StoneBedsLaw" (10 : Nat) "StoneBedsModel") ∈ tbl := tm 516 (by decide +kernel) (by decide +kernel)
theorem tw_478 : (Jvm.Cond.instantiable "StoneBedsModel" (34 : Nat)) ∈ tbl := tm 517 (by decide +kernel) (by decide +kernel)
theorem tw_479 : (Jvm.Cond.methodLink "StoneBedsLaw" (12 : Nat) ({ cls := "StoneBedsModel", name := "<init>", desc := "()V" } : Jvm.MethodName)) ∈ tbl := tm 518 (by decide +kernel) (by decide +kernel)
theorem tw_480 : (Jvm.Cond.instanceMethod ({ cls := "StoneBedsModel", name := "<init>", desc := "()V" } : Jvm.MethodName)) ∈ tbl := tm 519 (by decide +kernel) (by decide +kernel)
theorem tw_481 : (Jvm.Cond.code ({ cls := "StoneBedsModel", name := "<init>", desc := "()V" } : Jvm.MethodName) prog_9_method_1_code (1 : Nat) (Option.none : Option Jvm.ClassFile.FieldType)) ∈ tbl := tm 520 (by decide +kernel) (by decide +kernel)
theorem tw_482 : (Jvm.Cond.methodLink "StoneBedsModel" (1 : Nat) ({ cls := "java/lang/Object", name := "<init>", desc := "()V" } : Jvm.MethodName)) ∈ tbl := tm 521 (by decide +kernel) (by decide +kernel)
theorem tw_483 : (Jvm.Cond.fieldLink "StoneBedsModel" (93 : Nat) "StoneBedsModel" "parts" "I") ∈ tbl := tm 522 (by decide +kernel) (by decide +kernel)
theorem tw_484 : (Jvm.Cond.fieldLink "StoneBedsModel" (7 : Nat) "StoneBedsModel" "length" "[I") ∈ tbl := tm 523 (by decide +kernel) (by decide +kernel)
theorem tw_485 : (Jvm.Cond.fieldLink "StoneBedsModel" (13 : Nat) "StoneBedsModel" "plan" "[I") ∈ tbl := tm 524 (by decide +kernel) (by decide +kernel)
theorem tw_486 : (Jvm.Cond.fieldLink "StoneBedsModel" (16 : Nat) "StoneBedsModel" "weight" "[I") ∈ tbl := tm 525 (by decide +kernel) (by decide +kernel)
theorem tw_487 : (Jvm.Cond.fieldLink "StoneBedsModel" (19 : Nat) "StoneBedsModel" "need" "[I") ∈ tbl := tm 526 (by decide +kernel) (by decide +kernel)
theorem tw_488 : (Jvm.Cond.fieldLink "StoneBedsModel" (22 : Nat) "StoneBedsModel" "where" "[I") ∈ tbl := tm 527 (by decide +kernel) (by decide +kernel)
theorem tw_489 : (Jvm.Cond.fieldLink "StoneBedsModel" (25 : Nat) "StoneBedsModel" "number" "[I") ∈ tbl := tm 528 (by decide +kernel) (by decide +kernel)
theorem tw_490 : (Jvm.Cond.fieldLink "StoneBedsModel" (28 : Nat) "StoneBedsModel" "camber" "[I") ∈ tbl := tm 529 (by decide +kernel) (by decide +kernel)
theorem tw_491 : (Jvm.Cond.fieldLink "StoneBedsModel" (31 : Nat) "StoneBedsModel" "isDoomed" "[Z") ∈ tbl := tm 530 (by decide +kernel) (by decide +kernel)
theorem tw_492 : (Jvm.Cond.fieldLink "StoneBedsModel" (35 : Nat) "StoneBedsModel" "onBed" "[I") ∈ tbl := tm 531 (by decide +kernel) (by decide +kernel)
theorem tw_493 : (Jvm.Cond.fieldLink "StoneBedsModel" (38 : Nat) "StoneBedsModel" "bedPart" "[I") ∈ tbl := tm 532 (by decide +kernel) (by decide +kernel)
theorem tw_494 : (Jvm.Cond.fieldLink "StoneBedsModel" (41 : Nat) "StoneBedsModel" "ripe" "[I") ∈ tbl := tm 533 (by decide +kernel) (by decide +kernel)
theorem tw_495 : (Jvm.Cond.fieldLink "StoneBedsModel" (44 : Nat) "StoneBedsModel" "since" "[I") ∈ tbl := tm 534 (by decide +kernel) (by decide +kernel)
theorem tw_496 : (Jvm.Cond.fieldLink "StoneBedsModel" (47 : Nat) "StoneBedsModel" "warm" "I") ∈ tbl := tm 535 (by decide +kernel) (by decide +kernel)
theorem tw_497 : (Jvm.Cond.fieldLink "StoneBedsModel" (135 : Nat) "StoneBedsModel" "hour" "I") ∈ tbl := tm 536 (by decide +kernel) (by decide +kernel)
theorem tw_498 : (Jvm.Cond.fieldLink "StoneBedsModel" (51 : Nat) "StoneBedsModel" "high" "[I") ∈ tbl := tm 537 (by decide +kernel) (by decide +kernel)
theorem tw_499 : (Jvm.Cond.fieldLink "StoneBedsModel" (54 : Nat) "StoneBedsModel" "pile" "[I") ∈ tbl := tm 538 (by decide +kernel) (by decide +kernel)
theorem tw_500 : (Jvm.Cond.fieldLink "StoneBedsModel" (185 : Nat) "StoneBedsModel" "loaded" "I") ∈ tbl := tm 539 (by decide +kernel) (by decide +kernel)
theorem tw_501 : (Jvm.Cond.fieldLink "StoneBedsModel" (57 : Nat) "StoneBedsModel" "lorry" "[I") ∈ tbl := tm 540 (by decide +kernel) (by decide +kernel)
theorem tw_502 : (Jvm.Cond.fieldLink "StoneBedsModel" (197 : Nat) "StoneBedsModel" "trips" "I") ∈ tbl := tm 541 (by decide +kernel) (by decide +kernel)
theorem tw_503 : (Jvm.Cond.fieldLink "StoneBedsModel" (138 : Nat) "StoneBedsModel" "castsDone" "I") ∈ tbl := tm 542 (by decide +kernel) (by decide +kernel)
theorem tw_504 : (Jvm.Cond.fieldLink "StoneBedsModel" (120 : Nat) "StoneBedsModel" "asked" "I") ∈ tbl := tm 543 (by decide +kernel) (by decide +kernel)
theorem tw_505 : (Jvm.Cond.fieldLink "StoneBedsModel" (60 : Nat) "StoneBedsModel" "ask" "[I") ∈ tbl := tm 544 (by decide +kernel) (by decide +kernel)
theorem tw_506 : (Jvm.Cond.fieldLink "StoneBedsModel" (63 : Nat) "StoneBedsModel" "fewest" "[I") ∈ tbl := tm 545 (by decide +kernel) (by decide +kernel)
theorem tw_507 : (Jvm.Cond.fieldLink "StoneBedsModel" (66 : Nat) "StoneBedsModel" "room" "[I") ∈ tbl := tm 546 (by decide +kernel) (by decide +kernel)
theorem tw_508 : (Jvm.Cond.fieldLink "StoneBedsModel" (69 : Nat) "StoneBedsModel" "order" "[I") ∈ tbl := tm 547 (by decide +kernel) (by decide +kernel)
theorem tw_509 : (Jvm.Cond.fieldLink "StoneBedsModel" (159 : Nat) "StoneBedsModel" "ordered" "I") ∈ tbl := tm 548 (by decide +kernel) (by decide +kernel)
theorem tw_510 : (Jvm.Cond.fieldLink "StoneBedsModel" (72 : Nat) "StoneBedsModel" "sHigh" "[I") ∈ tbl := tm 549 (by decide +kernel) (by decide +kernel)
theorem tw_511 : (Jvm.Cond.fieldLink "StoneBedsModel" (75 : Nat) "StoneBedsModel" "sPile" "[I") ∈ tbl := tm 550 (by decide +kernel) (by decide +kernel)
theorem tw_512 : (Jvm.Cond.fieldLink "StoneBedsModel" (78 : Nat) "StoneBedsModel" "first" "[I") ∈ tbl := tm 551 (by decide +kernel) (by decide +kernel)
theorem tw_513 : (Jvm.Cond.fieldLink "StoneBedsModel" (81 : Nat) "StoneBedsModel" "taken" "[I") ∈ tbl := tm 552 (by decide +kernel) (by decide +kernel)
theorem tw_514 : (Jvm.Cond.fieldLink "StoneBedsModel" (84 : Nat) "StoneBedsModel" "takenFrom" "[I") ∈ tbl := tm 553 (by decide +kernel) (by decide +kernel)
theorem tw_515 : (Jvm.Cond.fieldLink "StoneBedsModel" (87 : Nat) "StoneBedsModel" "dugFrom" "[I") ∈ tbl := tm 554 (by decide +kernel) (by decide +kernel)
theorem tw_516 : (Jvm.Cond.fieldLink "StoneBedsModel" (90 : Nat) "StoneBedsModel" "went" "[I") ∈ tbl := tm 555 (by decide +kernel) (by decide +kernel)
theorem tw_586 : (Jvm.Cond.arrayClass Jvm.ClassFile.FieldType.boolean) ∈ tbl := tm 625 (by decide +kernel) (by decide +kernel)
theorem tw_587 : (Jvm.Cond.methodLink "StoneBedsLaw" (17 : Nat) ({ cls := "StoneBedsModel", name := "part", desc := "(III)I" } : Jvm.MethodName)) ∈ tbl := tm 626 (by decide +kernel) (by decide +kernel)
theorem tw_588 : (Jvm.Cond.instanceMethod ({ cls := "StoneBedsModel", name := "part", desc := "(III)I" } : Jvm.MethodName)) ∈ tbl := tm 627 (by decide +kernel) (by decide +kernel)
theorem tw_589 : (Jvm.Cond.selects "StoneBedsModel" ({ cls := "StoneBedsModel", name := "part", desc := "(III)I" } : Jvm.MethodName) ({ cls := "StoneBedsModel", name := "part", desc := "(III)I" } : Jvm.MethodName)) ∈ tbl := tm 628 (by decide +kernel) (by decide +kernel)
theorem tw_590 : (Jvm.Cond.code ({ cls := "StoneBedsModel", name := "part", desc := "(III)I" } : Jvm.MethodName) prog_9_method_6_code (4 : Nat) (Option.some Jvm.ClassFile.FieldType.int)) ∈ tbl := tm 629 (by decide +kernel) (by decide +kernel)
theorem tw_591 : (Jvm.Cond.methodLink "StoneBedsModel" (106 : Nat) ({ cls := "StoneBedsModel", name := "areWell", desc := "(III)Z" } : Jvm.MethodName)) ∈ tbl := tm 630 (by decide +kernel) (by decide +kernel)
theorem tw_592 : (Jvm.Cond.static ({ cls := "StoneBedsModel", name := "areWell", desc := "(III)Z" } : Jvm.MethodName)) ∈ tbl := tm 631 (by decide +kernel) (by decide +kernel)
theorem tw_593 : (Jvm.Cond.code ({ cls := "StoneBedsModel", name := "areWell", desc := "(III)Z" } : Jvm.MethodName) prog_9_method_4_code (3 : Nat) (Option.some Jvm.ClassFile.FieldType.boolean)) ∈ tbl := tm 632 (by decide +kernel) (by decide +kernel)
theorem tw_594 : (Jvm.Cond.constantLong "StoneBedsModel" (100 : Nat) (200 : Int64)) ∈ tbl := tm 633 (by decide +kernel) (by decide +kernel)
theorem tw_595 : (Jvm.Cond.methodLink "StoneBedsModel" (96 : Nat) ({ cls := "StoneBedsModel", name := "in", desc := "(JJJ)Z" } : Jvm.MethodName)) ∈ tbl := tm 634 (by decide +kernel) (by decide +kernel)
theorem tw_596 : (Jvm.Cond.static ({ cls := "StoneBedsModel", name := "in", desc := "(JJJ)Z" } : Jvm.MethodName)) ∈ tbl := tm 635 (by decide +kernel) (by decide +kernel)
theorem tw_597 : (Jvm.Cond.code ({ cls := "StoneBedsModel", name := "in", desc := "(JJJ)Z" } : Jvm.MethodName) prog_9_method_2_code (6 : Nat) (Option.some Jvm.ClassFile.FieldType.boolean)) ∈ tbl := tm 636 (by decide +kernel) (by decide +kernel)
theorem tw_598 : (Jvm.Cond.constantLong "StoneBedsModel" (102 : Nat) (7 : Int64)) ∈ tbl := tm 637 (by decide +kernel) (by decide +kernel)
theorem tw_599 : (Jvm.Cond.constantLong "StoneBedsModel" (104 : Nat) (100 : Int64)) ∈ tbl := tm 638 (by decide +kernel) (by decide +kernel)
theorem tw_600 : (Jvm.Cond.methodLink "StoneBedsModel" (110 : Nat) ({ cls := "StoneBedsModel", name := "comes", desc := "(IIII)I" } : Jvm.MethodName)) ∈ tbl := tm 639 (by decide +kernel) (by decide +kernel)
theorem tw_602 : (Jvm.Cond.instanceMethod ({ cls := "StoneBedsModel", name := "comes", desc := "(IIII)I" } : Jvm.MethodName)) ∈ tbl := tm 641 (by decide +kernel) (by decide +kernel)
theorem tw_603 : (Jvm.Cond.code ({ cls := "StoneBedsModel", name := "comes", desc := "(IIII)I" } : Jvm.MethodName) prog_9_method_5_code (5 : Nat) (Option.some Jvm.ClassFile.FieldType.int)) ∈ tbl := tm 642 (by decide +kernel) (by decide +kernel)
theorem tw_604 : (Jvm.Cond.methodLink "StoneBedsLaw" (22 : Nat) ({ cls := "StoneBedsModel", name := "need", desc := "(II)I" } : Jvm.MethodName)) ∈ tbl := tm 643 (by decide +kernel) (by decide +kernel)
theorem tw_605 : (Jvm.Cond.instanceMethod ({ cls := "StoneBedsModel", name := "need", desc := "(II)I" } : Jvm.MethodName)) ∈ tbl := tm 644 (by decide +kernel) (by decide +kernel)
theorem tw_606 : (Jvm.Cond.selects "StoneBedsModel" ({ cls := "StoneBedsModel", name := "need", desc := "(II)I" } : Jvm.MethodName) ({ cls := "StoneBedsModel", name := "need", desc := "(II)I" } : Jvm.MethodName)) ∈ tbl := tm 645 (by decide +kernel) (by decide +kernel)
theorem tw_607 : (Jvm.Cond.code ({ cls := "StoneBedsModel", name := "need", desc := "(II)I" } : Jvm.MethodName) prog_9_method_7_code (4 : Nat) (Option.some Jvm.ClassFile.FieldType.int)) ∈ tbl := tm 646 (by decide +kernel) (by decide +kernel)
theorem tw_608 : (Jvm.Cond.methodLink "StoneBedsModel" (114 : Nat) ({ cls := "StoneBedsModel", name := "isPart", desc := "(I)Z" } : Jvm.MethodName)) ∈ tbl := tm 647 (by decide +kernel) (by decide +kernel)
theorem tw_610 : (Jvm.Cond.instanceMethod ({ cls := "StoneBedsModel", name := "isPart", desc := "(I)Z" } : Jvm.MethodName)) ∈ tbl := tm 649 (by decide +kernel) (by decide +kernel)
theorem tw_611 : (Jvm.Cond.code ({ cls := "StoneBedsModel", name := "isPart", desc := "(I)Z" } : Jvm.MethodName) prog_9_method_3_code (2 : Nat) (Option.some Jvm.ClassFile.FieldType.boolean)) ∈ tbl := tm 650 (by decide +kernel) (by decide +kernel)
theorem tw_612 : (Jvm.Cond.constantLong "StoneBedsModel" (118 : Nat) (1000 : Int64)) ∈ tbl := tm 651 (by decide +kernel) (by decide +kernel)
theorem tw_613 : (Jvm.Cond.methodLink "StoneBedsLaw" (26 : Nat) ({ cls := "StoneBedsModel", name := "casts", desc := "(III)I" } : Jvm.MethodName)) ∈ tbl := tm 652 (by decide +kernel) (by decide +kernel)
theorem tw_614 : (Jvm.Cond.instanceMethod ({ cls := "StoneBedsModel", name := "casts", desc := "(III)I" } : Jvm.MethodName)) ∈ tbl := tm 653 (by decide +kernel) (by decide +kernel)
theorem tw_615 : (Jvm.Cond.selects "StoneBedsModel" ({ cls := "StoneBedsModel", name := "casts", desc := "(III)I" } : Jvm.MethodName) ({ cls := "StoneBedsModel", name := "casts", desc := "(III)I" } : Jvm.MethodName)) ∈ tbl := tm 654 (by decide +kernel) (by decide +kernel)
theorem tw_616 : (Jvm.Cond.code ({ cls := "StoneBedsModel", name := "casts", desc := "(III)I" } : Jvm.MethodName) prog_9_method_11_code (6 : Nat) (Option.some Jvm.ClassFile.FieldType.int)) ∈ tbl := tm 655 (by decide +kernel) (by decide +kernel)
theorem tw_617 : (Jvm.Cond.methodLink "StoneBedsModel" (126 : Nat) ({ cls := "StoneBedsModel", name := "fewestCasts", desc := "()I" } : Jvm.MethodName)) ∈ tbl := tm 656 (by decide +kernel) (by decide +kernel)
theorem tw_619 : (Jvm.Cond.instanceMethod ({ cls := "StoneBedsModel", name := "fewestCasts", desc := "()I" } : Jvm.MethodName)) ∈ tbl := tm 658 (by decide +kernel) (by decide +kernel)
theorem tw_620 : (Jvm.Cond.code ({ cls := "StoneBedsModel", name := "fewestCasts", desc := "()I" } : Jvm.MethodName) prog_9_method_9_code (5 : Nat) (Option.some Jvm.ClassFile.FieldType.int)) ∈ tbl := tm 659 (by decide +kernel) (by decide +kernel)
theorem tw_621 : (Jvm.Cond.methodLink "StoneBedsModel" (123 : Nat) ({ cls := "StoneBedsModel", name := "fits", desc := "(I)Z" } : Jvm.MethodName)) ∈ tbl := tm 660 (by decide +kernel) (by decide +kernel)
theorem tw_623 : (Jvm.Cond.instanceMethod ({ cls := "StoneBedsModel", name := "fits", desc := "(I)Z" } : Jvm.MethodName)) ∈ tbl := tm 662 (by decide +kernel) (by decide +kernel)
theorem tw_624 : (Jvm.Cond.code ({ cls := "StoneBedsModel", name := "fits", desc := "(I)Z" } : Jvm.MethodName) prog_9_method_8_code (6 : Nat) (Option.some Jvm.ClassFile.FieldType.boolean)) ∈ tbl := tm 663 (by decide +kernel) (by decide +kernel)
theorem tw_625 : (Jvm.Cond.methodLink "StoneBedsModel" (130 : Nat) ({ cls := "StoneBedsModel", name := "plainCasts", desc := "()I" } : Jvm.MethodName)) ∈ tbl := tm 664 (by decide +kernel) (by decide +kernel)
theorem tw_627 : (Jvm.Cond.instanceMethod ({ cls := "StoneBedsModel", name := "plainCasts", desc := "()I" } : Jvm.MethodName)) ∈ tbl := tm 666 (by decide +kernel) (by decide +kernel)
theorem tw_628 : (Jvm.Cond.code ({ cls := "StoneBedsModel", name := "plainCasts", desc := "()I" } : Jvm.MethodName) prog_9_method_10_code (9 : Nat) (Option.some Jvm.ClassFile.FieldType.int)) ∈ tbl := tm 667 (by decide +kernel) (by decide +kernel)
theorem tw_629 : (Jvm.Cond.methodLink "StoneBedsLaw" (30 : Nat) ({ cls := "StoneBedsModel", name := "cast", desc := "(III)I" } : Jvm.MethodName)) ∈ tbl := tm 668 (by decide +kernel) (by decide +kernel)
theorem tw_630 : (Jvm.Cond.instanceMethod ({ cls := "StoneBedsModel", name := "cast", desc := "(III)I" } : Jvm.MethodName)) ∈ tbl := tm 669 (by decide +kernel) (by decide +kernel)
theorem tw_631 : (Jvm.Cond.selects "StoneBedsModel" ({ cls := "StoneBedsModel", name := "cast", desc := "(III)I" } : Jvm.MethodName) ({ cls := "StoneBedsModel", name := "cast", desc := "(III)I" } : Jvm.MethodName)) ∈ tbl := tm 670 (by decide +kernel) (by decide +kernel)
theorem tw_632 : (Jvm.Cond.code ({ cls := "StoneBedsModel", name := "cast", desc := "(III)I" } : Jvm.MethodName) prog_9_method_12_code (10 : Nat) (Option.some Jvm.ClassFile.FieldType.int)) ∈ tbl := tm 671 (by decide +kernel) (by decide +kernel)
theorem tw_633 : (Jvm.Cond.constantLong "StoneBedsModel" (133 : Nat) (2 : Int64)) ∈ tbl := tm 672 (by decide +kernel) (by decide +kernel)
theorem tw_634 : (Jvm.Cond.methodLink "StoneBedsLaw" (35 : Nat) ({ cls := "StoneBedsModel", name := "warmth", desc := "(I)I" } : Jvm.MethodName)) ∈ tbl := tm 673 (by decide +kernel) (by decide +kernel)
theorem tw_635 : (Jvm.Cond.instanceMethod ({ cls := "StoneBedsModel", name := "warmth", desc := "(I)I" } : Jvm.MethodName)) ∈ tbl := tm 674 (by decide +kernel) (by decide +kernel)
theorem tw_636 : (Jvm.Cond.selects "StoneBedsModel" ({ cls := "StoneBedsModel", name := "warmth", desc := "(I)I" } : Jvm.MethodName) ({ cls := "StoneBedsModel", name := "warmth", desc := "(I)I" } : Jvm.MethodName)) ∈ tbl := tm 675 (by decide +kernel) (by decide +kernel)
theorem tw_637 : (Jvm.Cond.code ({ cls := "StoneBedsModel", name := "warmth", desc := "(I)I" } : Jvm.MethodName) prog_9_method_13_code (3 : Nat) (Option.some Jvm.ClassFile.FieldType.int)) ∈ tbl := tm 676 (by decide +kernel) (by decide +kernel)
theorem tw_638 : (Jvm.Cond.constantLong "StoneBedsModel" (141 : Nat) (-20 : Int64)) ∈ tbl := tm 677 (by decide +kernel) (by decide +kernel)
theorem tw_639 : (Jvm.Cond.constantLong "StoneBedsModel" (143 : Nat) (60 : Int64)) ∈ tbl := tm 678 (by decide +kernel) (by decide +kernel)
theorem tw_640 : (Jvm.Cond.methodLink "StoneBedsLaw" (39 : Nat) ({ cls := "StoneBedsModel", name := "hours", desc := "(I)I" } : Jvm.MethodName)) ∈ tbl := tm 679 (by decide +kernel) (by decide +kernel)
theorem tw_641 : (Jvm.Cond.instanceMethod ({ cls := "StoneBedsModel", name := "hours", desc := "(I)I" } : Jvm.MethodName)) ∈ tbl := tm 680 (by decide +kernel) (by decide +kernel)
theorem tw_642 : (Jvm.Cond.selects "StoneBedsModel" ({ cls := "StoneBedsModel", name := "hours", desc := "(I)I" } : Jvm.MethodName) ({ cls := "StoneBedsModel", name := "hours", desc := "(I)I" } : Jvm.MethodName)) ∈ tbl := tm 681 (by decide +kernel) (by decide +kernel)
theorem tw_643 : (Jvm.Cond.code ({ cls := "StoneBedsModel", name := "hours", desc := "(I)I" } : Jvm.MethodName) prog_9_method_14_code (3 : Nat) (Option.some Jvm.ClassFile.FieldType.int)) ∈ tbl := tm 682 (by decide +kernel) (by decide +kernel)
theorem tw_644 : (Jvm.Cond.constant "StoneBedsModel" (145 : Nat) (100000 : Int32)) ∈ tbl := tm 683 (by decide +kernel) (by decide +kernel)
theorem tw_645 : (Jvm.Cond.methodLink "StoneBedsLaw" (43 : Nat) ({ cls := "StoneBedsModel", name := "letGo", desc := "(I)I" } : Jvm.MethodName)) ∈ tbl := tm 684 (by decide +kernel) (by decide +kernel)
theorem tw_646 : (Jvm.Cond.instanceMethod ({ cls := "StoneBedsModel", name := "letGo", desc := "(I)I" } : Jvm.MethodName)) ∈ tbl := tm 685 (by decide +kernel) (by decide +kernel)
theorem tw_647 : (Jvm.Cond.selects "StoneBedsModel" ({ cls := "StoneBedsModel", name := "letGo", desc := "(I)I" } : Jvm.MethodName) ({ cls := "StoneBedsModel", name := "letGo", desc := "(I)I" } : Jvm.MethodName)) ∈ tbl := tm 686 (by decide +kernel) (by decide +kernel)
theorem tw_648 : (Jvm.Cond.code ({ cls := "StoneBedsModel", name := "letGo", desc := "(I)I" } : Jvm.MethodName) prog_9_method_15_code (5 : Nat) (Option.some Jvm.ClassFile.FieldType.int)) ∈ tbl := tm 687 (by decide +kernel) (by decide +kernel)
theorem tw_649 : (Jvm.Cond.methodLink "StoneBedsLaw" (47 : Nat) ({ cls := "StoneBedsModel", name := "stack", desc := "(II)I" } : Jvm.MethodName)) ∈ tbl := tm 688 (by decide +kernel) (by decide +kernel)
theorem tw_650 : (Jvm.Cond.instanceMethod ({ cls := "StoneBedsModel", name := "stack", desc := "(II)I" } : Jvm.MethodName)) ∈ tbl := tm 689 (by decide +kernel) (by decide +kernel)
theorem tw_651 : (Jvm.Cond.selects "StoneBedsModel" ({ cls := "StoneBedsModel", name := "stack", desc := "(II)I" } : Jvm.MethodName) ({ cls := "StoneBedsModel", name := "stack", desc := "(II)I" } : Jvm.MethodName)) ∈ tbl := tm 690 (by decide +kernel) (by decide +kernel)
theorem tw_652 : (Jvm.Cond.code ({ cls := "StoneBedsModel", name := "stack", desc := "(II)I" } : Jvm.MethodName) prog_9_method_19_code (3 : Nat) (Option.some Jvm.ClassFile.FieldType.int)) ∈ tbl := tm 691 (by decide +kernel) (by decide +kernel)
theorem tw_653 : (Jvm.Cond.methodLink "StoneBedsModel" (148 : Nat) ({ cls := "StoneBedsModel", name := "isStack", desc := "(I)Z" } : Jvm.MethodName)) ∈ tbl := tm 692 (by decide +kernel) (by decide +kernel)
theorem tw_654 : (Jvm.Cond.static ({ cls := "StoneBedsModel", name := "isStack", desc := "(I)Z" } : Jvm.MethodName)) ∈ tbl := tm 693 (by decide +kernel) (by decide +kernel)
theorem tw_655 : (Jvm.Cond.code ({ cls := "StoneBedsModel", name := "isStack", desc := "(I)Z" } : Jvm.MethodName) prog_9_method_16_code (1 : Nat) (Option.some Jvm.ClassFile.FieldType.boolean)) ∈ tbl := tm 694 (by decide +kernel) (by decide +kernel)
theorem tw_656 : (Jvm.Cond.constantLong "StoneBedsModel" (146 : Nat) (4 : Int64)) ∈ tbl := tm 695 (by decide +kernel) (by decide +kernel)
theorem tw_657 : (Jvm.Cond.methodLink "StoneBedsModel" (151 : Nat) ({ cls := "StoneBedsModel", name := "lays", desc := "(II)V" } : Jvm.MethodName)) ∈ tbl := tm 696 (by decide +kernel) (by decide +kernel)
theorem tw_659 : (Jvm.Cond.instanceMethod ({ cls := "StoneBedsModel", name := "lays", desc := "(II)V" } : Jvm.MethodName)) ∈ tbl := tm 698 (by decide +kernel) (by decide +kernel)
theorem tw_660 : (Jvm.Cond.code ({ cls := "StoneBedsModel", name := "lays", desc := "(II)V" } : Jvm.MethodName) prog_9_method_18_code (3 : Nat) (Option.none : Option Jvm.ClassFile.FieldType)) ∈ tbl := tm 699 (by decide +kernel) (by decide +kernel)
theorem tw_661 : (Jvm.Cond.methodLink "StoneBedsLaw" (51 : Nat) ({ cls := "StoneBedsModel", name := "move", desc := "(II)I" } : Jvm.MethodName)) ∈ tbl := tm 700 (by decide +kernel) (by decide +kernel)
theorem tw_662 : (Jvm.Cond.instanceMethod ({ cls := "StoneBedsModel", name := "move", desc := "(II)I" } : Jvm.MethodName)) ∈ tbl := tm 701 (by decide +kernel) (by decide +kernel)
theorem tw_663 : (Jvm.Cond.selects "StoneBedsModel" ({ cls := "StoneBedsModel", name := "move", desc := "(II)I" } : Jvm.MethodName) ({ cls := "StoneBedsModel", name := "move", desc := "(II)I" } : Jvm.MethodName)) ∈ tbl := tm 702 (by decide +kernel) (by decide +kernel)
theorem tw_664 : (Jvm.Cond.code ({ cls := "StoneBedsModel", name := "move", desc := "(II)I" } : Jvm.MethodName) prog_9_method_20_code (4 : Nat) (Option.some Jvm.ClassFile.FieldType.int)) ∈ tbl := tm 703 (by decide +kernel) (by decide +kernel)
theorem tw_665 : (Jvm.Cond.methodLink "StoneBedsModel" (155 : Nat) ({ cls := "StoneBedsModel", name := "clears", desc := "(I)V" } : Jvm.MethodName)) ∈ tbl := tm 704 (by decide +kernel) (by decide +kernel)
theorem tw_667 : (Jvm.Cond.instanceMethod ({ cls := "StoneBedsModel", name := "clears", desc := "(I)V" } : Jvm.MethodName)) ∈ tbl := tm 706 (by decide +kernel) (by decide +kernel)
theorem tw_668 : (Jvm.Cond.code ({ cls := "StoneBedsModel", name := "clears", desc := "(I)V" } : Jvm.MethodName) prog_9_method_17_code (3 : Nat) (Option.none : Option Jvm.ClassFile.FieldType)) ∈ tbl := tm 707 (by decide +kernel) (by decide +kernel)
theorem tw_669 : (Jvm.Cond.methodLink "StoneBedsLaw" (58 : Nat) ({ cls := "StoneBedsModel", name := "diggings", desc := "(IJ)I" } : Jvm.MethodName)) ∈ tbl := tm 708 (by decide +kernel) (by decide +kernel)
theorem tw_670 : (Jvm.Cond.instanceMethod ({ cls := "StoneBedsModel", name := "diggings", desc := "(IJ)I" } : Jvm.MethodName)) ∈ tbl := tm 709 (by decide +kernel) (by decide +kernel)
theorem tw_671 : (Jvm.Cond.selects "StoneBedsModel" ({ cls := "StoneBedsModel", name := "diggings", desc := "(IJ)I" } : Jvm.MethodName) ({ cls := "StoneBedsModel", name := "diggings", desc := "(IJ)I" } : Jvm.MethodName)) ∈ tbl := tm 710 (by decide +kernel) (by decide +kernel)
theorem tw_672 : (Jvm.Cond.code ({ cls := "StoneBedsModel", name := "diggings", desc := "(IJ)I" } : Jvm.MethodName) prog_9_method_27_code (7 : Nat) (Option.some Jvm.ClassFile.FieldType.int)) ∈ tbl := tm 711 (by decide +kernel) (by decide +kernel)
theorem tw_673 : (Jvm.Cond.constantLong "StoneBedsModel" (175 : Nat) (6 : Int64)) ∈ tbl := tm 712 (by decide +kernel) (by decide +kernel)
theorem tw_674 : (Jvm.Cond.constantLong "StoneBedsModel" (177 : Nat) (63 : Int64)) ∈ tbl := tm 713 (by decide +kernel) (by decide +kernel)
theorem tw_675 : (Jvm.Cond.methodLink "StoneBedsModel" (179 : Nat) ({ cls := "StoneBedsModel", name := "lies", desc := "()V" } : Jvm.MethodName)) ∈ tbl := tm 714 (by decide +kernel) (by decide +kernel)
theorem tw_677 : (Jvm.Cond.instanceMethod ({ cls := "StoneBedsModel", name := "lies", desc := "()V" } : Jvm.MethodName)) ∈ tbl := tm 716 (by decide +kernel) (by decide +kernel)
theorem tw_678 : (Jvm.Cond.code ({ cls := "StoneBedsModel", name := "lies", desc := "()V" } : Jvm.MethodName) prog_9_method_25_code (2 : Nat) (Option.none : Option Jvm.ClassFile.FieldType)) ∈ tbl := tm 717 (by decide +kernel) (by decide +kernel)
theorem tw_679 : (Jvm.Cond.methodLink "StoneBedsModel" (182 : Nat) ({ cls := "StoneBedsModel", name := "does", desc := "(I)Z" } : Jvm.MethodName)) ∈ tbl := tm 718 (by decide +kernel) (by decide +kernel)
theorem tw_681 : (Jvm.Cond.instanceMethod ({ cls := "StoneBedsModel", name := "does", desc := "(I)Z" } : Jvm.MethodName)) ∈ tbl := tm 720 (by decide +kernel) (by decide +kernel)
theorem tw_682 : (Jvm.Cond.code ({ cls := "StoneBedsModel", name := "does", desc := "(I)Z" } : Jvm.MethodName) prog_9_method_24_code (6 : Nat) (Option.some Jvm.ClassFile.FieldType.boolean)) ∈ tbl := tm 721 (by decide +kernel) (by decide +kernel)
theorem tw_683 : (Jvm.Cond.methodLink "StoneBedsModel" (166 : Nat) ({ cls := "StoneBedsModel", name := "takes", desc := "(I)I" } : Jvm.MethodName)) ∈ tbl := tm 722 (by decide +kernel) (by decide +kernel)
theorem tw_685 : (Jvm.Cond.instanceMethod ({ cls := "StoneBedsModel", name := "takes", desc := "(I)I" } : Jvm.MethodName)) ∈ tbl := tm 724 (by decide +kernel) (by decide +kernel)
theorem tw_686 : (Jvm.Cond.code ({ cls := "StoneBedsModel", name := "takes", desc := "(I)I" } : Jvm.MethodName) prog_9_method_21_code (5 : Nat) (Option.some Jvm.ClassFile.FieldType.int)) ∈ tbl := tm 725 (by decide +kernel) (by decide +kernel)
theorem tw_687 : (Jvm.Cond.methodLink "StoneBedsModel" (162 : Nat) ({ cls := "StoneBedsModel", name := "stackOf", desc := "(I)I" } : Jvm.MethodName)) ∈ tbl := tm 726 (by decide +kernel) (by decide +kernel)
theorem tw_689 : (Jvm.Cond.instanceMethod ({ cls := "StoneBedsModel", name := "stackOf", desc := "(I)I" } : Jvm.MethodName)) ∈ tbl := tm 728 (by decide +kernel) (by decide +kernel)
theorem tw_690 : (Jvm.Cond.code ({ cls := "StoneBedsModel", name := "stackOf", desc := "(I)I" } : Jvm.MethodName) prog_9_method_26_code (5 : Nat) (Option.some Jvm.ClassFile.FieldType.int)) ∈ tbl := tm 729 (by decide +kernel) (by decide +kernel)
theorem tw_691 : (Jvm.Cond.methodLink "StoneBedsModel" (169 : Nat) ({ cls := "StoneBedsModel", name := "gives", desc := "(I)V" } : Jvm.MethodName)) ∈ tbl := tm 730 (by decide +kernel) (by decide +kernel)
theorem tw_693 : (Jvm.Cond.instanceMethod ({ cls := "StoneBedsModel", name := "gives", desc := "(I)V" } : Jvm.MethodName)) ∈ tbl := tm 732 (by decide +kernel) (by decide +kernel)
theorem tw_694 : (Jvm.Cond.code ({ cls := "StoneBedsModel", name := "gives", desc := "(I)V" } : Jvm.MethodName) prog_9_method_22_code (4 : Nat) (Option.none : Option Jvm.ClassFile.FieldType)) ∈ tbl := tm 733 (by decide +kernel) (by decide +kernel)
theorem tw_695 : (Jvm.Cond.methodLink "StoneBedsModel" (172 : Nat) ({ cls := "StoneBedsModel", name := "carries", desc := "(II)V" } : Jvm.MethodName)) ∈ tbl := tm 734 (by decide +kernel) (by decide +kernel)
theorem tw_697 : (Jvm.Cond.instanceMethod ({ cls := "StoneBedsModel", name := "carries", desc := "(II)V" } : Jvm.MethodName)) ∈ tbl := tm 736 (by decide +kernel) (by decide +kernel)
theorem tw_698 : (Jvm.Cond.code ({ cls := "StoneBedsModel", name := "carries", desc := "(II)V" } : Jvm.MethodName) prog_9_method_23_code (3 : Nat) (Option.none : Option Jvm.ClassFile.FieldType)) ∈ tbl := tm 737 (by decide +kernel) (by decide +kernel)
theorem tw_699 : (Jvm.Cond.methodLink "StoneBedsLaw" (62 : Nat) ({ cls := "StoneBedsModel", name := "load", desc := "(I)I" } : Jvm.MethodName)) ∈ tbl := tm 738 (by decide +kernel) (by decide +kernel)
theorem tw_700 : (Jvm.Cond.instanceMethod ({ cls := "StoneBedsModel", name := "load", desc := "(I)I" } : Jvm.MethodName)) ∈ tbl := tm 739 (by decide +kernel) (by decide +kernel)
theorem tw_701 : (Jvm.Cond.selects "StoneBedsModel" ({ cls := "StoneBedsModel", name := "load", desc := "(I)I" } : Jvm.MethodName) ({ cls := "StoneBedsModel", name := "load", desc := "(I)I" } : Jvm.MethodName)) ∈ tbl := tm 740 (by decide +kernel) (by decide +kernel)
theorem tw_702 : (Jvm.Cond.code ({ cls := "StoneBedsModel", name := "load", desc := "(I)I" } : Jvm.MethodName) prog_9_method_31_code (3 : Nat) (Option.some Jvm.ClassFile.FieldType.int)) ∈ tbl := tm 741 (by decide +kernel) (by decide +kernel)
theorem tw_703 : (Jvm.Cond.methodLink "StoneBedsModel" (188 : Nat) ({ cls := "StoneBedsModel", name := "heavy", desc := "()I" } : Jvm.MethodName)) ∈ tbl := tm 742 (by decide +kernel) (by decide +kernel)
theorem tw_705 : (Jvm.Cond.instanceMethod ({ cls := "StoneBedsModel", name := "heavy", desc := "()I" } : Jvm.MethodName)) ∈ tbl := tm 744 (by decide +kernel) (by decide +kernel)
theorem tw_706 : (Jvm.Cond.code ({ cls := "StoneBedsModel", name := "heavy", desc := "()I" } : Jvm.MethodName) prog_9_method_30_code (3 : Nat) (Option.some Jvm.ClassFile.FieldType.int)) ∈ tbl := tm 745 (by decide +kernel) (by decide +kernel)
theorem tw_707 : (Jvm.Cond.methodLink "StoneBedsModel" (191 : Nat) ({ cls := "StoneBedsModel", name := "front", desc := "()I" } : Jvm.MethodName)) ∈ tbl := tm 746 (by decide +kernel) (by decide +kernel)
theorem tw_709 : (Jvm.Cond.instanceMethod ({ cls := "StoneBedsModel", name := "front", desc := "()I" } : Jvm.MethodName)) ∈ tbl := tm 748 (by decide +kernel) (by decide +kernel)
theorem tw_710 : (Jvm.Cond.code ({ cls := "StoneBedsModel", name := "front", desc := "()I" } : Jvm.MethodName) prog_9_method_28_code (3 : Nat) (Option.some Jvm.ClassFile.FieldType.int)) ∈ tbl := tm 749 (by decide +kernel) (by decide +kernel)
theorem tw_711 : (Jvm.Cond.methodLink "StoneBedsModel" (194 : Nat) ({ cls := "StoneBedsModel", name := "rear", desc := "()I" } : Jvm.MethodName)) ∈ tbl := tm 750 (by decide +kernel) (by decide +kernel)
theorem tw_713 : (Jvm.Cond.instanceMethod ({ cls := "StoneBedsModel", name := "rear", desc := "()I" } : Jvm.MethodName)) ∈ tbl := tm 752 (by decide +kernel) (by decide +kernel)
theorem tw_714 : (Jvm.Cond.code ({ cls := "StoneBedsModel", name := "rear", desc := "()I" } : Jvm.MethodName) prog_9_method_29_code (3 : Nat) (Option.some Jvm.ClassFile.FieldType.int)) ∈ tbl := tm 753 (by decide +kernel) (by decide +kernel)
theorem tw_715 : (Jvm.Cond.methodLink "StoneBedsLaw" (67 : Nat) ({ cls := "StoneBedsModel", name := "go", desc := "()I" } : Jvm.MethodName)) ∈ tbl := tm 754 (by decide +kernel) (by decide +kernel)
theorem tw_716 : (Jvm.Cond.instanceMethod ({ cls := "StoneBedsModel", name := "go", desc := "()I" } : Jvm.MethodName)) ∈ tbl := tm 755 (by decide +kernel) (by decide +kernel)
theorem tw_717 : (Jvm.Cond.selects "StoneBedsModel" ({ cls := "StoneBedsModel", name := "go", desc := "()I" } : Jvm.MethodName) ({ cls := "StoneBedsModel", name := "go", desc := "()I" } : Jvm.MethodName)) ∈ tbl := tm 756 (by decide +kernel) (by decide +kernel)
theorem tw_718 : (Jvm.Cond.code ({ cls := "StoneBedsModel", name := "go", desc := "()I" } : Jvm.MethodName) prog_9_method_32_code (3 : Nat) (Option.some Jvm.ClassFile.FieldType.int)) ∈ tbl := tm 757 (by decide +kernel) (by decide +kernel)
theorem tw_719 : (Jvm.Cond.methodLink "StoneBedsLaw" (71 : Nat) ({ cls := "StoneBedsModel", name := "lorry", desc := "(I)I" } : Jvm.MethodName)) ∈ tbl := tm 758 (by decide +kernel) (by decide +kernel)
theorem tw_720 : (Jvm.Cond.instanceMethod ({ cls := "StoneBedsModel", name := "lorry", desc := "(I)I" } : Jvm.MethodName)) ∈ tbl := tm 759 (by decide +kernel) (by decide +kernel)
theorem tw_721 : (Jvm.Cond.selects "StoneBedsModel" ({ cls := "StoneBedsModel", name := "lorry", desc := "(I)I" } : Jvm.MethodName) ({ cls := "StoneBedsModel", name := "lorry", desc := "(I)I" } : Jvm.MethodName)) ∈ tbl := tm 760 (by decide +kernel) (by decide +kernel)
theorem tw_722 : (Jvm.Cond.code ({ cls := "StoneBedsModel", name := "lorry", desc := "(I)I" } : Jvm.MethodName) prog_9_method_33_code (2 : Nat) (Option.some Jvm.ClassFile.FieldType.int)) ∈ tbl := tm 761 (by decide +kernel) (by decide +kernel)
theorem tw_723 : (Jvm.Cond.methodLink "StoneBedsModel" (200 : Nat) ({ cls := "StoneBedsModel", name := "isRight", desc := "()Z" } : Jvm.MethodName)) ∈ tbl := tm 762 (by decide +kernel) (by decide +kernel)
theorem tw_725 : (Jvm.Cond.instanceMethod ({ cls := "StoneBedsModel", name := "isRight", desc := "()Z" } : Jvm.MethodName)) ∈ tbl := tm 764 (by decide +kernel) (by decide +kernel)
theorem tw_726 : (Jvm.Cond.code ({ cls := "StoneBedsModel", name := "isRight", desc := "()Z" } : Jvm.MethodName) prog_9_method_34_code (3 : Nat) (Option.some Jvm.ClassFile.FieldType.boolean)) ∈ tbl := tm 765 (by decide +kernel) (by decide +kernel)
theorem tw_727 : (Jvm.Cond.methodLink "StoneBedsLaw" (76 : Nat) ({ cls := "StoneBedsModel", name := "change", desc := "(IIII)I" } : Jvm.MethodName)) ∈ tbl := tm 766 (by decide +kernel) (by decide +kernel)
theorem tw_728 : (Jvm.Cond.instanceMethod ({ cls := "StoneBedsModel", name := "change", desc := "(IIII)I" } : Jvm.MethodName)) ∈ tbl := tm 767 (by decide +kernel) (by decide +kernel)
theorem tw_729 : (Jvm.Cond.selects "StoneBedsModel" ({ cls := "StoneBedsModel", name := "change", desc := "(IIII)I" } : Jvm.MethodName) ({ cls := "StoneBedsModel", name := "change", desc := "(IIII)I" } : Jvm.MethodName)) ∈ tbl := tm 768 (by decide +kernel) (by decide +kernel)
theorem tw_730 : (Jvm.Cond.code ({ cls := "StoneBedsModel", name := "change", desc := "(IIII)I" } : Jvm.MethodName) prog_9_method_35_code (7 : Nat) (Option.some Jvm.ClassFile.FieldType.int)) ∈ tbl := tm 769 (by decide +kernel) (by decide +kernel)
theorem tw_731 : (Jvm.Cond.methodLink "StoneBedsModel" (204 : Nat) ({ cls := "StoneBedsModel", name := "gets", desc := "(IIII)V" } : Jvm.MethodName)) ∈ tbl := tm 770 (by decide +kernel) (by decide +kernel)
theorem tw_733 : (Jvm.Cond.instanceMethod ({ cls := "StoneBedsModel", name := "gets", desc := "(IIII)V" } : Jvm.MethodName)) ∈ tbl := tm 772 (by decide +kernel) (by decide +kernel)
theorem tw_734 : (Jvm.Cond.code ({ cls := "StoneBedsModel", name := "gets", desc := "(IIII)V" } : Jvm.MethodName) prog_9_method_36_code (5 : Nat) (Option.none : Option Jvm.ClassFile.FieldType)) ∈ tbl := tm 773 (by decide +kernel) (by decide +kernel)
theorem tw_735 : (Jvm.Cond.methodLink "StoneBedsLaw" (80 : Nat) ({ cls := "StoneBedsModel", name := "told", desc := "(II)I" } : Jvm.MethodName)) ∈ tbl := tm 774 (by decide +kernel) (by decide +kernel)
theorem tw_736 : (Jvm.Cond.instanceMethod ({ cls := "StoneBedsModel", name := "told", desc := "(II)I" } : Jvm.MethodName)) ∈ tbl := tm 775 (by decide +kernel) (by decide +kernel)
theorem tw_737 : (Jvm.Cond.selects "StoneBedsModel" ({ cls := "StoneBedsModel", name := "told", desc := "(II)I" } : Jvm.MethodName) ({ cls := "StoneBedsModel", name := "told", desc := "(II)I" } : Jvm.MethodName)) ∈ tbl := tm 776 (by decide +kernel) (by decide +kernel)
theorem tw_738 : (Jvm.Cond.code ({ cls := "StoneBedsModel", name := "told", desc := "(II)I" } : Jvm.MethodName) prog_9_method_37_code (3 : Nat) (Option.some Jvm.ClassFile.FieldType.int)) ∈ tbl := tm 777 (by decide +kernel) (by decide +kernel)
theorem tw_739 : (Jvm.Cond.methodLink "StoneBedsLaw" (84 : Nat) ({ cls := "StoneBedsModel", name := "at", desc := "(II)I" } : Jvm.MethodName)) ∈ tbl := tm 778 (by decide +kernel) (by decide +kernel)
theorem tw_740 : (Jvm.Cond.instanceMethod ({ cls := "StoneBedsModel", name := "at", desc := "(II)I" } : Jvm.MethodName)) ∈ tbl := tm 779 (by decide +kernel) (by decide +kernel)
theorem tw_741 : (Jvm.Cond.selects "StoneBedsModel" ({ cls := "StoneBedsModel", name := "at", desc := "(II)I" } : Jvm.MethodName) ({ cls := "StoneBedsModel", name := "at", desc := "(II)I" } : Jvm.MethodName)) ∈ tbl := tm 780 (by decide +kernel) (by decide +kernel)
theorem tw_742 : (Jvm.Cond.code ({ cls := "StoneBedsModel", name := "at", desc := "(II)I" } : Jvm.MethodName) prog_9_method_38_code (3 : Nat) (Option.some Jvm.ClassFile.FieldType.int)) ∈ tbl := tm 781 (by decide +kernel) (by decide +kernel)
theorem tw_743 : (Jvm.Cond.methodLink "StoneBedsLaw" (88 : Nat) ({ cls := "StoneBedsModel", name := "bed", desc := "(II)I" } : Jvm.MethodName)) ∈ tbl := tm 782 (by decide +kernel) (by decide +kernel)
theorem tw_744 : (Jvm.Cond.instanceMethod ({ cls := "StoneBedsModel", name := "bed", desc := "(II)I" } : Jvm.MethodName)) ∈ tbl := tm 783 (by decide +kernel) (by decide +kernel)
theorem tw_745 : (Jvm.Cond.selects "StoneBedsModel" ({ cls := "StoneBedsModel", name := "bed", desc := "(II)I" } : Jvm.MethodName) ({ cls := "StoneBedsModel", name := "bed", desc := "(II)I" } : Jvm.MethodName)) ∈ tbl := tm 784 (by decide +kernel) (by decide +kernel)
theorem tw_746 : (Jvm.Cond.code ({ cls := "StoneBedsModel", name := "bed", desc := "(II)I" } : Jvm.MethodName) prog_9_method_39_code (5 : Nat) (Option.some Jvm.ClassFile.FieldType.int)) ∈ tbl := tm 785 (by decide +kernel) (by decide +kernel)
theorem tw_747 : (Jvm.Cond.constantLong "StoneBedsModel" (208 : Nat) (3 : Int64)) ∈ tbl := tm 786 (by decide +kernel) (by decide +kernel)
theorem tw_748 : (Jvm.Cond.methodLink "StoneBedsLaw" (92 : Nat) ({ cls := "StoneBedsModel", name := "count", desc := "(I)I" } : Jvm.MethodName)) ∈ tbl := tm 787 (by decide +kernel) (by decide +kernel)
theorem tw_749 : (Jvm.Cond.instanceMethod ({ cls := "StoneBedsModel", name := "count", desc := "(I)I" } : Jvm.MethodName)) ∈ tbl := tm 788 (by decide +kernel) (by decide +kernel)
theorem tw_750 : (Jvm.Cond.selects "StoneBedsModel" ({ cls := "StoneBedsModel", name := "count", desc := "(I)I" } : Jvm.MethodName) ({ cls := "StoneBedsModel", name := "count", desc := "(I)I" } : Jvm.MethodName)) ∈ tbl := tm 789 (by decide +kernel) (by decide +kernel)
theorem tw_751 : (Jvm.Cond.code ({ cls := "StoneBedsModel", name := "count", desc := "(I)I" } : Jvm.MethodName) prog_9_method_40_code (4 : Nat) (Option.some Jvm.ClassFile.FieldType.int)) ∈ tbl := tm 790 (by decide +kernel) (by decide +kernel)
theorem tw_752 : (Jvm.Cond.constantLong "StoneBedsModel" (210 : Nat) (10 : Int64)) ∈ tbl := tm 791 (by decide +kernel) (by decide +kernel)
theorem tw_753 : (Jvm.Cond.constantLong "StoneBedsLaw" (52 : Nat) (4294967295 : Int64)) ∈ tbl := tm 792 (by decide +kernel) (by decide +kernel)
theorem ts_0 : Cond.selects "StoneBeds" ⟨"StoneBeds", "draw", "(IIII)I"⟩ ⟨"StoneBeds", "draw", "(IIII)I"⟩ ∈ tbl := tm 0 (by decide +kernel) (by decide +kernel)
theorem ts_1 : Cond.selects "StoneBeds" ⟨"StoneBeds", "partOf", "(I)LStoneBeds$Part;"⟩ ⟨"StoneBeds", "partOf", "(I)LStoneBeds$Part;"⟩ ∈ tbl := tm 1 (by decide +kernel) (by decide +kernel)
theorem ts_2 : Cond.selects "StoneBeds" ⟨"StoneBeds", "givePacker", "(III)V"⟩ ⟨"StoneBeds", "givePacker", "(III)V"⟩ ∈ tbl := tm 2 (by decide +kernel) (by decide +kernel)
theorem ts_3 : Cond.selects "StoneBeds$Packer" ⟨"StoneBeds$Packer", "packs", "(III)Z"⟩ ⟨"StoneBeds$Packer", "packs", "(III)Z"⟩ ∈ tbl := tm 3 (by decide +kernel) (by decide +kernel)
theorem ts_4 : Cond.selects "StoneBeds$Packer" ⟨"StoneBeds$Packer", "packsOn", "(IIII)Z"⟩ ⟨"StoneBeds$Packer", "packsOn", "(IIII)Z"⟩ ∈ tbl := tm 4 (by decide +kernel) (by decide +kernel)
theorem ts_5 : Cond.selects "StoneBeds" ⟨"StoneBeds", "bedOf", "(I)LStoneBeds$Bed;"⟩ ⟨"StoneBeds", "bedOf", "(I)LStoneBeds$Bed;"⟩ ∈ tbl := tm 5 (by decide +kernel) (by decide +kernel)
theorem ts_6 : Cond.selects "StoneBeds" ⟨"StoneBeds", "areParts", "(II)Z"⟩ ⟨"StoneBeds", "areParts", "(II)Z"⟩ ∈ tbl := tm 6 (by decide +kernel) (by decide +kernel)
theorem ts_7 : Cond.selects "StoneBeds" ⟨"StoneBeds", "areDrawnAndFit", "(II)Z"⟩ ⟨"StoneBeds", "areDrawnAndFit", "(II)Z"⟩ ∈ tbl := tm 7 (by decide +kernel) (by decide +kernel)
theorem ts_8 : Cond.selects "StoneBeds" ⟨"StoneBeds", "stackOf", "(I)LStoneBeds$Pile;"⟩ ⟨"StoneBeds", "stackOf", "(I)LStoneBeds$Pile;"⟩ ∈ tbl := tm 8 (by decide +kernel) (by decide +kernel)
theorem ts_9 : Cond.selects "StoneBeds" ⟨"StoneBeds", "strikeTops", "(LStoneBeds$Pile;)V"⟩ ⟨"StoneBeds", "strikeTops", "(LStoneBeds$Pile;)V"⟩ ∈ tbl := tm 9 (by decide +kernel) (by decide +kernel)
theorem ts_10 : Cond.selects "StoneBeds" ⟨"StoneBeds", "countWhere", "(I)I"⟩ ⟨"StoneBeds", "countWhere", "(I)I"⟩ ∈ tbl := tm 10 (by decide +kernel) (by decide +kernel)
theorem ts_11 : Cond.selects "StoneBeds$Digger" ⟨"StoneBeds$Digger", "pileOf", "(I)LStoneBeds$Pile;"⟩ ⟨"StoneBeds$Digger", "pileOf", "(I)LStoneBeds$Pile;"⟩ ∈ tbl := tm 11 (by decide +kernel) (by decide +kernel)
theorem ts_12 : Cond.selects "StoneBeds$Digger" ⟨"StoneBeds$Digger", "mustMove", "()I"⟩ ⟨"StoneBeds$Digger", "mustMove", "()I"⟩ ∈ tbl := tm 12 (by decide +kernel) (by decide +kernel)
theorem ts_13 : Cond.selects "StoneBeds$Digger" ⟨"StoneBeds$Digger", "reaches", "(II)Z"⟩ ⟨"StoneBeds$Digger", "reaches", "(II)Z"⟩ ∈ tbl := tm 13 (by decide +kernel) (by decide +kernel)
theorem ts_14 : Cond.selects "StoneBeds$Digger" ⟨"StoneBeds$Digger", "pileWith", "(I)I"⟩ ⟨"StoneBeds$Digger", "pileWith", "(I)I"⟩ ∈ tbl := tm 14 (by decide +kernel) (by decide +kernel)
theorem ts_15 : Cond.selects "StoneBeds$Digger" ⟨"StoneBeds$Digger", "isTop", "(II)Z"⟩ ⟨"StoneBeds$Digger", "isTop", "(II)Z"⟩ ∈ tbl := tm 15 (by decide +kernel) (by decide +kernel)
theorem ts_16 : Cond.selects "StoneBeds$Digger" ⟨"StoneBeds$Digger", "digs", "(III)Z"⟩ ⟨"StoneBeds$Digger", "digs", "(III)Z"⟩ ∈ tbl := tm 16 (by decide +kernel) (by decide +kernel)
theorem ts_17 : Cond.selects "StoneBeds$Lorry" ⟨"StoneBeds$Lorry", "frontShare", "()I"⟩ ⟨"StoneBeds$Lorry", "frontShare", "()I"⟩ ∈ tbl := tm 17 (by decide +kernel) (by decide +kernel)
theorem ts_18 : Cond.selects "StoneBeds$Lorry" ⟨"StoneBeds$Lorry", "rearShare", "()I"⟩ ⟨"StoneBeds$Lorry", "rearShare", "()I"⟩ ∈ tbl := tm 18 (by decide +kernel) (by decide +kernel)
theorem ts_19 : Cond.selects "StoneBeds" ⟨"StoneBeds", "isRight", "()Z"⟩ ⟨"StoneBeds", "isRight", "()Z"⟩ ∈ tbl := tm 19 (by decide +kernel) (by decide +kernel)
theorem ts_20 : Cond.selects "StoneBeds" ⟨"StoneBeds", "strikeWhereItIs", "(LStoneBeds$Part;)V"⟩ ⟨"StoneBeds", "strikeWhereItIs", "(LStoneBeds$Part;)V"⟩ ∈ tbl := tm 20 (by decide +kernel) (by decide +kernel)
theorem ts_21 : Cond.selects "StoneBedsModel" ⟨"StoneBedsModel", "comes", "(IIII)I"⟩ ⟨"StoneBedsModel", "comes", "(IIII)I"⟩ ∈ tbl := tm 21 (by decide +kernel) (by decide +kernel)
theorem ts_22 : Cond.selects "StoneBedsModel" ⟨"StoneBedsModel", "isPart", "(I)Z"⟩ ⟨"StoneBedsModel", "isPart", "(I)Z"⟩ ∈ tbl := tm 22 (by decide +kernel) (by decide +kernel)
theorem ts_23 : Cond.selects "StoneBedsModel" ⟨"StoneBedsModel", "fewestCasts", "()I"⟩ ⟨"StoneBedsModel", "fewestCasts", "()I"⟩ ∈ tbl := tm 23 (by decide +kernel) (by decide +kernel)
theorem ts_24 : Cond.selects "StoneBedsModel" ⟨"StoneBedsModel", "fits", "(I)Z"⟩ ⟨"StoneBedsModel", "fits", "(I)Z"⟩ ∈ tbl := tm 24 (by decide +kernel) (by decide +kernel)
theorem ts_25 : Cond.selects "StoneBedsModel" ⟨"StoneBedsModel", "plainCasts", "()I"⟩ ⟨"StoneBedsModel", "plainCasts", "()I"⟩ ∈ tbl := tm 25 (by decide +kernel) (by decide +kernel)
theorem ts_26 : Cond.selects "StoneBedsModel" ⟨"StoneBedsModel", "lays", "(II)V"⟩ ⟨"StoneBedsModel", "lays", "(II)V"⟩ ∈ tbl := tm 26 (by decide +kernel) (by decide +kernel)
theorem ts_27 : Cond.selects "StoneBedsModel" ⟨"StoneBedsModel", "clears", "(I)V"⟩ ⟨"StoneBedsModel", "clears", "(I)V"⟩ ∈ tbl := tm 27 (by decide +kernel) (by decide +kernel)
theorem ts_28 : Cond.selects "StoneBedsModel" ⟨"StoneBedsModel", "lies", "()V"⟩ ⟨"StoneBedsModel", "lies", "()V"⟩ ∈ tbl := tm 28 (by decide +kernel) (by decide +kernel)
theorem ts_29 : Cond.selects "StoneBedsModel" ⟨"StoneBedsModel", "does", "(I)Z"⟩ ⟨"StoneBedsModel", "does", "(I)Z"⟩ ∈ tbl := tm 29 (by decide +kernel) (by decide +kernel)
theorem ts_30 : Cond.selects "StoneBedsModel" ⟨"StoneBedsModel", "takes", "(I)I"⟩ ⟨"StoneBedsModel", "takes", "(I)I"⟩ ∈ tbl := tm 30 (by decide +kernel) (by decide +kernel)
theorem ts_31 : Cond.selects "StoneBedsModel" ⟨"StoneBedsModel", "stackOf", "(I)I"⟩ ⟨"StoneBedsModel", "stackOf", "(I)I"⟩ ∈ tbl := tm 31 (by decide +kernel) (by decide +kernel)
theorem ts_32 : Cond.selects "StoneBedsModel" ⟨"StoneBedsModel", "gives", "(I)V"⟩ ⟨"StoneBedsModel", "gives", "(I)V"⟩ ∈ tbl := tm 32 (by decide +kernel) (by decide +kernel)
theorem ts_33 : Cond.selects "StoneBedsModel" ⟨"StoneBedsModel", "carries", "(II)V"⟩ ⟨"StoneBedsModel", "carries", "(II)V"⟩ ∈ tbl := tm 33 (by decide +kernel) (by decide +kernel)
theorem ts_34 : Cond.selects "StoneBedsModel" ⟨"StoneBedsModel", "heavy", "()I"⟩ ⟨"StoneBedsModel", "heavy", "()I"⟩ ∈ tbl := tm 34 (by decide +kernel) (by decide +kernel)
theorem ts_35 : Cond.selects "StoneBedsModel" ⟨"StoneBedsModel", "front", "()I"⟩ ⟨"StoneBedsModel", "front", "()I"⟩ ∈ tbl := tm 35 (by decide +kernel) (by decide +kernel)
theorem ts_36 : Cond.selects "StoneBedsModel" ⟨"StoneBedsModel", "rear", "()I"⟩ ⟨"StoneBedsModel", "rear", "()I"⟩ ∈ tbl := tm 36 (by decide +kernel) (by decide +kernel)
theorem ts_37 : Cond.selects "StoneBedsModel" ⟨"StoneBedsModel", "isRight", "()Z"⟩ ⟨"StoneBedsModel", "isRight", "()Z"⟩ ∈ tbl := tm 37 (by decide +kernel) (by decide +kernel)
theorem ts_38 : Cond.selects "StoneBedsModel" ⟨"StoneBedsModel", "gets", "(IIII)V"⟩ ⟨"StoneBedsModel", "gets", "(IIII)V"⟩ ∈ tbl := tm 38 (by decide +kernel) (by decide +kernel)
end
section
/-! the flat memory: cell k, place j; the world of all cells of both objects -/
abbrev Mem : Type := Nat → Nat → Int
def mset (μ : Mem) (k j : Nat) (v : Int) : Mem := fun k' j' => if k' = k ∧ j' = j then v else μ k' j'
abbrev in32 (z : Int) : Prop := -2147483648 ≤ z ∧ z ≤ 2147483647
def vi (z : Int) : Value := .int (Int32.ofInt z)
def vl (z : Int) : Value := .long (Int64.ofInt z)
abbrev VX : Type := va_G × (Nat → Nat) × (Nat → ClassId)
def vr (V : VX) (k : Nat) : Value := .ref (V.2.1 k)
def vrf (V : VX) (r : Option Nat) : Value := match r with
  | none => .null
  | some k => vr V k
def arI (V : VX) (n : Nat) (r : Nat → Int) : va_E := .inl (V.2.2 0, n, .inl (fun j => Int32.ofInt (r j)))
def arZ (V : VX) (n : Nat) (r : Nat → Int) : va_E := .inl (V.2.2 1, n, .inl (fun j => Int32.ofInt (r j)))
def arR (V : VX) (t n o : Nat) : va_E := .inl (V.2.2 t, n, .inr (.inr (.inr (.inr (fun j => some (V.2.1 (o + j)))))))
/-- lengths of the rows of ints, by their cells (0: no such row) -/
def alen (k : Nat) : Nat :=
  if 48 ≤ k ∧ k < 53 then 4 else if 58 ≤ k ∧ k < 63 then 4 else if k = 68 then 4 else if k = 70 then 12 else if k = 71 then 12 else if k = 74 then 40 else if k = 75 then 6 else
  if 77 ≤ k ∧ k < 84 then 40 else if k = 85 then 3 else if k = 86 then 120 else if k = 87 then 3 else if k = 88 then 3 else if k = 89 then 5 else if k = 90 then 20 else if k = 91 then 4 else
  if k = 92 then 12 else if k = 93 then 4096 else if k = 94 then 12 else if k = 95 then 6 else if k = 96 then 5 else if k = 97 then 20 else if k = 98 then 32 else if k = 99 then 32 else
  if k = 100 then 192 else if k = 101 then 32 else if k = 102 then 32 else 0
/-- the kinds of the objects, by their cells (9: no object) -/
def okd (k : Nat) : Nat :=
  if k < 40 then 4 else if k < 43 then 0 else if k < 48 then 5 else if 53 ≤ k ∧ k < 58 then 5 else if k = 63 then 6 else if k = 67 then 2 else if k = 69 then 3 else if k = 72 then 1 else if k = 76 then 7 else 9
def obF (V : VX) (c k : Nat) (r : Nat → Int) : List Value := match c with
  | 0 => [vi (r 0), vi (r 1), vi (r 2), vi (r 3)]
  | 1 => [vr V 73, vr V 74, vr V 75, vi (r 3)]
  | 2 => [vr V 68, vi (r 1), vi (r 2), vi (r 3), vi (r 4)]
  | 3 => [vr V 70, vr V 71, vi (r 2), vi (r 3)]
  | 4 => [vi (r 0), vi (r 1), vi (r 2), vi (r 3), vi (r 4), vi (r 5), vi (r 6), vi (r 7)]
  | 5 => [vr V (k + 5), vi (r 1)]
  | 6 => [vr V 64, vr V 65, vr V 66, vr V 67, vr V 69, vr V 72, vi (r 6), vi (r 7), vi (r 8), vi (r 9), vi (r 10)]
  | _ => [vi (r 0), vr V 77, vr V 78, vr V 79, vr V 80, vr V 81, vr V 82, vr V 83, vr V 84, vr V 85, vr V 86, vr V 87, vr V 88, vi (r 13), vi (r 14), vr V 89, vr V 90, vi (r 17), vr V 91, vi (r 19), vi (r 20), vi (r 21), vr V 92, vr V 93, vr V 94, vr V 95, vi (r 26), vr V 96, vr V 97, vr V 98, vr V 99, vr V 100, vr V 101, vr V 102]
def celR (V : VX) (k : Nat) (r : Nat → Int) : va_E :=
  if 0 < alen k then arI V (alen k) r else if k = 84 then arZ V 40 r else if k = 64 then arR V 2 40 0 else if k = 65 then arR V 3 3 40 else if k = 66 then arR V 4 5 43 else if k = 73 then arR V 4 5 53 else
  .inr (okd k, obF V (okd k) k r)
def wld (V : VX) (μ : Mem) : va_W := (List.range 103).map (fun k => (V.2.1 k, celR V k (μ k)))
def AadV (V : VX) : Nat → Prop := fun q => ∃ k, k < 103 ∧ q = V.2.1 k
def InjV (V : VX) : Prop := ∀ i j, i < 103 → j < 103 → V.2.1 i = V.2.1 j → i = j
def tysV (V : VX) : List (ClassId × FieldType) := [(V.2.2 0, .int), (V.2.2 1, .boolean), (V.2.2 2, .object RX4), (V.2.2 3, .object RX0), (V.2.2 4, .object RX5)]
theorem wld_at {V : VX} {μ : Mem} {k : Nat} (hk : k < 103) : (wld V μ)[k]? = some (V.2.1 k, celR V k (μ k)) := by simp [wld, List.getElem?_map, List.getElem?_range hk]
theorem wld_of {V : VX} {μ : Mem} {k : Nat} {q : Nat × va_E} (h : (wld V μ)[k]? = some q) : k < 103 ∧ q = (V.2.1 k, celR V k (μ k)) := by
  have hk : k < 103 := by
    rcases Nat.lt_or_ge k 103 with hk | hk
    · exact hk
    · rw [List.getElem?_eq_none (by simp [wld]; omega)] at h; cases h
  rw [wld_at hk] at h
  exact ⟨hk, (Option.some.inj h).symm⟩
theorem wld_set {V : VX} {μ : Mem} {k : Nat} (r : Nat → Int) (e : va_E) (he : e = celR V k r) : (wld V μ).set k (V.2.1 k, e) = wld V (fun k' => if k' = k then r else μ k') := by
  subst he
  apply List.ext_getElem
  · simp [wld]
  · intro i h1 h2
    simp only [wld, List.getElem_set, List.getElem_map, List.getElem_range]
    by_cases hi : k = i
    · subst hi; simp
    · simp [hi, Ne.symm hi]
theorem mset_row (μ : Mem) (k j : Nat) (v : Int) : (fun k' => if k' = k then (fun j' => if j' = j then v else μ k j') else μ k') = mset μ k j v := by
  funext k' j'
  unfold mset
  by_cases hk : k' = k
  · subst hk; by_cases hj : j' = j <;> simp [hj]
  · simp [hk]
theorem wld_D {V : VX} {A : Nat → Prop} (h : InjV V) (hA : ∀ k, k < 103 → A (V.2.1 k)) (μ : Mem) : va_D A (wld V μ) := by
  refine ⟨fun i j p q hp hq e => ?_, fun k q hq => ?_⟩
  · obtain ⟨h1, rfl⟩ := wld_of hp
    obtain ⟨h2, rfl⟩ := wld_of hq
    exact h i j h1 h2 e
  · obtain ⟨h1, rfl⟩ := wld_of hq
    exact hA k h1
theorem cel_arr {V : VX} {k : Nat} {r : Nat → Int} {n : Nat} (h : alen k = n) (hn : 0 < n) : celR V k r = arI V n r := by
  subst h; unfold celR; rw [if_pos hn]
theorem alen_lt {k : Nat} (h : 0 < alen k) : k < 103 := by
  unfold alen at h
  rcases Nat.lt_or_ge k 103 with hk | hk
  · exact hk
  · rw [if_neg (by omega), if_neg (by omega), if_neg (by omega), if_neg (by omega), if_neg (by omega), if_neg (by omega), if_neg (by omega), if_neg (by omega), if_neg (by omega), if_neg (by omega), if_neg (by omega), if_neg (by omega), if_neg (by omega), if_neg (by omega), if_neg (by omega), if_neg (by omega), if_neg (by omega), if_neg (by omega), if_neg (by omega), if_neg (by omega), if_neg (by omega), if_neg (by omega), if_neg (by omega), if_neg (by omega), if_neg (by omega), if_neg (by omega)] at h
    exact absurd h (by decide)
theorem okd_alen {k : Nat} (h : okd k < 9) : k < 103 ∧ ¬ 0 < alen k ∧ ¬ k = 84 ∧ ¬ k = 64 ∧ ¬ k = 65 ∧ ¬ k = 66 ∧ ¬ k = 73 := by
  have hk : k < 40 ∨ (40 ≤ k ∧ k < 48) ∨ (53 ≤ k ∧ k < 58) ∨ k = 63 ∨ k = 67 ∨ k = 69 ∨ k = 72 ∨ k = 76 := by
    unfold okd at h
    apply Classical.byContradiction
    intro hc
    rw [if_neg (by omega), if_neg (by omega), if_neg (by omega), if_neg (by omega), if_neg (by omega), if_neg (by omega), if_neg (by omega), if_neg (by omega), if_neg (by omega)] at h
    omega
  refine ⟨by omega, ?_, by omega, by omega, by omega, by omega, by omega⟩
  unfold alen
  rw [if_neg (by omega), if_neg (by omega), if_neg (by omega), if_neg (by omega), if_neg (by omega), if_neg (by omega), if_neg (by omega), if_neg (by omega), if_neg (by omega), if_neg (by omega), if_neg (by omega), if_neg (by omega), if_neg (by omega), if_neg (by omega), if_neg (by omega), if_neg (by omega), if_neg (by omega), if_neg (by omega), if_neg (by omega), if_neg (by omega), if_neg (by omega), if_neg (by omega), if_neg (by omega), if_neg (by omega), if_neg (by omega), if_neg (by omega)]
  decide
theorem cel_obj {V : VX} {k : Nat} {r : Nat → Int} {c : Nat} (h : okd k = c) (hc : c < 9) : celR V k r = .inr (c, obF V c k r) := by
  subst h
  obtain ⟨-, h1, h2, h3, h4, h5, h6⟩ := okd_alen hc
  unfold celR
  rw [if_neg h1, if_neg h2, if_neg h3, if_neg h4, if_neg h5, if_neg h6]
theorem okd_part {k : Nat} (h : k < 40) : okd k = 4 := by unfold okd; rw [if_pos h]
theorem okd_bed {k : Nat} (h : k < 3) : okd (40 + k) = 0 := by unfold okd; rw [if_neg (by omega), if_pos (by omega)]
theorem okd_pile {k : Nat} (h : k < 5) : okd (43 + k) = 5 := by unfold okd; rw [if_neg (by omega), if_neg (by omega), if_pos (by omega)]
theorem okd_dpile {k : Nat} (h : k < 5) : okd (53 + k) = 5 := by unfold okd; rw [if_neg (by omega), if_neg (by omega), if_neg (by omega), if_pos (by omega)]
theorem alen_pile {k : Nat} (h : k < 5) : alen (43 + k + 5) = 4 := by unfold alen; rw [if_pos (by omega)]
theorem alen_dpile {k : Nat} (h : k < 5) : alen (53 + k + 5) = 4 := by unfold alen; rw [if_neg (by omega), if_pos (by omega)]
/-! the ints -/
theorem tI {z : Int} (h : in32 z) : (Int32.ofInt z).toInt = z := Int32.toInt_ofInt_of_le h.1 (by have := h.2; omega)
theorem iT (x : Int32) : Int32.ofInt x.toInt = x := Int32.ofInt_toInt x
theorem iR (x : Int32) : in32 x.toInt := ⟨Int32.minValue_le_toInt x, Int32.toInt_le x⟩
theorem i_le {a b : Int} (ha : in32 a) (hb : in32 b) : Int32.ofInt a ≤ Int32.ofInt b ↔ a ≤ b := by rw [Int32.le_iff_toInt_le, tI ha, tI hb]
theorem i_lt {a b : Int} (ha : in32 a) (hb : in32 b) : Int32.ofInt a < Int32.ofInt b ↔ a < b := by rw [Int32.lt_iff_toInt_lt, tI ha, tI hb]
theorem i_eq {a b : Int} (ha : in32 a) (hb : in32 b) : Int32.ofInt a = Int32.ofInt b ↔ a = b := ⟨fun h => by have := congrArg Int32.toInt h; rwa [tI ha, tI hb] at this, fun h => by rw [h]⟩
theorem i_0 : (0 : Int32) = Int32.ofInt 0 := rfl
theorem in0 : in32 0 := by constructor <;> decide
theorem i_cl {a : Int} (ha : in32 a) (h0 : 0 ≤ a) : (Int32.ofInt a).toNatClampNeg = a.toNat := by
  show (Int32.ofInt a).toInt.toNat = a.toNat
  rw [tI ha]
theorem i_in {a : Int} {n : Nat} (h0 : 0 ≤ a) (h : a < (n : Int)) (hn : n ≤ 4096) : vp_in (Int32.ofInt a) n := by
  have ha : in32 a := ⟨by omega, by omega⟩
  refine vp_in_iff.mpr ?_
  rw [tI ha]
  exact ⟨h0, h⟩

/-! the frame's variables, by place; none: nothing is known -/
def LAs (L : List (Option Value)) : List (Nat × Value) := (List.range L.length).filterMap (fun j => (L.getD j none).map (fun v => (j, v)))
def LV (ls : Array Slot) (L : List (Option Value)) : Prop := lv_has ls L.length (LAs L)
theorem LAs_mem {L : List (Option Value)} {j : Nat} {v : Value} : (j, v) ∈ LAs L ↔ L[j]? = some (some v) := by
  unfold LAs
  simp only [List.mem_filterMap, List.mem_range, Option.map_eq_some_iff, Prod.mk.injEq]
  constructor
  · rintro ⟨a, ha, w, hw, rfl, rfl⟩
    rw [List.getD_eq_getElem?_getD, List.getElem?_eq_getElem ha] at hw
    rw [List.getElem?_eq_getElem ha]
    simpa using hw
  · intro h
    obtain ⟨hj, he⟩ := List.getElem?_eq_some_iff.mp h
    refine ⟨j, hj, v, ?_, rfl, rfl⟩
    rw [List.getD_eq_getElem?_getD, h]
    rfl
theorem LV.at {ls : Array Slot} {L : List (Option Value)} (h : LV ls L) {i : Nat} {v : Value} (hi : L[i]? = some (some v)) : ls[i]? = some (.val v) := h.2.2 (i, v) (LAs_mem.mpr hi)
theorem LV.size {ls : Array Slot} {L : List (Option Value)} (h : LV ls L) : ls.size = L.length := h.1
def ckV (o : Option Value) : Prop := ∀ v, o = some v → v.category ≠ 2
theorem ck_n : ckV none := fun v h => by cases h
theorem ck_i (z : Int) : ckV (some (vi z)) := fun v h => by cases h; show (1 : Nat) ≠ 2; decide
theorem ck_r (V : VX) (k : Nat) : ckV (some (vr V k)) := fun v h => by cases h; show (1 : Nat) ≠ 2; decide
theorem ck_rf (V : VX) (k : Option Nat) : ckV (some (vrf V k)) := fun v h => by cases h; cases k <;> (show (1 : Nat) ≠ 2; decide)
theorem ck_0 : ckV (some .null) := fun v h => by cases h; decide
theorem LV.set {ls' : Array Slot} {L : List (Option Value)} {i : Nat} {x : Value} (hi : i < L.length) (h : lv_has ls' L.length ((i, x) :: (LAs L).filter (fun q => !(q.1 == i) && !(q.1 + 1 == i && q.2.category == 2)))) (hc : ∀ j v, L[j]? = some (some v) → j + 1 = i → v.category ≠ 2) : LV ls' (L.set i (some x)) := by
  refine ⟨by rw [List.length_set]; exact h.1, h.2.1, fun q hq => ?_⟩
  obtain ⟨j, v⟩ := q
  have hj := LAs_mem.mp hq
  by_cases hji : j = i
  · subst hji
    rw [List.getElem?_set_self hi] at hj
    cases hj
    exact h.2.2 _ List.mem_cons_self
  · rw [List.getElem?_set_ne (fun e => hji e.symm)] at hj
    refine h.2.2 _ (List.mem_cons_of_mem _ (List.mem_filter.mpr ⟨LAs_mem.mpr hj, ?_⟩))
    simp only [Bool.and_eq_true, Bool.not_eq_true', beq_eq_false_iff_ne, ne_eq, Bool.and_eq_false_iff]
    refine ⟨hji, ?_⟩
    by_cases hj1 : j + 1 = i
    · exact Or.inr (hc j v hj hj1)
    · exact Or.inl hj1
/-! where a walk stands -/
abbrev EX : Type := (Program × Launch × Env × Room) × (State × MethodId × Array Value) × (List Frame × Method × Code) × (Nat × Nat) × (Nat → Prop) × (State → Prop)
def rmL (k : Nat) : Room := { frames := k, cells := 0, slots := 0, locals := 40 * k }
def G (V : VX) (E : EX) (μ : Mem) (pc : Nat) (L : List (Option Value)) (st : List Value) : Prop :=
  ∀ (H : Heap) (locs : List Loc) (ls : Array Slot), va_P V.1 vwCl (wld V μ) H → va_S E.2.2.2.2.1 E.2.1.1.heap H locs → LV ls L →
    W E.1.1 E.1.2.1 E.1.2.2.1 E.1.2.2.2 E.2.1.1 E.2.1.2.1 E.2.1.2.2 E.2.2.1.1 E.2.2.1.2.1 E.2.2.1.2.2 H locs E.2.2.2.1.1 E.2.2.2.1.2 E.2.2.2.2.2 (F0 E.2.1.2.1 pc ls st)
def OkX (V : VX) (E : EX) (own : String) (cc : ByteArray) (n lvl : Nat) : Prop :=
  E.1.1.tables.exec = Jvm.exec ∧ E.2.2.1.2.2.code = cc ∧ E.2.2.1.2.2.maxLocals = n ∧ E.2.1.1.vm.findClass own = some E.2.1.2.1.cls ∧
  (∀ w ∈ tbl, w.before E.2.1.2.2 E.2.1.1 = true) ∧ (∀ w ∈ nws, va_Nw w E.2.1.1) ∧ va_K V.1 vwCl (tysV V) E.2.1.1 ∧ InjV V ∧ (∀ k, k < 103 → E.2.2.2.2.1 (V.2.1 k)) ∧
  lvl ≤ E.1.2.2.2.frames ∧ 40 * lvl ≤ E.1.2.2.2.locals ∧ E.2.2.2.1.1 ≤ E.1.2.2.2.cells ∧ E.2.2.2.1.2 ≤ E.1.2.2.2.slots
def PUw (V : VX) (μ : Mem) (U : State) : Prop := va_P V.1 vwCl (wld V μ) U.heap ∧ va_K V.1 vwCl (tysV V) U ∧ ∀ w ∈ nws, va_Nw w U
def QUw (V : VX) (post : Option Value → Mem → Prop) : Array Value → State → Outcome → State → Prop := fun _ st oc t =>
  (∃ (r : Option Value) (μ' : Mem), oc = .returned r ∧ post r μ' ∧ va_P V.1 vwCl (wld V μ') t.heap) ∧ va_F (AadV V) st t
def RtX (V : VX) (E : EX) (ret : Option FieldType) (post : Option Value → Mem → Prop) : Prop :=
  E.2.2.1.2.1.sig.returnType = ret ∧ E.2.2.1.2.1.locks = false ∧ E.2.2.2.1.1 = 0 ∧ E.2.2.2.1.2 = 0 ∧ E.2.2.2.2.1 = AadV V ∧ E.2.2.2.2.2 = MQ E.2.2.1.1 (QUw V post) E.2.1.2.2 E.2.1.1 0 0 (AadV V)
/-- a method's contract: from the memory μ, with these arguments, it returns, and what post says holds -/
def Ct (l : Launch) (y : MethodName) (cc : ByteArray) (n : Nat) (ret : Option FieldType) (lvl : Nat) (V : VX) (as : List Value) (μ : Mem) (post : Option Value → Mem → Prop) : Prop :=
  Met l y (Cond.code y cc n ret :: tbl) (rmL lvl) (va_Pc as (PUw V μ)) (QUw V post) 0 0 (AadV V)
def entL : List Value → List (Option Value)
  | [] => []
  | v :: vs => if v.category = 2 then some v :: none :: entL vs else some v :: entL vs
def entN (n : Nat) (as : List Value) : List (Option Value) := entL as ++ List.replicate (n - (entL as).length) none
theorem entL_len (as : List Value) : (entL as).length = (lg_sl as).length := by
  induction as with
  | nil => rfl
  | cons v vs ih =>
    unfold entL lg_sl
    rw [List.flatMap_cons, List.length_append]
    by_cases hc : v.category = 2
    · rw [if_pos hc, if_pos hc]; simp only [List.length_cons, List.length_nil]; unfold lg_sl at ih; omega
    · rw [if_neg hc, if_neg hc]; simp only [List.length_cons, List.length_nil]; unfold lg_sl at ih; omega
theorem entL_at (as : List Value) : ∀ (b j : Nat) (v : Value), (entL as)[j]? = some (some v) → (b + j, v) ∈ lv_args b as := by
  induction as with
  | nil => intro b j v h; simp [entL] at h
  | cons w ws ih =>
    intro b j v h
    unfold entL at h
    unfold lv_args
    by_cases hc : w.category = 2
    · rw [if_pos hc] at h ⊢
      match j, h with
      | 0, h => simp at h; subst h; exact List.mem_cons_self
      | 1, h => simp at h
      | j + 2, h =>
        have := ih (b + 2) j v (by simpa using h)
        rw [show b + (j + 2) = b + 2 + j by omega]
        exact List.mem_cons_of_mem _ this
    · rw [if_neg hc] at h ⊢
      match j, h with
      | 0, h => simp at h; subst h; exact List.mem_cons_self
      | j + 1, h =>
        have := ih (b + 1) j v (by simpa using h)
        rw [show b + (j + 1) = b + 1 + j by omega]
        exact List.mem_cons_of_mem _ this
theorem LV_entry (as : List Value) (n : Nat) (h : (entL as).length ≤ n) : LV ((lg_sl as ++ List.replicate (n - (lg_sl as).length) Slot.unset).toArray) (entN n as) := by
  have hlen : (entN n as).length = n := by unfold entN; rw [List.length_append, List.length_replicate]; omega
  have h0 := lv_entry as (n := n) (by rw [← entL_len]; exact h)
  refine ⟨by rw [hlen]; exact h0.1, h0.2.1, fun q hq => ?_⟩
  obtain ⟨j, v⟩ := q
  have hj := LAs_mem.mp hq
  refine h0.2.2 _ ?_
  unfold entN at hj
  by_cases hlt : j < (entL as).length
  · rw [List.getElem?_append_left hlt] at hj
    have := entL_at as 0 j v hj
    simpa using this
  · rw [List.getElem?_append_right (by omega)] at hj
    have := List.eq_of_mem_replicate (List.mem_of_getElem? hj)
    cases this
theorem vi_cat (z : Int) : (vi z).category = 1 := rfl
theorem vr_cat (V : VX) (k : Nat) : (vr V k).category = 1 := rfl

set_option maxHeartbeats 2000000 in
/-- a contract out of a walk from the method's entry -/
theorem Ct_of {l : Launch} {y : MethodName} {cc : ByteArray} {n : Nat} {ret : Option FieldType} {lvl : Nat} {V : VX} {as : List Value} {μ : Mem} {post : Option Value → Mem → Prop} (hy : plainName y.cls = true) (hI : InjV V) (hn : (entL as).length ≤ n)
    (body : ∀ E : EX, E.1.2.1 = l → OkX V E y.cls cc n lvl → RtX V E ret post → G V E μ 0 (entN n as) []) : Ct l y cc n ret lvl V as μ post := by
  refine Met.ofW (cc := cc) (maxL := n) (ret := ret) hy rfl ?_
  intro p e s m args below meth c s₁ B hml hv
  obtain ⟨rfl, hP, hK, hN⟩ := hv
  have hts := atoms_spec (ws := Cond.code y cc n ret :: tbl) B.pre
  have hown : s.vm.findClass y.cls = some m.cls := findClass_of_methodNamed B.named
  rw [lg_entry_eq]
  have h := body ((p, l, e, rmL lvl), (s, m, as.toArray), (below, meth, c), (0, 0), AadV V, MQ below (QUw V post) as.toArray s 0 0 (AadV V)) rfl
    ⟨B.exec, B.bytes, hml, hown, fun w hw => hts w (List.mem_cons_of_mem _ hw), hN, hK, hI, fun k hk => ⟨k, hk, rfl⟩, Nat.le_refl _, Nat.le_refl _, Nat.le_refl _, Nat.le_refl _⟩
    ⟨B.returns, B.notSynchronized, rfl, rfl, rfl, rfl⟩
  exact h s.heap [] _ hP va_S.rf (LV_entry as n hn)
section GR
variable {V : VX} {E : EX} {own : String} {cc : ByteArray} {n lvl pc : Nat} {μ : Mem} {L : List (Option Value)} {st : List Value}
theorem g_eq {pc' : Nat} {L' : List (Option Value)} {st' : List Value} {μ' : Mem} (h1 : μ = μ') (h2 : pc = pc') (h3 : L = L') (h4 : st = st') (k : G V E μ' pc' L' st') : G V E μ pc L st := by subst h1; subst h2; subst h3; subst h4; exact k
theorem g_iadd (hX : OkX V E own cc n lvl) (d : decode cc pc = .ok (.iadd, 1)) {a b : Int} (k : G V E μ (pc + 1) L (vi (a + b) :: st)) : G V E μ pc L (vi b :: vi a :: st) := by
  intro H locs ls hP hS hl
  have h := k H locs ls hP hS hl
  refine lv_iadd hX.1 hX.2.1 d ?_
  rw [← Int32.ofInt_add]; exact h
theorem g_isub (hX : OkX V E own cc n lvl) (d : decode cc pc = .ok (.isub, 1)) {a b : Int} (k : G V E μ (pc + 1) L (vi (a - b) :: st)) : G V E μ pc L (vi b :: vi a :: st) := by
  intro H locs ls hP hS hl
  have h := k H locs ls hP hS hl
  refine lv_isub hX.1 hX.2.1 d ?_
  rw [← Int32.ofInt_sub]; exact h
theorem g_imul (hX : OkX V E own cc n lvl) (d : decode cc pc = .ok (.imul, 1)) {a b : Int} (k : G V E μ (pc + 1) L (vi (a * b) :: st)) : G V E μ pc L (vi b :: vi a :: st) := by
  intro H locs ls hP hS hl
  have h := k H locs ls hP hS hl
  refine lv_imul hX.1 hX.2.1 d ?_
  rw [← Int32.ofInt_mul]; exact h
theorem g_iand (hX : OkX V E own cc n lvl) (d : decode cc pc = .ok (.iand, 1)) {a b : Int} (k : G V E μ (pc + 1) L (vi ((Int32.ofInt a &&& Int32.ofInt b).toInt) :: st)) : G V E μ pc L (vi b :: vi a :: st) := by
  intro H locs ls hP hS hl
  have h := k H locs ls hP hS hl
  refine lv_iand hX.1 hX.2.1 d ?_
  rw [← iT (Int32.ofInt a &&& Int32.ofInt b)]; exact h
theorem g_ior (hX : OkX V E own cc n lvl) (d : decode cc pc = .ok (.ior, 1)) {a b : Int} (k : G V E μ (pc + 1) L (vi ((Int32.ofInt a ||| Int32.ofInt b).toInt) :: st)) : G V E μ pc L (vi b :: vi a :: st) := by
  intro H locs ls hP hS hl
  have h := k H locs ls hP hS hl
  refine lv_ior hX.1 hX.2.1 d ?_
  rw [← iT (Int32.ofInt a ||| Int32.ofInt b)]; exact h
theorem g_ixor (hX : OkX V E own cc n lvl) (d : decode cc pc = .ok (.ixor, 1)) {a b : Int} (k : G V E μ (pc + 1) L (vi ((Int32.ofInt a ^^^ Int32.ofInt b).toInt) :: st)) : G V E μ pc L (vi b :: vi a :: st) := by
  intro H locs ls hP hS hl
  have h := k H locs ls hP hS hl
  refine lv_ixor hX.1 hX.2.1 d ?_
  rw [← iT (Int32.ofInt a ^^^ Int32.ofInt b)]; exact h
theorem g_ishl (hX : OkX V E own cc n lvl) (d : decode cc pc = .ok (.ishl, 1)) {a b : Int} (k : G V E μ (pc + 1) L (vi ((Int32.ofInt a <<< (Int32.ofInt b &&& 31)).toInt) :: st)) : G V E μ pc L (vi b :: vi a :: st) := by
  intro H locs ls hP hS hl
  have h := k H locs ls hP hS hl
  refine lv_ishl hX.1 hX.2.1 d ?_
  rw [← iT (Int32.ofInt a <<< (Int32.ofInt b &&& 31))]; exact h
theorem g_ishr (hX : OkX V E own cc n lvl) (d : decode cc pc = .ok (.ishr, 1)) {a b : Int} (k : G V E μ (pc + 1) L (vi ((Int32.ofInt a >>> (Int32.ofInt b &&& 31)).toInt) :: st)) : G V E μ pc L (vi b :: vi a :: st) := by
  intro H locs ls hP hS hl
  have h := k H locs ls hP hS hl
  refine lv_ishr hX.1 hX.2.1 d ?_
  rw [← iT (Int32.ofInt a >>> (Int32.ofInt b &&& 31))]; exact h
theorem g_iushr (hX : OkX V E own cc n lvl) (d : decode cc pc = .ok (.iushr, 1)) {a b c : Int} (hv : ((Int32.ofInt a).toUInt32 >>> ((Int32.ofInt b).toUInt32 &&& Int32.toUInt32 31)).toInt32 = Int32.ofInt c) (k : G V E μ (pc + 1) L (vi c :: st)) : G V E μ pc L (vi b :: vi a :: st) := by
  intro H locs ls hP hS hl
  exact lv_iushr hX.1 hX.2.1 d hv (k H locs ls hP hS hl)
theorem g_ineg (hX : OkX V E own cc n lvl) (d : decode cc pc = .ok (.ineg, 1)) {a : Int} (k : G V E μ (pc + 1) L (vi (-a) :: st)) : G V E μ pc L (vi a :: st) := by
  intro H locs ls hP hS hl
  have h := k H locs ls hP hS hl
  refine lv_ineg hX.1 hX.2.1 d ?_
  rw [← Int32.ofInt_neg]; exact h
theorem g_idiv (hX : OkX V E own cc n lvl) (d : decode cc pc = .ok (.idiv, 1)) {a b : Int} (ha : in32 a) (hb : in32 b) (ha0 : 0 ≤ a) (hb0 : 0 < b) (k : G V E μ (pc + 1) L (vi (a / b) :: st)) : G V E μ pc L (vi b :: vi a :: st) := by
  intro H locs ls hP hS hl
  have h := k H locs ls hP hS hl
  refine lv_idiv hX.1 hX.2.1 d (fun e => ?_) ?_
  · have := congrArg Int32.toInt e
    rw [tI hb] at this
    have h0 : (0 : Int32).toInt = 0 := rfl
    omega
  · have e : Int32.ofInt a / Int32.ofInt b = Int32.ofInt (a / b) := by
      apply Int32.toInt_inj.mp
      have hq1 : 0 ≤ a / b := Int.ediv_nonneg ha0 (by omega)
      have hq2 : a / b ≤ a := Int.ediv_le_self b ha0
      have hq : in32 (a / b) := ⟨by have := ha.1; omega, by have := ha.2; omega⟩
      rw [Int32.toInt_div, tI ha, tI hb, tI hq, Int.tdiv_eq_ediv_of_nonneg ha0]
      exact Int.bmod_eq_of_le (by have := hq.1; omega) (by have := hq.2; omega)
    rw [e]; exact h
theorem g_iconst (hX : OkX V E own cc n lvl) {z : Int} (d : decode cc pc = .ok (.iconst z, 1))  (k : G V E μ (pc + 1) L (vi z :: st)) : G V E μ pc L st := by
  intro H locs ls hP hS hl
  exact lv_iconst hX.1 hX.2.1 d rfl (k H locs ls hP hS hl)
theorem g_bipush (hX : OkX V E own cc n lvl) {z : Int} (d : decode cc pc = .ok (.bipush z, 2)) (hv : (Int8.ofInt z).toInt32 = Int32.ofInt z) (k : G V E μ (pc + 2) L (vi z :: st)) : G V E μ pc L st := by
  intro H locs ls hP hS hl
  exact lv_bipush hX.1 hX.2.1 d hv (k H locs ls hP hS hl)
theorem g_sipush (hX : OkX V E own cc n lvl) {z : Int} (d : decode cc pc = .ok (.sipush z, 3)) (hv : (Int16.ofInt z).toInt32 = Int32.ofInt z) (k : G V E μ (pc + 3) L (vi z :: st)) : G V E μ pc L st := by
  intro H locs ls hP hS hl
  exact lv_sipush hX.1 hX.2.1 d hv (k H locs ls hP hS hl)
theorem g_ldc (hX : OkX V E own cc n lvl) {z : Int} {ix : Nat} (d : decode cc pc = .ok (.ldc ix, 2)) (hw : Jvm.Cond.constant own ix (Int32.ofInt z) ∈ tbl) (k : G V E μ (pc + 2) L (vi z :: st)) : G V E μ pc L st := by
  intro H locs ls hP hS hl
  exact lv_ldc hX.1 hX.2.1 hX.2.2.2.1 (hX.2.2.2.2.1 _ hw) d (k H locs ls hP hS hl)
theorem g_ldc2 (hX : OkX V E own cc n lvl) {z : Int} {ix : Nat} (d : decode cc pc = .ok (.ldc2_w ix, 3)) (hw : Jvm.Cond.constantLong own ix (Int64.ofInt z) ∈ tbl) (k : G V E μ (pc + 3) L (vl z :: st)) : G V E μ pc L st := by
  intro H locs ls hP hS hl
  exact lv_ldc2 hX.1 hX.2.1 hX.2.2.2.1 (hX.2.2.2.2.1 _ hw) d (k H locs ls hP hS hl)
theorem g_lconst (hX : OkX V E own cc n lvl) {j : Fin 2} (d : decode cc pc = .ok (.lconst j, 1)) {z : Int} (hz : (j : Nat) = z) (k : G V E μ (pc + 1) L (vl z :: st)) : G V E μ pc L st := by
  intro H locs ls hP hS hl
  refine lv_lconst hX.1 hX.2.1 d (v := Int64.ofInt z) ?_ (k H locs ls hP hS hl)
  rw [← hz, Int64.ofInt_eq_ofNat]
theorem g_null (hX : OkX V E own cc n lvl) (d : decode cc pc = .ok (.aconst_null, 1))  (k : G V E μ (pc + 1) L (.null :: st)) : G V E μ pc L st := by
  intro H locs ls hP hS hl
  exact lv_null hX.1 hX.2.1 d (k H locs ls hP hS hl)
theorem g_iload (hX : OkX V E own cc n lvl) {i : Nat} (d : decode cc pc = .ok (.iload i, 2)) {a : Int} (hi : L[i]? = some (some (vi a))) (k : G V E μ (pc + 2) L (vi a :: st)) : G V E μ pc L st := by
  intro H locs ls hP hS hl
  exact lv_iload hX.1 hX.2.1 d (hl.at hi) (k H locs ls hP hS hl)
theorem g_iload_n (hX : OkX V E own cc n lvl) {i : Fin 4} (d : decode cc pc = .ok (.iload_n i, 1)) {a : Int} (hi : L[(i : Nat)]? = some (some (vi a))) (k : G V E μ (pc + 1) L (vi a :: st)) : G V E μ pc L st := by
  intro H locs ls hP hS hl
  exact lv_iload_n hX.1 hX.2.1 d rfl (hl.at hi) (k H locs ls hP hS hl)
theorem g_lload (hX : OkX V E own cc n lvl) {i : Nat} (d : decode cc pc = .ok (.lload i, 2)) {a : Int} (hi : L[i]? = some (some (vl a))) (k : G V E μ (pc + 2) L (vl a :: st)) : G V E μ pc L st := by
  intro H locs ls hP hS hl
  exact lv_lload hX.1 hX.2.1 d (hl.at hi) (k H locs ls hP hS hl)
theorem g_lload_n (hX : OkX V E own cc n lvl) {i : Fin 4} (d : decode cc pc = .ok (.lload_n i, 1)) {a : Int} (hi : L[(i : Nat)]? = some (some (vl a))) (k : G V E μ (pc + 1) L (vl a :: st)) : G V E μ pc L st := by
  intro H locs ls hP hS hl
  exact lv_lload_n hX.1 hX.2.1 d rfl (hl.at hi) (k H locs ls hP hS hl)
theorem g_aload (hX : OkX V E own cc n lvl) {i : Nat} (d : decode cc pc = .ok (.aload i, 2)) {a : Nat} (hi : L[i]? = some (some (vr V a))) (k : G V E μ (pc + 2) L (vr V a :: st)) : G V E μ pc L st := by
  intro H locs ls hP hS hl
  exact lv_aload hX.1 hX.2.1 d (hl.at hi) (k H locs ls hP hS hl)
theorem g_aload_n (hX : OkX V E own cc n lvl) {i : Fin 4} (d : decode cc pc = .ok (.aload_n i, 1)) {a : Nat} (hi : L[(i : Nat)]? = some (some (vr V a))) (k : G V E μ (pc + 1) L (vr V a :: st)) : G V E μ pc L st := by
  intro H locs ls hP hS hl
  exact lv_aload_n hX.1 hX.2.1 d rfl (hl.at hi) (k H locs ls hP hS hl)
theorem g_aloadN (hX : OkX V E own cc n lvl) {i : Nat} (d : decode cc pc = .ok (.aload i, 2)) (hi : L[i]? = some (some .null)) (k : G V E μ (pc + 2) L (.null :: st)) : G V E μ pc L st := by
  intro H locs ls hP hS hl
  exact lv_aloadN hX.1 hX.2.1 d (hl.at hi) (k H locs ls hP hS hl)
theorem g_aload_nN (hX : OkX V E own cc n lvl) {i : Fin 4} (d : decode cc pc = .ok (.aload_n i, 1)) (hi : L[(i : Nat)]? = some (some .null)) (k : G V E μ (pc + 1) L (.null :: st)) : G V E μ pc L st := by
  intro H locs ls hP hS hl
  exact lv_aload_nN hX.1 hX.2.1 d rfl (hl.at hi) (k H locs ls hP hS hl)
theorem g_istore (hX : OkX V E own cc n lvl) {i : Nat} (d : decode cc pc = .ok (.istore i, 2)) {a : Int} {L' : List (Option Value)} (hn : i < L.length) (hL : L.set i (some (vi a)) = L') (hc : ∀ j v, L[j]? = some (some v) → j + 1 = i → v.category ≠ 2) (k : G V E μ (pc + 2) L' st) : G V E μ pc L ((vi a) :: st) := by
  intro H locs ls hP hS hl
  subst hL
  exact lv_istore hX.1 hX.2.1 d hl hn rfl (fun ls' hl' => k H locs ls' hP hS (LV.set hn hl' hc))
theorem g_istore_n (hX : OkX V E own cc n lvl) {i : Fin 4} (d : decode cc pc = .ok (.istore_n i, 1)) {a : Int} {L' : List (Option Value)} (hn : (i : Nat) < L.length) (hL : L.set (i : Nat) (some (vi a)) = L') (hc : ∀ j v, L[j]? = some (some v) → j + 1 = (i : Nat) → v.category ≠ 2) (k : G V E μ (pc + 1) L' st) : G V E μ pc L ((vi a) :: st) := by
  intro H locs ls hP hS hl
  subst hL
  exact lv_istore_n hX.1 hX.2.1 d rfl hl hn rfl (fun ls' hl' => k H locs ls' hP hS (LV.set hn hl' hc))
theorem g_astore (hX : OkX V E own cc n lvl) {i : Nat} (d : decode cc pc = .ok (.astore i, 2)) {a : Nat} {L' : List (Option Value)} (hn : i < L.length) (hL : L.set i (some (vr V a)) = L') (hc : ∀ j v, L[j]? = some (some v) → j + 1 = i → v.category ≠ 2) (k : G V E μ (pc + 2) L' st) : G V E μ pc L ((vr V a) :: st) := by
  intro H locs ls hP hS hl
  subst hL
  exact lv_astore hX.1 hX.2.1 d hl hn rfl (fun ls' hl' => k H locs ls' hP hS (LV.set hn hl' hc))
theorem g_astore_n (hX : OkX V E own cc n lvl) {i : Fin 4} (d : decode cc pc = .ok (.astore_n i, 1)) {a : Nat} {L' : List (Option Value)} (hn : (i : Nat) < L.length) (hL : L.set (i : Nat) (some (vr V a)) = L') (hc : ∀ j v, L[j]? = some (some v) → j + 1 = (i : Nat) → v.category ≠ 2) (k : G V E μ (pc + 1) L' st) : G V E μ pc L ((vr V a) :: st) := by
  intro H locs ls hP hS hl
  subst hL
  exact lv_astore_n hX.1 hX.2.1 d rfl hl hn rfl (fun ls' hl' => k H locs ls' hP hS (LV.set hn hl' hc))
theorem g_astoreN (hX : OkX V E own cc n lvl) {i : Nat} (d : decode cc pc = .ok (.astore i, 2))  {L' : List (Option Value)} (hn : i < L.length) (hL : L.set i (some .null) = L') (hc : ∀ j v, L[j]? = some (some v) → j + 1 = i → v.category ≠ 2) (k : G V E μ (pc + 2) L' st) : G V E μ pc L (.null :: st) := by
  intro H locs ls hP hS hl
  subst hL
  exact lv_astoreN hX.1 hX.2.1 d hl hn rfl (fun ls' hl' => k H locs ls' hP hS (LV.set hn hl' hc))
theorem g_astore_nN (hX : OkX V E own cc n lvl) {i : Fin 4} (d : decode cc pc = .ok (.astore_n i, 1))  {L' : List (Option Value)} (hn : (i : Nat) < L.length) (hL : L.set (i : Nat) (some .null) = L') (hc : ∀ j v, L[j]? = some (some v) → j + 1 = (i : Nat) → v.category ≠ 2) (k : G V E μ (pc + 1) L' st) : G V E μ pc L (.null :: st) := by
  intro H locs ls hP hS hl
  subst hL
  exact lv_astore_nN hX.1 hX.2.1 d rfl hl hn rfl (fun ls' hl' => k H locs ls' hP hS (LV.set hn hl' hc))
theorem g_iinc (hX : OkX V E own cc n lvl) {i : Nat} {z : Int} (d : decode cc pc = .ok (.iinc i z, 3)) {a : Int} {L' : List (Option Value)} (hi : L[i]? = some (some (vi a))) (hL : L.set i (some (vi (a + z))) = L') (hc : ∀ j v, L[j]? = some (some v) → j + 1 = i → v.category ≠ 2) (k : G V E μ (pc + 3) L' st) : G V E μ pc L st := by
  intro H locs ls hP hS hl
  subst hL
  have hn : i < L.length := (List.getElem?_eq_some_iff.mp hi).1
  obtain ⟨q, hq⟩ := List.getElem?_of_mem (LAs_mem.mpr hi)
  exact lv_iinc (v := Int32.ofInt (a + z)) hX.1 hX.2.1 d hl hq (by rw [← Int32.ofInt_add]) hn rfl (fun ls' hl' => k H locs ls' hP hS (LV.set hn hl' hc))
theorem g_dup (hX : OkX V E own cc n lvl) (d : decode cc pc = .ok (.dup, 1)) {v : Value} (hv : v.category = 1) (k : G V E μ (pc + 1) L (v :: v :: st)) : G V E μ pc L (v :: st) := by
  intro H locs ls hP hS hl
  exact lv_dup hX.1 hX.2.1 d hv (k H locs ls hP hS hl)
theorem g_dup2 (hX : OkX V E own cc n lvl) (d : decode cc pc = .ok (.dup2, 1)) {v w : Value} (hv : v.category = 1) (hw : w.category = 1) (k : G V E μ (pc + 1) L (v :: w :: v :: w :: st)) : G V E μ pc L (v :: w :: st) := by
  intro H locs ls hP hS hl
  exact lv_dup2_11 hX.1 hX.2.1 d hv hw (k H locs ls hP hS hl)
theorem g_pop (hX : OkX V E own cc n lvl) (d : decode cc pc = .ok (.pop, 1)) {v : Value} (hv : v.category = 1) (k : G V E μ (pc + 1) L st) : G V E μ pc L (v :: st) := by
  intro H locs ls hP hS hl
  exact lv_pop hX.1 hX.2.1 d hv (k H locs ls hP hS hl)
theorem g_goto (hX : OkX V E own cc n lvl) {off : Int} {tgt : Nat} (d : decode cc pc = .ok (.goto off, 3)) (ht : (pc : Int) + off = (tgt : Int)) (k : G V E μ tgt L st) : G V E μ pc L st := by
  intro H locs ls hP hS hl
  exact lv_goto hX.1 hX.2.1 d ht (k H locs ls hP hS hl)
theorem g_icmp_lt (hX : OkX V E own cc n lvl) {off : Int} {tgt : Nat} (d : decode cc pc = .ok (.if_icmp .lt off, 3)) (ht : (pc : Int) + off = (tgt : Int)) {a b : Int} (ha : in32 a) (hb : in32 b) (kt : a < b → G V E μ tgt L st) (kf : ¬ a < b → G V E μ (pc + 3) L st) : G V E μ pc L (vi b :: vi a :: st) := by
  intro H locs ls hP hS hl
  exact lv_icmp_lt hX.1 hX.2.1 d ht (fun h => kt ((i_lt ha hb).mp h) H locs ls hP hS hl) (fun h => kf (fun q => h ((i_lt ha hb).mpr q)) H locs ls hP hS hl)
theorem g_icmp_le (hX : OkX V E own cc n lvl) {off : Int} {tgt : Nat} (d : decode cc pc = .ok (.if_icmp .le off, 3)) (ht : (pc : Int) + off = (tgt : Int)) {a b : Int} (ha : in32 a) (hb : in32 b) (kt : a ≤ b → G V E μ tgt L st) (kf : ¬ a ≤ b → G V E μ (pc + 3) L st) : G V E μ pc L (vi b :: vi a :: st) := by
  intro H locs ls hP hS hl
  exact lv_icmp_le hX.1 hX.2.1 d ht (fun h => kt ((i_le ha hb).mp h) H locs ls hP hS hl) (fun h => kf (fun q => h ((i_le ha hb).mpr q)) H locs ls hP hS hl)
theorem g_icmp_ge (hX : OkX V E own cc n lvl) {off : Int} {tgt : Nat} (d : decode cc pc = .ok (.if_icmp .ge off, 3)) (ht : (pc : Int) + off = (tgt : Int)) {a b : Int} (ha : in32 a) (hb : in32 b) (kt : b ≤ a → G V E μ tgt L st) (kf : ¬ b ≤ a → G V E μ (pc + 3) L st) : G V E μ pc L (vi b :: vi a :: st) := by
  intro H locs ls hP hS hl
  exact lv_icmp_ge hX.1 hX.2.1 d ht (fun h => kt ((i_le hb ha).mp h) H locs ls hP hS hl) (fun h => kf (fun q => h ((i_le hb ha).mpr q)) H locs ls hP hS hl)
theorem g_icmp_gt (hX : OkX V E own cc n lvl) {off : Int} {tgt : Nat} (d : decode cc pc = .ok (.if_icmp .gt off, 3)) (ht : (pc : Int) + off = (tgt : Int)) {a b : Int} (ha : in32 a) (hb : in32 b) (kt : b < a → G V E μ tgt L st) (kf : ¬ b < a → G V E μ (pc + 3) L st) : G V E μ pc L (vi b :: vi a :: st) := by
  intro H locs ls hP hS hl
  exact lv_icmp_gt hX.1 hX.2.1 d ht (fun h => kt ((i_lt hb ha).mp h) H locs ls hP hS hl) (fun h => kf (fun q => h ((i_lt hb ha).mpr q)) H locs ls hP hS hl)
theorem g_icmp_eq (hX : OkX V E own cc n lvl) {off : Int} {tgt : Nat} (d : decode cc pc = .ok (.if_icmp .eq off, 3)) (ht : (pc : Int) + off = (tgt : Int)) {a b : Int} (ha : in32 a) (hb : in32 b) (kt : a = b → G V E μ tgt L st) (kf : ¬ a = b → G V E μ (pc + 3) L st) : G V E μ pc L (vi b :: vi a :: st) := by
  intro H locs ls hP hS hl
  exact lv_icmp_eq hX.1 hX.2.1 d ht (fun h => kt ((i_eq ha hb).mp h) H locs ls hP hS hl) (fun h => kf (fun q => h ((i_eq ha hb).mpr q)) H locs ls hP hS hl)
theorem g_icmp_ne (hX : OkX V E own cc n lvl) {off : Int} {tgt : Nat} (d : decode cc pc = .ok (.if_icmp .ne off, 3)) (ht : (pc : Int) + off = (tgt : Int)) {a b : Int} (ha : in32 a) (hb : in32 b) (kt : ¬ a = b → G V E μ tgt L st) (kf : a = b → G V E μ (pc + 3) L st) : G V E μ pc L (vi b :: vi a :: st) := by
  intro H locs ls hP hS hl
  exact lv_icmp_ne hX.1 hX.2.1 d ht (fun h => kt (fun q => h ((i_eq ha hb).mpr q)) H locs ls hP hS hl) (fun h => kf ((i_eq ha hb).mp h) H locs ls hP hS hl)
theorem g_if_lt (hX : OkX V E own cc n lvl) {off : Int} {tgt : Nat} (d : decode cc pc = .ok (.ifCond .lt off, 3)) (ht : (pc : Int) + off = (tgt : Int)) {a : Int} (ha : in32 a) (kt : a < 0 → G V E μ tgt L st) (kf : ¬ a < 0 → G V E μ (pc + 3) L st) : G V E μ pc L (vi a :: st) := by
  intro H locs ls hP hS hl
  exact lv_if_lt hX.1 hX.2.1 d ht (fun h => kt ((i_lt ha in0).mp h) H locs ls hP hS hl) (fun h => kf (fun q => h ((i_lt ha in0).mpr q)) H locs ls hP hS hl)
theorem g_if_le (hX : OkX V E own cc n lvl) {off : Int} {tgt : Nat} (d : decode cc pc = .ok (.ifCond .le off, 3)) (ht : (pc : Int) + off = (tgt : Int)) {a : Int} (ha : in32 a) (kt : a ≤ 0 → G V E μ tgt L st) (kf : ¬ a ≤ 0 → G V E μ (pc + 3) L st) : G V E μ pc L (vi a :: st) := by
  intro H locs ls hP hS hl
  exact lv_if_le hX.1 hX.2.1 d ht (fun h => kt ((i_le ha in0).mp h) H locs ls hP hS hl) (fun h => kf (fun q => h ((i_le ha in0).mpr q)) H locs ls hP hS hl)
theorem g_if_ge (hX : OkX V E own cc n lvl) {off : Int} {tgt : Nat} (d : decode cc pc = .ok (.ifCond .ge off, 3)) (ht : (pc : Int) + off = (tgt : Int)) {a : Int} (ha : in32 a) (kt : 0 ≤ a → G V E μ tgt L st) (kf : ¬ 0 ≤ a → G V E μ (pc + 3) L st) : G V E μ pc L (vi a :: st) := by
  intro H locs ls hP hS hl
  exact lv_if_ge hX.1 hX.2.1 d ht (fun h => kt ((i_le in0 ha).mp h) H locs ls hP hS hl) (fun h => kf (fun q => h ((i_le in0 ha).mpr q)) H locs ls hP hS hl)
theorem g_if_gt (hX : OkX V E own cc n lvl) {off : Int} {tgt : Nat} (d : decode cc pc = .ok (.ifCond .gt off, 3)) (ht : (pc : Int) + off = (tgt : Int)) {a : Int} (ha : in32 a) (kt : 0 < a → G V E μ tgt L st) (kf : ¬ 0 < a → G V E μ (pc + 3) L st) : G V E μ pc L (vi a :: st) := by
  intro H locs ls hP hS hl
  exact lv_if_gt hX.1 hX.2.1 d ht (fun h => kt ((i_lt in0 ha).mp h) H locs ls hP hS hl) (fun h => kf (fun q => h ((i_lt in0 ha).mpr q)) H locs ls hP hS hl)
theorem g_if_eq (hX : OkX V E own cc n lvl) {off : Int} {tgt : Nat} (d : decode cc pc = .ok (.ifCond .eq off, 3)) (ht : (pc : Int) + off = (tgt : Int)) {a : Int} (ha : in32 a) (kt : a = 0 → G V E μ tgt L st) (kf : ¬ a = 0 → G V E μ (pc + 3) L st) : G V E μ pc L (vi a :: st) := by
  intro H locs ls hP hS hl
  exact lv_if_eq hX.1 hX.2.1 d ht (fun h => kt ((i_eq ha in0).mp h) H locs ls hP hS hl) (fun h => kf (fun q => h ((i_eq ha in0).mpr q)) H locs ls hP hS hl)
theorem g_if_ne (hX : OkX V E own cc n lvl) {off : Int} {tgt : Nat} (d : decode cc pc = .ok (.ifCond .ne off, 3)) (ht : (pc : Int) + off = (tgt : Int)) {a : Int} (ha : in32 a) (kt : ¬ a = 0 → G V E μ tgt L st) (kf : a = 0 → G V E μ (pc + 3) L st) : G V E μ pc L (vi a :: st) := by
  intro H locs ls hP hS hl
  exact lv_if_ne hX.1 hX.2.1 d ht (fun h => kt (fun q => h ((i_eq ha in0).mpr q)) H locs ls hP hS hl) (fun h => kf ((i_eq ha in0).mp h) H locs ls hP hS hl)
theorem g_ifnull (hX : OkX V E own cc n lvl) {off : Int} (d : decode cc pc = .ok (.ifnull off, 3)) {a : Nat} (k : G V E μ (pc + 3) L st) : G V E μ pc L (vr V a :: st) := by
  intro H locs ls hP hS hl
  exact lv_ifnull hX.1 hX.2.1 d (k H locs ls hP hS hl)
theorem g_ifnonnull (hX : OkX V E own cc n lvl) {off : Int} {tgt : Nat} (d : decode cc pc = .ok (.ifnonnull off, 3)) (ht : (pc : Int) + off = (tgt : Int)) {a : Nat} (k : G V E μ tgt L st) : G V E μ pc L (vr V a :: st) := by
  intro H locs ls hP hS hl
  exact lv_ifnonnull hX.1 hX.2.1 d ht (k H locs ls hP hS hl)
theorem g_ifnullN (hX : OkX V E own cc n lvl) {off : Int} {tgt : Nat} (d : decode cc pc = .ok (.ifnull off, 3)) (ht : (pc : Int) + off = (tgt : Int)) (k : G V E μ tgt L st) : G V E μ pc L (.null :: st) := by
  intro H locs ls hP hS hl
  exact lv_ifnullN hX.1 hX.2.1 d ht (k H locs ls hP hS hl)
theorem g_ifnonnullN (hX : OkX V E own cc n lvl) {off : Int} (d : decode cc pc = .ok (.ifnonnull off, 3))  (k : G V E μ (pc + 3) L st) : G V E μ pc L (.null :: st) := by
  intro H locs ls hP hS hl
  exact lv_ifnonnullN hX.1 hX.2.1 d (k H locs ls hP hS hl)
theorem g_acmp_ne (hX : OkX V E own cc n lvl) {off : Int} {tgt : Nat} (d : decode cc pc = .ok (.if_acmp .ne off, 3)) (ht : (pc : Int) + off = (tgt : Int)) {a b : Nat} (ha : a < 103) (hb : b < 103) (kt : ¬ a = b → G V E μ tgt L st) (kf : a = b → G V E μ (pc + 3) L st) : G V E μ pc L (vr V b :: vr V a :: st) := by
  intro H locs ls hP hS hl
  exact lv_acmp_ne (rx := some (V.2.1 a)) (ry := some (V.2.1 b)) hX.1 hX.2.1 d ht (fun h => kt (fun q => h (by rw [q])) H locs ls hP hS hl) (fun h => kf (hX.2.2.2.2.2.2.2.1 a b ha hb (Option.some.inj h)) H locs ls hP hS hl)
theorem g_acmp_eq (hX : OkX V E own cc n lvl) {off : Int} {tgt : Nat} (d : decode cc pc = .ok (.if_acmp .eq off, 3)) (ht : (pc : Int) + off = (tgt : Int)) {a b : Nat} (ha : a < 103) (hb : b < 103) (kt : a = b → G V E μ tgt L st) (kf : ¬ a = b → G V E μ (pc + 3) L st) : G V E μ pc L (vr V b :: vr V a :: st) := by
  intro H locs ls hP hS hl
  exact lv_acmp_eq (rx := some (V.2.1 a)) (ry := some (V.2.1 b)) hX.1 hX.2.1 d ht (fun h => kt (hX.2.2.2.2.2.2.2.1 a b ha hb (Option.some.inj h)) H locs ls hP hS hl) (fun h => kf (fun q => h (by rw [q])) H locs ls hP hS hl)
theorem g_iald (hX : OkX V E own cc n lvl) (d : decode cc pc = .ok (.iaload, 1)) {k0 N : Nat} {a : Int} (hk : alen k0 = N) (h0 : 0 ≤ a) (h1 : a < (N : Int)) (hN : N ≤ 4096) (k : G V E μ (pc + 1) L (vi (μ k0 a.toNat) :: st)) : G V E μ pc L (vi a :: vr V k0 :: st) := by
  intro H locs ls hP hS hl
  have hp : 0 < alen k0 := by omega
  have ha : in32 a := ⟨by omega, by omega⟩
  have h := k H locs ls hP hS hl
  refine va_iald hX.1 hX.2.1 hX.2.2.2.2.2.2.1 hP k0 0 (n := N) (f := fun j => Int32.ofInt (μ k0 j)) (cA := V.2.2 0) ?_ rfl (i_in h0 h1 hN) d ?_
  · rw [wld_at (alen_lt hp), cel_arr hk (by omega)]; rfl
  · rw [i_cl ha h0]; exact h
theorem g_iast (hX : OkX V E own cc n lvl) (d : decode cc pc = .ok (.iastore, 1)) {k0 N : Nat} {a z : Int} (hk : alen k0 = N) (h0 : 0 ≤ a) (h1 : a < (N : Int)) (hN : N ≤ 4096) (k : G V E (mset μ k0 a.toNat z) (pc + 1) L st) : G V E μ pc L (vi z :: vi a :: vr V k0 :: st) := by
  intro H locs ls hP hS hl
  have hp : 0 < alen k0 := by omega
  have ha : in32 a := ⟨by omega, by omega⟩
  refine va_iast hX.1 hX.2.1 hX.2.2.2.2.2.2.1 hP (wld_D hX.2.2.2.2.2.2.2.1 hX.2.2.2.2.2.2.2.2.1 μ) hS k0 0 (n := N) (f := fun j => Int32.ofInt (μ k0 j)) (cA := V.2.2 0) ?_ rfl (i_in h0 h1 hN) d (fun H1 locs1 hP1 _ hS1 => ?_)
  · rw [wld_at (alen_lt hp), cel_arr hk (by omega)]; rfl
  · rw [i_cl ha h0, wld_set (fun j' => if j' = a.toNat then z else μ k0 j') _ (by
      rw [cel_arr hk (by omega)]
      unfold arI
      congr 3
      congr 1
      funext j
      unfold upd
      by_cases hj : j = a.toNat <;> simp [hj]), mset_row] at hP1
    exact k H1 locs1 ls hP1 hS1 hl
theorem g_alen (hX : OkX V E own cc n lvl) (d : decode cc pc = .ok (.arraylength, 1)) {k0 : Nat} {N : Nat} (hk : (alen k0 = N ∧ 0 < N) ∨ (k0 = 64 ∧ N = 40) ∨ (k0 = 65 ∧ N = 3) ∨ (k0 = 66 ∧ N = 5) ∨ (k0 = 73 ∧ N = 5)) (k : G V E μ (pc + 1) L (vi (N : Int) :: st)) : G V E μ pc L (vr V k0 :: st) := by
  intro H locs ls hP hS hl
  have h := k H locs ls hP hS hl
  have hv : Int32.ofNat N = Int32.ofInt (N : Int) := (Int32.ofInt_eq_ofNat).symm
  rcases hk with ⟨hk, hN⟩ | ⟨rfl, rfl⟩ | ⟨rfl, rfl⟩ | ⟨rfl, rfl⟩ | ⟨rfl, rfl⟩
  · refine va_alen hX.1 hX.2.1 hX.2.2.2.2.2.2.1 hP k0 0 (cA := V.2.2 0) (x := (N, .inl (fun j => Int32.ofInt (μ k0 j)))) ?_ rfl hv d h
    rw [wld_at (alen_lt (by omega)), cel_arr hk hN]; rfl
  · exact va_alen hX.1 hX.2.1 hX.2.2.2.2.2.2.1 hP 64 2 (cA := V.2.2 2) (x := (40, .inr (.inr (.inr (.inr (fun j => some (V.2.1 (0 + j)))))))) (by rw [wld_at (by decide)]; rfl) rfl hv d h
  · exact va_alen hX.1 hX.2.1 hX.2.2.2.2.2.2.1 hP 65 3 (cA := V.2.2 3) (x := (3, .inr (.inr (.inr (.inr (fun j => some (V.2.1 (40 + j)))))))) (by rw [wld_at (by decide)]; rfl) rfl hv d h
  · exact va_alen hX.1 hX.2.1 hX.2.2.2.2.2.2.1 hP 66 4 (cA := V.2.2 4) (x := (5, .inr (.inr (.inr (.inr (fun j => some (V.2.1 (43 + j)))))))) (by rw [wld_at (by decide)]; rfl) rfl hv d h
  · exact va_alen hX.1 hX.2.1 hX.2.2.2.2.2.2.1 hP 73 4 (cA := V.2.2 4) (x := (5, .inr (.inr (.inr (.inr (fun j => some (V.2.1 (53 + j)))))))) (by rw [wld_at (by decide)]; rfl) rfl hv d h
theorem g_aald (hX : OkX V E own cc n lvl) (d : decode cc pc = .ok (.aaload, 1)) {k0 N o : Nat} {a : Int} (hk : (k0 = 64 ∧ N = 40 ∧ o = 0) ∨ (k0 = 65 ∧ N = 3 ∧ o = 40) ∨ (k0 = 66 ∧ N = 5 ∧ o = 43) ∨ (k0 = 73 ∧ N = 5 ∧ o = 53)) (h0 : 0 ≤ a) (h1 : a < (N : Int)) (k : G V E μ (pc + 1) L (vr V (o + a.toNat) :: st)) : G V E μ pc L (vi a :: vr V k0 :: st) := by
  intro H locs ls hP hS hl
  have ha : in32 a := ⟨by omega, by omega⟩
  have h := k H locs ls hP hS hl
  rcases hk with ⟨rfl, rfl, rfl⟩ | ⟨rfl, rfl, rfl⟩ | ⟨rfl, rfl, rfl⟩ | ⟨rfl, rfl, rfl⟩
  · refine va_aldq hX.1 hX.2.1 hX.2.2.2.2.2.2.1 hP 64 2 (n := 40) (f := fun j => some (V.2.1 (0 + j))) (cA := V.2.2 2) (by rw [wld_at (by decide)]; rfl) rfl (i_in h0 h1 (by decide)) d ?_
    rw [i_cl ha h0]; exact h
  · refine va_aldq hX.1 hX.2.1 hX.2.2.2.2.2.2.1 hP 65 3 (n := 3) (f := fun j => some (V.2.1 (40 + j))) (cA := V.2.2 3) (by rw [wld_at (by decide)]; rfl) rfl (i_in h0 h1 (by decide)) d ?_
    rw [i_cl ha h0]; exact h
  · refine va_aldq hX.1 hX.2.1 hX.2.2.2.2.2.2.1 hP 66 4 (n := 5) (f := fun j => some (V.2.1 (43 + j))) (cA := V.2.2 4) (by rw [wld_at (by decide)]; rfl) rfl (i_in h0 h1 (by decide)) d ?_
    rw [i_cl ha h0]; exact h
  · refine va_aldq hX.1 hX.2.1 hX.2.2.2.2.2.2.1 hP 73 4 (n := 5) (f := fun j => some (V.2.1 (53 + j))) (cA := V.2.2 4) (by rw [wld_at (by decide)]; rfl) rfl (i_in h0 h1 (by decide)) d ?_
    rw [i_cl ha h0]; exact h
theorem g_zald (hX : OkX V E own cc n lvl) (d : decode cc pc = .ok (.baload, 1)) {a : Int} (h0 : 0 ≤ a) (h1 : a < 40) (k : G V E μ (pc + 1) L (vi (μ 84 a.toNat) :: st)) : G V E μ pc L (vi a :: vr V 84 :: st) := by
  intro H locs ls hP hS hl
  have ha : in32 a := ⟨by omega, by omega⟩
  have h := k H locs ls hP hS hl
  refine va_zald hX.1 hX.2.1 hX.2.2.2.2.2.2.1 hP 84 1 (n := 40) (f := fun j => Int32.ofInt (μ 84 j)) (cA := V.2.2 1) (by rw [wld_at (by decide)]; rfl) rfl (i_in h0 h1 (by decide)) d ?_
  rw [i_cl ha h0]; exact h
theorem g_zast (hX : OkX V E own cc n lvl) (d : decode cc pc = .ok (.bastore, 1)) {a z : Int} (hz : z = 0 ∨ z = 1) (h0 : 0 ≤ a) (h1 : a < 40) (k : G V E (mset μ 84 a.toNat z) (pc + 1) L st) : G V E μ pc L (vi z :: vi a :: vr V 84 :: st) := by
  intro H locs ls hP hS hl
  have ha : in32 a := ⟨by omega, by omega⟩
  refine va_zast hX.1 hX.2.1 hX.2.2.2.2.2.2.1 hP (wld_D hX.2.2.2.2.2.2.2.1 hX.2.2.2.2.2.2.2.2.1 μ) hS 84 1 (n := 40) (f := fun j => Int32.ofInt (μ 84 j)) (cA := V.2.2 1) (by rw [wld_at (by decide)]; rfl) rfl (i_in h0 h1 (by decide)) d (fun H1 locs1 hP1 _ hS1 => ?_)
  have hz' : vp_nar .boolean (Int32.ofInt z) = Int32.ofInt z := by rcases hz with rfl | rfl <;> rfl
  rw [hz', i_cl ha h0, wld_set (fun j' => if j' = a.toNat then z else μ 84 j') _ (by
      show _ = arZ V 40 _
      unfold arZ
      congr 3
      congr 1
      funext j
      unfold upd
      by_cases hj : j = a.toNat <;> simp [hj]), mset_row] at hP1
  exact k H1 locs1 ls hP1 hS1 hl
theorem g_weak {i : Nat} (k : G V E μ pc (L.set i none) st) : G V E μ pc L st := by
  intro H locs ls hP hS hl
  refine k H locs ls hP hS ⟨by rw [List.length_set]; exact hl.1, hl.2.1, fun q hq => ?_⟩
  obtain ⟨j, v⟩ := q
  have hj := LAs_mem.mp hq
  refine hl.2.2 _ (LAs_mem.mpr ?_)
  rw [List.getElem?_set] at hj
  split at hj
  · split at hj <;> cases hj
  · exact hj
theorem g_tin (hX : OkX V E own cc n lvl) {dflt lo hi : Int} {offs : Array Int} {len : Nat} (d : decode cc pc = .ok (.tableswitch dflt lo hi offs, len)) {a : Int} {off : Int} {tgt : Nat} (ha : in32 a) (h1 : lo ≤ a) (h2 : a ≤ hi) (ho : offs[(a - lo).toNat]? = some off) (ht : (pc : Int) + off = (tgt : Int)) (k : G V E μ tgt L st) : G V E μ pc L (vi a :: st) := by
  intro H locs ls hP hS hl
  refine lv_tableIn hX.1 hX.2.1 d (off := off) ?_ ?_ ?_ ht (k H locs ls hP hS hl)
  · rw [tI ha]; omega
  · rw [tI ha]; omega
  · rw [tI ha]; exact ho
theorem g_tout (hX : OkX V E own cc n lvl) {dflt lo hi : Int} {offs : Array Int} {len : Nat} (d : decode cc pc = .ok (.tableswitch dflt lo hi offs, len)) {a : Int} {tgt : Nat} (ha : in32 a) (h : a < lo ∨ hi < a) (ht : (pc : Int) + dflt = (tgt : Int)) (k : G V E μ tgt L st) : G V E μ pc L (vi a :: st) := by
  intro H locs ls hP hS hl
  exact lv_tableOut hX.1 hX.2.1 d (by rw [tI ha]; exact h) ht (k H locs ls hP hS hl)
end GR
end
section
theorem ok72 : okd 72 = 1 := rfl
theorem ok67 : okd 67 = 2 := rfl
theorem ok69 : okd 69 = 3 := rfl
theorem ok63 : okd 63 = 6 := rfl
theorem ok76 : okd 76 = 7 := rfl
section GF
variable {V : VX} {E : EX} {cc : ByteArray} {n lvl pc : Nat} {μ : Mem} {L : List (Option Value)} {st : List Value}
theorem gf_X2_9 (hX : OkX V E RX2 cc n lvl) (d : decode cc pc = .ok (.getfield 9, 3))  (k : G V E μ (pc + 3) L (vr V 68 :: st)) : G V E μ pc L (vr V 67 :: st) := by
  intro H locs ls hP hS hl
  exact va_get (D := V.1) (ci := 2) (v := vr V 68) (C := RX2) (T := TX2) (N := 5) (fs := obF V 2 67 (μ 67)) hX.1 hX.2.1 hX.2.2.2.2.1 inX2 hX.2.2.2.1 hX.2.2.2.2.2.2.1 hP 67 (by rw [wld_at (okd_alen (k := 67) (by rw [ok67]; decide)).1, cel_obj ok67 (by decide)]) rfl 0 (by decide) (hX.2.2.2.2.1 _ tw_30) (fun _ h9 => h9) rfl d (k H locs ls hP hS hl)
theorem gf_X2_15 (hX : OkX V E RX2 cc n lvl) (d : decode cc pc = .ok (.getfield 15, 3))  (k : G V E μ (pc + 3) L (vi (μ 67 1) :: st)) : G V E μ pc L (vr V 67 :: st) := by
  intro H locs ls hP hS hl
  exact va_get (D := V.1) (ci := 2) (v := vi (μ 67 1)) (C := RX2) (T := TX2) (N := 5) (fs := obF V 2 67 (μ 67)) hX.1 hX.2.1 hX.2.2.2.2.1 inX2 hX.2.2.2.1 hX.2.2.2.2.2.2.1 hP 67 (by rw [wld_at (okd_alen (k := 67) (by rw [ok67]; decide)).1, cel_obj ok67 (by decide)]) rfl 1 (by decide) (hX.2.2.2.2.1 _ tw_31) (fun _ h9 => h9) rfl d (k H locs ls hP hS hl)
theorem pf_X2_15 (hX : OkX V E RX2 cc n lvl) (d : decode cc pc = .ok (.putfield 15, 3))  {z : Int}  (k : G V E (mset μ 67 1 z) (pc + 3) L st) : G V E μ pc L (vi z :: vr V 67 :: st) := by
  intro H locs ls hP hS hl
  refine va_put (D := V.1) (ci := 2) (v := vi z) (ty := .int) (C := RX2) (T := TX2) (N := 5) (fs := obF V 2 67 (μ 67)) hX.1 hX.2.1 hX.2.2.2.2.1 inX2 tyX2 tyX2_ok nmX2 hX.2.2.2.1 hX.2.2.2.2.2.2.1 hP (wld_D hX.2.2.2.2.2.2.2.1 hX.2.2.2.2.2.2.2.2.1 μ) hS 67 (by rw [wld_at (okd_alen (k := 67) (by rw [ok67]; decide)).1, cel_obj ok67 (by decide)]) rfl 1 (by decide) (hX.2.2.2.2.1 _ tw_31) (fun _ h9 => h9) rfl (by decide +kernel) rfl rfl (Nat.le_of_ble_eq_true rfl) d (fun H1 locs1 hP1 _ hS1 => ?_)
  rw [wld_set (fun j' => if j' = 1 then z else μ 67 j') _ (by rw [cel_obj ok67 (by decide)]; rfl), mset_row] at hP1
  exact k H1 locs1 ls hP1 hS1 hl
theorem gf_X6_212 (hX : OkX V E RX6 cc n lvl) (d : decode cc pc = .ok (.getfield 212, 3))  (k : G V E μ (pc + 3) L (vi (μ 67 1) :: st)) : G V E μ pc L (vr V 67 :: st) := by
  intro H locs ls hP hS hl
  exact va_getN (D := V.1) (ci := 2) (v := vi (μ 67 1)) (C := RX2) (T := TX2) (N := 5) (fs := obF V 2 67 (μ 67)) hX.1 hX.2.1 hX.2.2.2.2.1 inX2 hX.2.2.2.1 hX.2.2.2.2.2.2.1 hP 67 (by rw [wld_at (okd_alen (k := 67) (by rw [ok67]; decide)).1, cel_obj ok67 (by decide)]) rfl 1 (by decide) (va_Nw.use rfl (hX.2.2.2.2.2.1 _ tn_32)) (fun _ h9 => h9) rfl d (k H locs ls hP hS hl)
theorem pf_X6_212 (hX : OkX V E RX6 cc n lvl) (d : decode cc pc = .ok (.putfield 212, 3))  {z : Int}  (k : G V E (mset μ 67 1 z) (pc + 3) L st) : G V E μ pc L (vi z :: vr V 67 :: st) := by
  intro H locs ls hP hS hl
  refine va_putN (D := V.1) (ci := 2) (v := vi z) (ty := .int) (C := RX2) (T := TX2) (N := 5) (fs := obF V 2 67 (μ 67)) hX.1 hX.2.1 hX.2.2.2.2.1 inX2 tyX2 tyX2_ok nmX2 hX.2.2.2.1 hX.2.2.2.2.2.2.1 hP (wld_D hX.2.2.2.2.2.2.2.1 hX.2.2.2.2.2.2.2.2.1 μ) hS 67 (by rw [wld_at (okd_alen (k := 67) (by rw [ok67]; decide)).1, cel_obj ok67 (by decide)]) rfl 1 (by decide) (va_Nw.use rfl (hX.2.2.2.2.2.1 _ tn_32)) (fun _ h9 => h9) rfl (by decide +kernel) rfl rfl (Nat.le_of_ble_eq_true rfl) d (fun H1 locs1 hP1 _ hS1 => ?_)
  rw [wld_set (fun j' => if j' = 1 then z else μ 67 j') _ (by rw [cel_obj ok67 (by decide)]; rfl), mset_row] at hP1
  exact k H1 locs1 ls hP1 hS1 hl
theorem gf_X2_19 (hX : OkX V E RX2 cc n lvl) (d : decode cc pc = .ok (.getfield 19, 3))  (k : G V E μ (pc + 3) L (vi (μ 67 2) :: st)) : G V E μ pc L (vr V 67 :: st) := by
  intro H locs ls hP hS hl
  exact va_get (D := V.1) (ci := 2) (v := vi (μ 67 2)) (C := RX2) (T := TX2) (N := 5) (fs := obF V 2 67 (μ 67)) hX.1 hX.2.1 hX.2.2.2.2.1 inX2 hX.2.2.2.1 hX.2.2.2.2.2.2.1 hP 67 (by rw [wld_at (okd_alen (k := 67) (by rw [ok67]; decide)).1, cel_obj ok67 (by decide)]) rfl 2 (by decide) (hX.2.2.2.2.1 _ tw_33) (fun _ h9 => h9) rfl d (k H locs ls hP hS hl)
theorem pf_X2_19 (hX : OkX V E RX2 cc n lvl) (d : decode cc pc = .ok (.putfield 19, 3))  {z : Int}  (k : G V E (mset μ 67 2 z) (pc + 3) L st) : G V E μ pc L (vi z :: vr V 67 :: st) := by
  intro H locs ls hP hS hl
  refine va_put (D := V.1) (ci := 2) (v := vi z) (ty := .int) (C := RX2) (T := TX2) (N := 5) (fs := obF V 2 67 (μ 67)) hX.1 hX.2.1 hX.2.2.2.2.1 inX2 tyX2 tyX2_ok nmX2 hX.2.2.2.1 hX.2.2.2.2.2.2.1 hP (wld_D hX.2.2.2.2.2.2.2.1 hX.2.2.2.2.2.2.2.2.1 μ) hS 67 (by rw [wld_at (okd_alen (k := 67) (by rw [ok67]; decide)).1, cel_obj ok67 (by decide)]) rfl 2 (by decide) (hX.2.2.2.2.1 _ tw_33) (fun _ h9 => h9) rfl (by decide +kernel) rfl rfl (Nat.le_of_ble_eq_true rfl) d (fun H1 locs1 hP1 _ hS1 => ?_)
  rw [wld_set (fun j' => if j' = 2 then z else μ 67 j') _ (by rw [cel_obj ok67 (by decide)]; rfl), mset_row] at hP1
  exact k H1 locs1 ls hP1 hS1 hl
theorem gf_X6_220 (hX : OkX V E RX6 cc n lvl) (d : decode cc pc = .ok (.getfield 220, 3))  (k : G V E μ (pc + 3) L (vi (μ 67 2) :: st)) : G V E μ pc L (vr V 67 :: st) := by
  intro H locs ls hP hS hl
  exact va_getN (D := V.1) (ci := 2) (v := vi (μ 67 2)) (C := RX2) (T := TX2) (N := 5) (fs := obF V 2 67 (μ 67)) hX.1 hX.2.1 hX.2.2.2.2.1 inX2 hX.2.2.2.1 hX.2.2.2.2.2.2.1 hP 67 (by rw [wld_at (okd_alen (k := 67) (by rw [ok67]; decide)).1, cel_obj ok67 (by decide)]) rfl 2 (by decide) (va_Nw.use rfl (hX.2.2.2.2.2.1 _ tn_34)) (fun _ h9 => h9) rfl d (k H locs ls hP hS hl)
theorem pf_X6_220 (hX : OkX V E RX6 cc n lvl) (d : decode cc pc = .ok (.putfield 220, 3))  {z : Int}  (k : G V E (mset μ 67 2 z) (pc + 3) L st) : G V E μ pc L (vi z :: vr V 67 :: st) := by
  intro H locs ls hP hS hl
  refine va_putN (D := V.1) (ci := 2) (v := vi z) (ty := .int) (C := RX2) (T := TX2) (N := 5) (fs := obF V 2 67 (μ 67)) hX.1 hX.2.1 hX.2.2.2.2.1 inX2 tyX2 tyX2_ok nmX2 hX.2.2.2.1 hX.2.2.2.2.2.2.1 hP (wld_D hX.2.2.2.2.2.2.2.1 hX.2.2.2.2.2.2.2.2.1 μ) hS 67 (by rw [wld_at (okd_alen (k := 67) (by rw [ok67]; decide)).1, cel_obj ok67 (by decide)]) rfl 2 (by decide) (va_Nw.use rfl (hX.2.2.2.2.2.1 _ tn_34)) (fun _ h9 => h9) rfl (by decide +kernel) rfl rfl (Nat.le_of_ble_eq_true rfl) d (fun H1 locs1 hP1 _ hS1 => ?_)
  rw [wld_set (fun j' => if j' = 2 then z else μ 67 j') _ (by rw [cel_obj ok67 (by decide)]; rfl), mset_row] at hP1
  exact k H1 locs1 ls hP1 hS1 hl
theorem gf_X2_22 (hX : OkX V E RX2 cc n lvl) (d : decode cc pc = .ok (.getfield 22, 3))  (k : G V E μ (pc + 3) L (vi (μ 67 3) :: st)) : G V E μ pc L (vr V 67 :: st) := by
  intro H locs ls hP hS hl
  exact va_get (D := V.1) (ci := 2) (v := vi (μ 67 3)) (C := RX2) (T := TX2) (N := 5) (fs := obF V 2 67 (μ 67)) hX.1 hX.2.1 hX.2.2.2.2.1 inX2 hX.2.2.2.1 hX.2.2.2.2.2.2.1 hP 67 (by rw [wld_at (okd_alen (k := 67) (by rw [ok67]; decide)).1, cel_obj ok67 (by decide)]) rfl 3 (by decide) (hX.2.2.2.2.1 _ tw_35) (fun _ h9 => h9) rfl d (k H locs ls hP hS hl)
theorem pf_X2_22 (hX : OkX V E RX2 cc n lvl) (d : decode cc pc = .ok (.putfield 22, 3))  {z : Int}  (k : G V E (mset μ 67 3 z) (pc + 3) L st) : G V E μ pc L (vi z :: vr V 67 :: st) := by
  intro H locs ls hP hS hl
  refine va_put (D := V.1) (ci := 2) (v := vi z) (ty := .int) (C := RX2) (T := TX2) (N := 5) (fs := obF V 2 67 (μ 67)) hX.1 hX.2.1 hX.2.2.2.2.1 inX2 tyX2 tyX2_ok nmX2 hX.2.2.2.1 hX.2.2.2.2.2.2.1 hP (wld_D hX.2.2.2.2.2.2.2.1 hX.2.2.2.2.2.2.2.2.1 μ) hS 67 (by rw [wld_at (okd_alen (k := 67) (by rw [ok67]; decide)).1, cel_obj ok67 (by decide)]) rfl 3 (by decide) (hX.2.2.2.2.1 _ tw_35) (fun _ h9 => h9) rfl (by decide +kernel) rfl rfl (Nat.le_of_ble_eq_true rfl) d (fun H1 locs1 hP1 _ hS1 => ?_)
  rw [wld_set (fun j' => if j' = 3 then z else μ 67 j') _ (by rw [cel_obj ok67 (by decide)]; rfl), mset_row] at hP1
  exact k H1 locs1 ls hP1 hS1 hl
theorem gf_X6_221 (hX : OkX V E RX6 cc n lvl) (d : decode cc pc = .ok (.getfield 221, 3))  (k : G V E μ (pc + 3) L (vi (μ 67 3) :: st)) : G V E μ pc L (vr V 67 :: st) := by
  intro H locs ls hP hS hl
  exact va_getN (D := V.1) (ci := 2) (v := vi (μ 67 3)) (C := RX2) (T := TX2) (N := 5) (fs := obF V 2 67 (μ 67)) hX.1 hX.2.1 hX.2.2.2.2.1 inX2 hX.2.2.2.1 hX.2.2.2.2.2.2.1 hP 67 (by rw [wld_at (okd_alen (k := 67) (by rw [ok67]; decide)).1, cel_obj ok67 (by decide)]) rfl 3 (by decide) (va_Nw.use rfl (hX.2.2.2.2.2.1 _ tn_36)) (fun _ h9 => h9) rfl d (k H locs ls hP hS hl)
theorem pf_X6_221 (hX : OkX V E RX6 cc n lvl) (d : decode cc pc = .ok (.putfield 221, 3))  {z : Int}  (k : G V E (mset μ 67 3 z) (pc + 3) L st) : G V E μ pc L (vi z :: vr V 67 :: st) := by
  intro H locs ls hP hS hl
  refine va_putN (D := V.1) (ci := 2) (v := vi z) (ty := .int) (C := RX2) (T := TX2) (N := 5) (fs := obF V 2 67 (μ 67)) hX.1 hX.2.1 hX.2.2.2.2.1 inX2 tyX2 tyX2_ok nmX2 hX.2.2.2.1 hX.2.2.2.2.2.2.1 hP (wld_D hX.2.2.2.2.2.2.2.1 hX.2.2.2.2.2.2.2.2.1 μ) hS 67 (by rw [wld_at (okd_alen (k := 67) (by rw [ok67]; decide)).1, cel_obj ok67 (by decide)]) rfl 3 (by decide) (va_Nw.use rfl (hX.2.2.2.2.2.1 _ tn_36)) (fun _ h9 => h9) rfl (by decide +kernel) rfl rfl (Nat.le_of_ble_eq_true rfl) d (fun H1 locs1 hP1 _ hS1 => ?_)
  rw [wld_set (fun j' => if j' = 3 then z else μ 67 j') _ (by rw [cel_obj ok67 (by decide)]; rfl), mset_row] at hP1
  exact k H1 locs1 ls hP1 hS1 hl
theorem gf_X2_29 (hX : OkX V E RX2 cc n lvl) (d : decode cc pc = .ok (.getfield 29, 3))  (k : G V E μ (pc + 3) L (vi (μ 67 4) :: st)) : G V E μ pc L (vr V 67 :: st) := by
  intro H locs ls hP hS hl
  exact va_get (D := V.1) (ci := 2) (v := vi (μ 67 4)) (C := RX2) (T := TX2) (N := 5) (fs := obF V 2 67 (μ 67)) hX.1 hX.2.1 hX.2.2.2.2.1 inX2 hX.2.2.2.1 hX.2.2.2.2.2.2.1 hP 67 (by rw [wld_at (okd_alen (k := 67) (by rw [ok67]; decide)).1, cel_obj ok67 (by decide)]) rfl 4 (by decide) (hX.2.2.2.2.1 _ tw_37) (fun _ h9 => h9) rfl d (k H locs ls hP hS hl)
theorem pf_X2_29 (hX : OkX V E RX2 cc n lvl) (d : decode cc pc = .ok (.putfield 29, 3))  {z : Int}  (k : G V E (mset μ 67 4 z) (pc + 3) L st) : G V E μ pc L (vi z :: vr V 67 :: st) := by
  intro H locs ls hP hS hl
  refine va_put (D := V.1) (ci := 2) (v := vi z) (ty := .int) (C := RX2) (T := TX2) (N := 5) (fs := obF V 2 67 (μ 67)) hX.1 hX.2.1 hX.2.2.2.2.1 inX2 tyX2 tyX2_ok nmX2 hX.2.2.2.1 hX.2.2.2.2.2.2.1 hP (wld_D hX.2.2.2.2.2.2.2.1 hX.2.2.2.2.2.2.2.2.1 μ) hS 67 (by rw [wld_at (okd_alen (k := 67) (by rw [ok67]; decide)).1, cel_obj ok67 (by decide)]) rfl 4 (by decide) (hX.2.2.2.2.1 _ tw_37) (fun _ h9 => h9) rfl (by decide +kernel) rfl rfl (Nat.le_of_ble_eq_true rfl) d (fun H1 locs1 hP1 _ hS1 => ?_)
  rw [wld_set (fun j' => if j' = 4 then z else μ 67 j') _ (by rw [cel_obj ok67 (by decide)]; rfl), mset_row] at hP1
  exact k H1 locs1 ls hP1 hS1 hl
theorem gf_X6_224 (hX : OkX V E RX6 cc n lvl) (d : decode cc pc = .ok (.getfield 224, 3))  (k : G V E μ (pc + 3) L (vi (μ 67 4) :: st)) : G V E μ pc L (vr V 67 :: st) := by
  intro H locs ls hP hS hl
  exact va_getN (D := V.1) (ci := 2) (v := vi (μ 67 4)) (C := RX2) (T := TX2) (N := 5) (fs := obF V 2 67 (μ 67)) hX.1 hX.2.1 hX.2.2.2.2.1 inX2 hX.2.2.2.1 hX.2.2.2.2.2.2.1 hP 67 (by rw [wld_at (okd_alen (k := 67) (by rw [ok67]; decide)).1, cel_obj ok67 (by decide)]) rfl 4 (by decide) (va_Nw.use rfl (hX.2.2.2.2.2.1 _ tn_38)) (fun _ h9 => h9) rfl d (k H locs ls hP hS hl)
theorem pf_X6_224 (hX : OkX V E RX6 cc n lvl) (d : decode cc pc = .ok (.putfield 224, 3))  {z : Int}  (k : G V E (mset μ 67 4 z) (pc + 3) L st) : G V E μ pc L (vi z :: vr V 67 :: st) := by
  intro H locs ls hP hS hl
  refine va_putN (D := V.1) (ci := 2) (v := vi z) (ty := .int) (C := RX2) (T := TX2) (N := 5) (fs := obF V 2 67 (μ 67)) hX.1 hX.2.1 hX.2.2.2.2.1 inX2 tyX2 tyX2_ok nmX2 hX.2.2.2.1 hX.2.2.2.2.2.2.1 hP (wld_D hX.2.2.2.2.2.2.2.1 hX.2.2.2.2.2.2.2.2.1 μ) hS 67 (by rw [wld_at (okd_alen (k := 67) (by rw [ok67]; decide)).1, cel_obj ok67 (by decide)]) rfl 4 (by decide) (va_Nw.use rfl (hX.2.2.2.2.2.1 _ tn_38)) (fun _ h9 => h9) rfl (by decide +kernel) rfl rfl (Nat.le_of_ble_eq_true rfl) d (fun H1 locs1 hP1 _ hS1 => ?_)
  rw [wld_set (fun j' => if j' = 4 then z else μ 67 j') _ (by rw [cel_obj ok67 (by decide)]; rfl), mset_row] at hP1
  exact k H1 locs1 ls hP1 hS1 hl
theorem gf_X3_9 (hX : OkX V E RX3 cc n lvl) (d : decode cc pc = .ok (.getfield 9, 3))  (k : G V E μ (pc + 3) L (vr V 70 :: st)) : G V E μ pc L (vr V 69 :: st) := by
  intro H locs ls hP hS hl
  exact va_get (D := V.1) (ci := 3) (v := vr V 70) (C := RX3) (T := TX3) (N := 4) (fs := obF V 3 69 (μ 69)) hX.1 hX.2.1 hX.2.2.2.2.1 inX3 hX.2.2.2.1 hX.2.2.2.2.2.2.1 hP 69 (by rw [wld_at (okd_alen (k := 69) (by rw [ok69]; decide)).1, cel_obj ok69 (by decide)]) rfl 0 (by decide) (hX.2.2.2.2.1 _ tw_57) (fun _ h9 => h9) rfl d (k H locs ls hP hS hl)
theorem gf_X3_15 (hX : OkX V E RX3 cc n lvl) (d : decode cc pc = .ok (.getfield 15, 3))  (k : G V E μ (pc + 3) L (vr V 71 :: st)) : G V E μ pc L (vr V 69 :: st) := by
  intro H locs ls hP hS hl
  exact va_get (D := V.1) (ci := 3) (v := vr V 71) (C := RX3) (T := TX3) (N := 4) (fs := obF V 3 69 (μ 69)) hX.1 hX.2.1 hX.2.2.2.2.1 inX3 hX.2.2.2.1 hX.2.2.2.2.2.2.1 hP 69 (by rw [wld_at (okd_alen (k := 69) (by rw [ok69]; decide)).1, cel_obj ok69 (by decide)]) rfl 1 (by decide) (hX.2.2.2.2.1 _ tw_58) (fun _ h9 => h9) rfl d (k H locs ls hP hS hl)
theorem gf_X3_18 (hX : OkX V E RX3 cc n lvl) (d : decode cc pc = .ok (.getfield 18, 3))  (k : G V E μ (pc + 3) L (vi (μ 69 2) :: st)) : G V E μ pc L (vr V 69 :: st) := by
  intro H locs ls hP hS hl
  exact va_get (D := V.1) (ci := 3) (v := vi (μ 69 2)) (C := RX3) (T := TX3) (N := 4) (fs := obF V 3 69 (μ 69)) hX.1 hX.2.1 hX.2.2.2.2.1 inX3 hX.2.2.2.1 hX.2.2.2.2.2.2.1 hP 69 (by rw [wld_at (okd_alen (k := 69) (by rw [ok69]; decide)).1, cel_obj ok69 (by decide)]) rfl 2 (by decide) (hX.2.2.2.2.1 _ tw_59) (fun _ h9 => h9) rfl d (k H locs ls hP hS hl)
theorem pf_X3_18 (hX : OkX V E RX3 cc n lvl) (d : decode cc pc = .ok (.putfield 18, 3))  {z : Int}  (k : G V E (mset μ 69 2 z) (pc + 3) L st) : G V E μ pc L (vi z :: vr V 69 :: st) := by
  intro H locs ls hP hS hl
  refine va_put (D := V.1) (ci := 3) (v := vi z) (ty := .int) (C := RX3) (T := TX3) (N := 4) (fs := obF V 3 69 (μ 69)) hX.1 hX.2.1 hX.2.2.2.2.1 inX3 tyX3 tyX3_ok nmX3 hX.2.2.2.1 hX.2.2.2.2.2.2.1 hP (wld_D hX.2.2.2.2.2.2.2.1 hX.2.2.2.2.2.2.2.2.1 μ) hS 69 (by rw [wld_at (okd_alen (k := 69) (by rw [ok69]; decide)).1, cel_obj ok69 (by decide)]) rfl 2 (by decide) (hX.2.2.2.2.1 _ tw_59) (fun _ h9 => h9) rfl (by decide +kernel) rfl rfl (Nat.le_of_ble_eq_true rfl) d (fun H1 locs1 hP1 _ hS1 => ?_)
  rw [wld_set (fun j' => if j' = 2 then z else μ 69 j') _ (by rw [cel_obj ok69 (by decide)]; rfl), mset_row] at hP1
  exact k H1 locs1 ls hP1 hS1 hl
theorem gf_X3_22 (hX : OkX V E RX3 cc n lvl) (d : decode cc pc = .ok (.getfield 22, 3))  (k : G V E μ (pc + 3) L (vi (μ 69 3) :: st)) : G V E μ pc L (vr V 69 :: st) := by
  intro H locs ls hP hS hl
  exact va_get (D := V.1) (ci := 3) (v := vi (μ 69 3)) (C := RX3) (T := TX3) (N := 4) (fs := obF V 3 69 (μ 69)) hX.1 hX.2.1 hX.2.2.2.2.1 inX3 hX.2.2.2.1 hX.2.2.2.2.2.2.1 hP 69 (by rw [wld_at (okd_alen (k := 69) (by rw [ok69]; decide)).1, cel_obj ok69 (by decide)]) rfl 3 (by decide) (hX.2.2.2.2.1 _ tw_60) (fun _ h9 => h9) rfl d (k H locs ls hP hS hl)
theorem pf_X3_22 (hX : OkX V E RX3 cc n lvl) (d : decode cc pc = .ok (.putfield 22, 3))  {z : Int}  (k : G V E (mset μ 69 3 z) (pc + 3) L st) : G V E μ pc L (vi z :: vr V 69 :: st) := by
  intro H locs ls hP hS hl
  refine va_put (D := V.1) (ci := 3) (v := vi z) (ty := .int) (C := RX3) (T := TX3) (N := 4) (fs := obF V 3 69 (μ 69)) hX.1 hX.2.1 hX.2.2.2.2.1 inX3 tyX3 tyX3_ok nmX3 hX.2.2.2.1 hX.2.2.2.2.2.2.1 hP (wld_D hX.2.2.2.2.2.2.2.1 hX.2.2.2.2.2.2.2.2.1 μ) hS 69 (by rw [wld_at (okd_alen (k := 69) (by rw [ok69]; decide)).1, cel_obj ok69 (by decide)]) rfl 3 (by decide) (hX.2.2.2.2.1 _ tw_60) (fun _ h9 => h9) rfl (by decide +kernel) rfl rfl (Nat.le_of_ble_eq_true rfl) d (fun H1 locs1 hP1 _ hS1 => ?_)
  rw [wld_set (fun j' => if j' = 3 then z else μ 69 j') _ (by rw [cel_obj ok69 (by decide)]; rfl), mset_row] at hP1
  exact k H1 locs1 ls hP1 hS1 hl
theorem gf_X5_9 (hX : OkX V E RX5 cc n lvl) (d : decode cc pc = .ok (.getfield 9, 3)) {k0 : Nat} (hk : okd k0 = 5) (k : G V E μ (pc + 3) L (vr V (k0 + 5) :: st)) : G V E μ pc L (vr V k0 :: st) := by
  intro H locs ls hP hS hl
  exact va_get (D := V.1) (ci := 5) (v := vr V (k0 + 5)) (C := RX5) (T := TX5) (N := 2) (fs := obF V 5 k0 (μ k0)) hX.1 hX.2.1 hX.2.2.2.2.1 inX5 hX.2.2.2.1 hX.2.2.2.2.2.2.1 hP k0 (by rw [wld_at (okd_alen (k := k0) (by rw [hk]; decide)).1, cel_obj hk (by decide)]) rfl 0 (by decide) (hX.2.2.2.2.1 _ tw_82) (fun _ h9 => h9) rfl d (k H locs ls hP hS hl)
theorem gf_X5_15 (hX : OkX V E RX5 cc n lvl) (d : decode cc pc = .ok (.getfield 15, 3)) {k0 : Nat} (hk : okd k0 = 5) (k : G V E μ (pc + 3) L (vi (μ k0 1) :: st)) : G V E μ pc L (vr V k0 :: st) := by
  intro H locs ls hP hS hl
  exact va_get (D := V.1) (ci := 5) (v := vi (μ k0 1)) (C := RX5) (T := TX5) (N := 2) (fs := obF V 5 k0 (μ k0)) hX.1 hX.2.1 hX.2.2.2.2.1 inX5 hX.2.2.2.1 hX.2.2.2.2.2.2.1 hP k0 (by rw [wld_at (okd_alen (k := k0) (by rw [hk]; decide)).1, cel_obj hk (by decide)]) rfl 1 (by decide) (hX.2.2.2.2.1 _ tw_83) (fun _ h9 => h9) rfl d (k H locs ls hP hS hl)
theorem pf_X5_15 (hX : OkX V E RX5 cc n lvl) (d : decode cc pc = .ok (.putfield 15, 3)) {k0 : Nat} (hk : okd k0 = 5) {z : Int}  (k : G V E (mset μ k0 1 z) (pc + 3) L st) : G V E μ pc L (vi z :: vr V k0 :: st) := by
  intro H locs ls hP hS hl
  refine va_put (D := V.1) (ci := 5) (v := vi z) (ty := .int) (C := RX5) (T := TX5) (N := 2) (fs := obF V 5 k0 (μ k0)) hX.1 hX.2.1 hX.2.2.2.2.1 inX5 tyX5 tyX5_ok nmX5 hX.2.2.2.1 hX.2.2.2.2.2.2.1 hP (wld_D hX.2.2.2.2.2.2.2.1 hX.2.2.2.2.2.2.2.2.1 μ) hS k0 (by rw [wld_at (okd_alen (k := k0) (by rw [hk]; decide)).1, cel_obj hk (by decide)]) rfl 1 (by decide) (hX.2.2.2.2.1 _ tw_83) (fun _ h9 => h9) rfl (by decide +kernel) rfl rfl (Nat.le_of_ble_eq_true rfl) d (fun H1 locs1 hP1 _ hS1 => ?_)
  rw [wld_set (fun j' => if j' = 1 then z else μ k0 j') _ (by rw [cel_obj hk (by decide)]; rfl), mset_row] at hP1
  exact k H1 locs1 ls hP1 hS1 hl
theorem gf_X1_36 (hX : OkX V E RX1 cc n lvl) (d : decode cc pc = .ok (.getfield 36, 3)) {k0 : Nat} (hk : okd k0 = 5) (k : G V E μ (pc + 3) L (vi (μ k0 1) :: st)) : G V E μ pc L (vr V k0 :: st) := by
  intro H locs ls hP hS hl
  exact va_getN (D := V.1) (ci := 5) (v := vi (μ k0 1)) (C := RX5) (T := TX5) (N := 2) (fs := obF V 5 k0 (μ k0)) hX.1 hX.2.1 hX.2.2.2.2.1 inX5 hX.2.2.2.1 hX.2.2.2.2.2.2.1 hP k0 (by rw [wld_at (okd_alen (k := k0) (by rw [hk]; decide)).1, cel_obj hk (by decide)]) rfl 1 (by decide) (va_Nw.use rfl (hX.2.2.2.2.2.1 _ tn_84)) (fun _ h9 => h9) rfl d (k H locs ls hP hS hl)
theorem pf_X1_36 (hX : OkX V E RX1 cc n lvl) (d : decode cc pc = .ok (.putfield 36, 3)) {k0 : Nat} (hk : okd k0 = 5) {z : Int}  (k : G V E (mset μ k0 1 z) (pc + 3) L st) : G V E μ pc L (vi z :: vr V k0 :: st) := by
  intro H locs ls hP hS hl
  refine va_putN (D := V.1) (ci := 5) (v := vi z) (ty := .int) (C := RX5) (T := TX5) (N := 2) (fs := obF V 5 k0 (μ k0)) hX.1 hX.2.1 hX.2.2.2.2.1 inX5 tyX5 tyX5_ok nmX5 hX.2.2.2.1 hX.2.2.2.2.2.2.1 hP (wld_D hX.2.2.2.2.2.2.2.1 hX.2.2.2.2.2.2.2.2.1 μ) hS k0 (by rw [wld_at (okd_alen (k := k0) (by rw [hk]; decide)).1, cel_obj hk (by decide)]) rfl 1 (by decide) (va_Nw.use rfl (hX.2.2.2.2.2.1 _ tn_84)) (fun _ h9 => h9) rfl (by decide +kernel) rfl rfl (Nat.le_of_ble_eq_true rfl) d (fun H1 locs1 hP1 _ hS1 => ?_)
  rw [wld_set (fun j' => if j' = 1 then z else μ k0 j') _ (by rw [cel_obj hk (by decide)]; rfl), mset_row] at hP1
  exact k H1 locs1 ls hP1 hS1 hl
theorem gf_X6_168 (hX : OkX V E RX6 cc n lvl) (d : decode cc pc = .ok (.getfield 168, 3)) {k0 : Nat} (hk : okd k0 = 5) (k : G V E μ (pc + 3) L (vi (μ k0 1) :: st)) : G V E μ pc L (vr V k0 :: st) := by
  intro H locs ls hP hS hl
  exact va_getN (D := V.1) (ci := 5) (v := vi (μ k0 1)) (C := RX5) (T := TX5) (N := 2) (fs := obF V 5 k0 (μ k0)) hX.1 hX.2.1 hX.2.2.2.2.1 inX5 hX.2.2.2.1 hX.2.2.2.2.2.2.1 hP k0 (by rw [wld_at (okd_alen (k := k0) (by rw [hk]; decide)).1, cel_obj hk (by decide)]) rfl 1 (by decide) (va_Nw.use rfl (hX.2.2.2.2.2.1 _ tn_85)) (fun _ h9 => h9) rfl d (k H locs ls hP hS hl)
theorem pf_X6_168 (hX : OkX V E RX6 cc n lvl) (d : decode cc pc = .ok (.putfield 168, 3)) {k0 : Nat} (hk : okd k0 = 5) {z : Int}  (k : G V E (mset μ k0 1 z) (pc + 3) L st) : G V E μ pc L (vi z :: vr V k0 :: st) := by
  intro H locs ls hP hS hl
  refine va_putN (D := V.1) (ci := 5) (v := vi z) (ty := .int) (C := RX5) (T := TX5) (N := 2) (fs := obF V 5 k0 (μ k0)) hX.1 hX.2.1 hX.2.2.2.2.1 inX5 tyX5 tyX5_ok nmX5 hX.2.2.2.1 hX.2.2.2.2.2.2.1 hP (wld_D hX.2.2.2.2.2.2.2.1 hX.2.2.2.2.2.2.2.2.1 μ) hS k0 (by rw [wld_at (okd_alen (k := k0) (by rw [hk]; decide)).1, cel_obj hk (by decide)]) rfl 1 (by decide) (va_Nw.use rfl (hX.2.2.2.2.2.1 _ tn_85)) (fun _ h9 => h9) rfl (by decide +kernel) rfl rfl (Nat.le_of_ble_eq_true rfl) d (fun H1 locs1 hP1 _ hS1 => ?_)
  rw [wld_set (fun j' => if j' = 1 then z else μ k0 j') _ (by rw [cel_obj hk (by decide)]; rfl), mset_row] at hP1
  exact k H1 locs1 ls hP1 hS1 hl
theorem gf_X1_11 (hX : OkX V E RX1 cc n lvl) (d : decode cc pc = .ok (.getfield 11, 3))  (k : G V E μ (pc + 3) L (vr V 73 :: st)) : G V E μ pc L (vr V 72 :: st) := by
  intro H locs ls hP hS hl
  exact va_get (D := V.1) (ci := 1) (v := vr V 73) (C := RX1) (T := TX1) (N := 4) (fs := obF V 1 72 (μ 72)) hX.1 hX.2.1 hX.2.2.2.2.1 inX1 hX.2.2.2.1 hX.2.2.2.2.2.2.1 hP 72 (by rw [wld_at (okd_alen (k := 72) (by rw [ok72]; decide)).1, cel_obj ok72 (by decide)]) rfl 0 (by decide) (hX.2.2.2.2.1 _ tw_91) (fun _ h9 => h9) rfl d (k H locs ls hP hS hl)
theorem gf_X1_17 (hX : OkX V E RX1 cc n lvl) (d : decode cc pc = .ok (.getfield 17, 3))  (k : G V E μ (pc + 3) L (vr V 74 :: st)) : G V E μ pc L (vr V 72 :: st) := by
  intro H locs ls hP hS hl
  exact va_get (D := V.1) (ci := 1) (v := vr V 74) (C := RX1) (T := TX1) (N := 4) (fs := obF V 1 72 (μ 72)) hX.1 hX.2.1 hX.2.2.2.2.1 inX1 hX.2.2.2.1 hX.2.2.2.2.2.2.1 hP 72 (by rw [wld_at (okd_alen (k := 72) (by rw [ok72]; decide)).1, cel_obj ok72 (by decide)]) rfl 1 (by decide) (hX.2.2.2.2.1 _ tw_92) (fun _ h9 => h9) rfl d (k H locs ls hP hS hl)
theorem gf_X1_21 (hX : OkX V E RX1 cc n lvl) (d : decode cc pc = .ok (.getfield 21, 3))  (k : G V E μ (pc + 3) L (vr V 75 :: st)) : G V E μ pc L (vr V 72 :: st) := by
  intro H locs ls hP hS hl
  exact va_get (D := V.1) (ci := 1) (v := vr V 75) (C := RX1) (T := TX1) (N := 4) (fs := obF V 1 72 (μ 72)) hX.1 hX.2.1 hX.2.2.2.2.1 inX1 hX.2.2.2.1 hX.2.2.2.2.2.2.1 hP 72 (by rw [wld_at (okd_alen (k := 72) (by rw [ok72]; decide)).1, cel_obj ok72 (by decide)]) rfl 2 (by decide) (hX.2.2.2.2.1 _ tw_93) (fun _ h9 => h9) rfl d (k H locs ls hP hS hl)
theorem gf_X1_25 (hX : OkX V E RX1 cc n lvl) (d : decode cc pc = .ok (.getfield 25, 3))  (k : G V E μ (pc + 3) L (vi (μ 72 3) :: st)) : G V E μ pc L (vr V 72 :: st) := by
  intro H locs ls hP hS hl
  exact va_get (D := V.1) (ci := 1) (v := vi (μ 72 3)) (C := RX1) (T := TX1) (N := 4) (fs := obF V 1 72 (μ 72)) hX.1 hX.2.1 hX.2.2.2.2.1 inX1 hX.2.2.2.1 hX.2.2.2.2.2.2.1 hP 72 (by rw [wld_at (okd_alen (k := 72) (by rw [ok72]; decide)).1, cel_obj ok72 (by decide)]) rfl 3 (by decide) (hX.2.2.2.2.1 _ tw_94) (fun _ h9 => h9) rfl d (k H locs ls hP hS hl)
theorem pf_X1_25 (hX : OkX V E RX1 cc n lvl) (d : decode cc pc = .ok (.putfield 25, 3))  {z : Int}  (k : G V E (mset μ 72 3 z) (pc + 3) L st) : G V E μ pc L (vi z :: vr V 72 :: st) := by
  intro H locs ls hP hS hl
  refine va_put (D := V.1) (ci := 1) (v := vi z) (ty := .int) (C := RX1) (T := TX1) (N := 4) (fs := obF V 1 72 (μ 72)) hX.1 hX.2.1 hX.2.2.2.2.1 inX1 tyX1 tyX1_ok nmX1 hX.2.2.2.1 hX.2.2.2.2.2.2.1 hP (wld_D hX.2.2.2.2.2.2.2.1 hX.2.2.2.2.2.2.2.2.1 μ) hS 72 (by rw [wld_at (okd_alen (k := 72) (by rw [ok72]; decide)).1, cel_obj ok72 (by decide)]) rfl 3 (by decide) (hX.2.2.2.2.1 _ tw_94) (fun _ h9 => h9) rfl (by decide +kernel) rfl rfl (Nat.le_of_ble_eq_true rfl) d (fun H1 locs1 hP1 _ hS1 => ?_)
  rw [wld_set (fun j' => if j' = 3 then z else μ 72 j') _ (by rw [cel_obj ok72 (by decide)]; rfl), mset_row] at hP1
  exact k H1 locs1 ls hP1 hS1 hl
theorem gf_X4_18 (hX : OkX V E RX4 cc n lvl) (d : decode cc pc = .ok (.getfield 18, 3)) {k0 : Nat} (hk : okd k0 = 4) (k : G V E μ (pc + 3) L (vi (μ k0 0) :: st)) : G V E μ pc L (vr V k0 :: st) := by
  intro H locs ls hP hS hl
  exact va_get (D := V.1) (ci := 4) (v := vi (μ k0 0)) (C := RX4) (T := TX4) (N := 8) (fs := obF V 4 k0 (μ k0)) hX.1 hX.2.1 hX.2.2.2.2.1 inX4 hX.2.2.2.1 hX.2.2.2.2.2.2.1 hP k0 (by rw [wld_at (okd_alen (k := k0) (by rw [hk]; decide)).1, cel_obj hk (by decide)]) rfl 0 (by decide) (hX.2.2.2.2.1 _ tw_109) (fun _ h9 => h9) rfl d (k H locs ls hP hS hl)
theorem pf_X4_18 (hX : OkX V E RX4 cc n lvl) (d : decode cc pc = .ok (.putfield 18, 3)) {k0 : Nat} (hk : okd k0 = 4) {z : Int}  (k : G V E (mset μ k0 0 z) (pc + 3) L st) : G V E μ pc L (vi z :: vr V k0 :: st) := by
  intro H locs ls hP hS hl
  refine va_put (D := V.1) (ci := 4) (v := vi z) (ty := .int) (C := RX4) (T := TX4) (N := 8) (fs := obF V 4 k0 (μ k0)) hX.1 hX.2.1 hX.2.2.2.2.1 inX4 tyX4 tyX4_ok nmX4 hX.2.2.2.1 hX.2.2.2.2.2.2.1 hP (wld_D hX.2.2.2.2.2.2.2.1 hX.2.2.2.2.2.2.2.2.1 μ) hS k0 (by rw [wld_at (okd_alen (k := k0) (by rw [hk]; decide)).1, cel_obj hk (by decide)]) rfl 0 (by decide) (hX.2.2.2.2.1 _ tw_109) (fun _ h9 => h9) rfl (by decide +kernel) rfl rfl (Nat.le_of_ble_eq_true rfl) d (fun H1 locs1 hP1 _ hS1 => ?_)
  rw [wld_set (fun j' => if j' = 0 then z else μ k0 j') _ (by rw [cel_obj hk (by decide)]; rfl), mset_row] at hP1
  exact k H1 locs1 ls hP1 hS1 hl
theorem gf_X6_108 (hX : OkX V E RX6 cc n lvl) (d : decode cc pc = .ok (.getfield 108, 3)) {k0 : Nat} (hk : okd k0 = 4) (k : G V E μ (pc + 3) L (vi (μ k0 0) :: st)) : G V E μ pc L (vr V k0 :: st) := by
  intro H locs ls hP hS hl
  exact va_getN (D := V.1) (ci := 4) (v := vi (μ k0 0)) (C := RX4) (T := TX4) (N := 8) (fs := obF V 4 k0 (μ k0)) hX.1 hX.2.1 hX.2.2.2.2.1 inX4 hX.2.2.2.1 hX.2.2.2.2.2.2.1 hP k0 (by rw [wld_at (okd_alen (k := k0) (by rw [hk]; decide)).1, cel_obj hk (by decide)]) rfl 0 (by decide) (va_Nw.use rfl (hX.2.2.2.2.2.1 _ tn_110)) (fun _ h9 => h9) rfl d (k H locs ls hP hS hl)
theorem pf_X6_108 (hX : OkX V E RX6 cc n lvl) (d : decode cc pc = .ok (.putfield 108, 3)) {k0 : Nat} (hk : okd k0 = 4) {z : Int}  (k : G V E (mset μ k0 0 z) (pc + 3) L st) : G V E μ pc L (vi z :: vr V k0 :: st) := by
  intro H locs ls hP hS hl
  refine va_putN (D := V.1) (ci := 4) (v := vi z) (ty := .int) (C := RX4) (T := TX4) (N := 8) (fs := obF V 4 k0 (μ k0)) hX.1 hX.2.1 hX.2.2.2.2.1 inX4 tyX4 tyX4_ok nmX4 hX.2.2.2.1 hX.2.2.2.2.2.2.1 hP (wld_D hX.2.2.2.2.2.2.2.1 hX.2.2.2.2.2.2.2.2.1 μ) hS k0 (by rw [wld_at (okd_alen (k := k0) (by rw [hk]; decide)).1, cel_obj hk (by decide)]) rfl 0 (by decide) (va_Nw.use rfl (hX.2.2.2.2.2.1 _ tn_110)) (fun _ h9 => h9) rfl (by decide +kernel) rfl rfl (Nat.le_of_ble_eq_true rfl) d (fun H1 locs1 hP1 _ hS1 => ?_)
  rw [wld_set (fun j' => if j' = 0 then z else μ k0 j') _ (by rw [cel_obj hk (by decide)]; rfl), mset_row] at hP1
  exact k H1 locs1 ls hP1 hS1 hl
theorem gf_X4_21 (hX : OkX V E RX4 cc n lvl) (d : decode cc pc = .ok (.getfield 21, 3)) {k0 : Nat} (hk : okd k0 = 4) (k : G V E μ (pc + 3) L (vi (μ k0 1) :: st)) : G V E μ pc L (vr V k0 :: st) := by
  intro H locs ls hP hS hl
  exact va_get (D := V.1) (ci := 4) (v := vi (μ k0 1)) (C := RX4) (T := TX4) (N := 8) (fs := obF V 4 k0 (μ k0)) hX.1 hX.2.1 hX.2.2.2.2.1 inX4 hX.2.2.2.1 hX.2.2.2.2.2.2.1 hP k0 (by rw [wld_at (okd_alen (k := k0) (by rw [hk]; decide)).1, cel_obj hk (by decide)]) rfl 1 (by decide) (hX.2.2.2.2.1 _ tw_111) (fun _ h9 => h9) rfl d (k H locs ls hP hS hl)
theorem pf_X4_21 (hX : OkX V E RX4 cc n lvl) (d : decode cc pc = .ok (.putfield 21, 3)) {k0 : Nat} (hk : okd k0 = 4) {z : Int}  (k : G V E (mset μ k0 1 z) (pc + 3) L st) : G V E μ pc L (vi z :: vr V k0 :: st) := by
  intro H locs ls hP hS hl
  refine va_put (D := V.1) (ci := 4) (v := vi z) (ty := .int) (C := RX4) (T := TX4) (N := 8) (fs := obF V 4 k0 (μ k0)) hX.1 hX.2.1 hX.2.2.2.2.1 inX4 tyX4 tyX4_ok nmX4 hX.2.2.2.1 hX.2.2.2.2.2.2.1 hP (wld_D hX.2.2.2.2.2.2.2.1 hX.2.2.2.2.2.2.2.2.1 μ) hS k0 (by rw [wld_at (okd_alen (k := k0) (by rw [hk]; decide)).1, cel_obj hk (by decide)]) rfl 1 (by decide) (hX.2.2.2.2.1 _ tw_111) (fun _ h9 => h9) rfl (by decide +kernel) rfl rfl (Nat.le_of_ble_eq_true rfl) d (fun H1 locs1 hP1 _ hS1 => ?_)
  rw [wld_set (fun j' => if j' = 1 then z else μ k0 j') _ (by rw [cel_obj hk (by decide)]; rfl), mset_row] at hP1
  exact k H1 locs1 ls hP1 hS1 hl
theorem gf_X6_230 (hX : OkX V E RX6 cc n lvl) (d : decode cc pc = .ok (.getfield 230, 3)) {k0 : Nat} (hk : okd k0 = 4) (k : G V E μ (pc + 3) L (vi (μ k0 1) :: st)) : G V E μ pc L (vr V k0 :: st) := by
  intro H locs ls hP hS hl
  exact va_getN (D := V.1) (ci := 4) (v := vi (μ k0 1)) (C := RX4) (T := TX4) (N := 8) (fs := obF V 4 k0 (μ k0)) hX.1 hX.2.1 hX.2.2.2.2.1 inX4 hX.2.2.2.1 hX.2.2.2.2.2.2.1 hP k0 (by rw [wld_at (okd_alen (k := k0) (by rw [hk]; decide)).1, cel_obj hk (by decide)]) rfl 1 (by decide) (va_Nw.use rfl (hX.2.2.2.2.2.1 _ tn_112)) (fun _ h9 => h9) rfl d (k H locs ls hP hS hl)
theorem pf_X6_230 (hX : OkX V E RX6 cc n lvl) (d : decode cc pc = .ok (.putfield 230, 3)) {k0 : Nat} (hk : okd k0 = 4) {z : Int}  (k : G V E (mset μ k0 1 z) (pc + 3) L st) : G V E μ pc L (vi z :: vr V k0 :: st) := by
  intro H locs ls hP hS hl
  refine va_putN (D := V.1) (ci := 4) (v := vi z) (ty := .int) (C := RX4) (T := TX4) (N := 8) (fs := obF V 4 k0 (μ k0)) hX.1 hX.2.1 hX.2.2.2.2.1 inX4 tyX4 tyX4_ok nmX4 hX.2.2.2.1 hX.2.2.2.2.2.2.1 hP (wld_D hX.2.2.2.2.2.2.2.1 hX.2.2.2.2.2.2.2.2.1 μ) hS k0 (by rw [wld_at (okd_alen (k := k0) (by rw [hk]; decide)).1, cel_obj hk (by decide)]) rfl 1 (by decide) (va_Nw.use rfl (hX.2.2.2.2.2.1 _ tn_112)) (fun _ h9 => h9) rfl (by decide +kernel) rfl rfl (Nat.le_of_ble_eq_true rfl) d (fun H1 locs1 hP1 _ hS1 => ?_)
  rw [wld_set (fun j' => if j' = 1 then z else μ k0 j') _ (by rw [cel_obj hk (by decide)]; rfl), mset_row] at hP1
  exact k H1 locs1 ls hP1 hS1 hl
theorem gf_X4_24 (hX : OkX V E RX4 cc n lvl) (d : decode cc pc = .ok (.getfield 24, 3)) {k0 : Nat} (hk : okd k0 = 4) (k : G V E μ (pc + 3) L (vi (μ k0 2) :: st)) : G V E μ pc L (vr V k0 :: st) := by
  intro H locs ls hP hS hl
  exact va_get (D := V.1) (ci := 4) (v := vi (μ k0 2)) (C := RX4) (T := TX4) (N := 8) (fs := obF V 4 k0 (μ k0)) hX.1 hX.2.1 hX.2.2.2.2.1 inX4 hX.2.2.2.1 hX.2.2.2.2.2.2.1 hP k0 (by rw [wld_at (okd_alen (k := k0) (by rw [hk]; decide)).1, cel_obj hk (by decide)]) rfl 2 (by decide) (hX.2.2.2.2.1 _ tw_113) (fun _ h9 => h9) rfl d (k H locs ls hP hS hl)
theorem pf_X4_24 (hX : OkX V E RX4 cc n lvl) (d : decode cc pc = .ok (.putfield 24, 3)) {k0 : Nat} (hk : okd k0 = 4) {z : Int}  (k : G V E (mset μ k0 2 z) (pc + 3) L st) : G V E μ pc L (vi z :: vr V k0 :: st) := by
  intro H locs ls hP hS hl
  refine va_put (D := V.1) (ci := 4) (v := vi z) (ty := .int) (C := RX4) (T := TX4) (N := 8) (fs := obF V 4 k0 (μ k0)) hX.1 hX.2.1 hX.2.2.2.2.1 inX4 tyX4 tyX4_ok nmX4 hX.2.2.2.1 hX.2.2.2.2.2.2.1 hP (wld_D hX.2.2.2.2.2.2.2.1 hX.2.2.2.2.2.2.2.2.1 μ) hS k0 (by rw [wld_at (okd_alen (k := k0) (by rw [hk]; decide)).1, cel_obj hk (by decide)]) rfl 2 (by decide) (hX.2.2.2.2.1 _ tw_113) (fun _ h9 => h9) rfl (by decide +kernel) rfl rfl (Nat.le_of_ble_eq_true rfl) d (fun H1 locs1 hP1 _ hS1 => ?_)
  rw [wld_set (fun j' => if j' = 2 then z else μ k0 j') _ (by rw [cel_obj hk (by decide)]; rfl), mset_row] at hP1
  exact k H1 locs1 ls hP1 hS1 hl
theorem gf_X6_204 (hX : OkX V E RX6 cc n lvl) (d : decode cc pc = .ok (.getfield 204, 3)) {k0 : Nat} (hk : okd k0 = 4) (k : G V E μ (pc + 3) L (vi (μ k0 2) :: st)) : G V E μ pc L (vr V k0 :: st) := by
  intro H locs ls hP hS hl
  exact va_getN (D := V.1) (ci := 4) (v := vi (μ k0 2)) (C := RX4) (T := TX4) (N := 8) (fs := obF V 4 k0 (μ k0)) hX.1 hX.2.1 hX.2.2.2.2.1 inX4 hX.2.2.2.1 hX.2.2.2.2.2.2.1 hP k0 (by rw [wld_at (okd_alen (k := k0) (by rw [hk]; decide)).1, cel_obj hk (by decide)]) rfl 2 (by decide) (va_Nw.use rfl (hX.2.2.2.2.2.1 _ tn_114)) (fun _ h9 => h9) rfl d (k H locs ls hP hS hl)
theorem pf_X6_204 (hX : OkX V E RX6 cc n lvl) (d : decode cc pc = .ok (.putfield 204, 3)) {k0 : Nat} (hk : okd k0 = 4) {z : Int}  (k : G V E (mset μ k0 2 z) (pc + 3) L st) : G V E μ pc L (vi z :: vr V k0 :: st) := by
  intro H locs ls hP hS hl
  refine va_putN (D := V.1) (ci := 4) (v := vi z) (ty := .int) (C := RX4) (T := TX4) (N := 8) (fs := obF V 4 k0 (μ k0)) hX.1 hX.2.1 hX.2.2.2.2.1 inX4 tyX4 tyX4_ok nmX4 hX.2.2.2.1 hX.2.2.2.2.2.2.1 hP (wld_D hX.2.2.2.2.2.2.2.1 hX.2.2.2.2.2.2.2.2.1 μ) hS k0 (by rw [wld_at (okd_alen (k := k0) (by rw [hk]; decide)).1, cel_obj hk (by decide)]) rfl 2 (by decide) (va_Nw.use rfl (hX.2.2.2.2.2.1 _ tn_114)) (fun _ h9 => h9) rfl (by decide +kernel) rfl rfl (Nat.le_of_ble_eq_true rfl) d (fun H1 locs1 hP1 _ hS1 => ?_)
  rw [wld_set (fun j' => if j' = 2 then z else μ k0 j') _ (by rw [cel_obj hk (by decide)]; rfl), mset_row] at hP1
  exact k H1 locs1 ls hP1 hS1 hl
theorem gf_X6_70 (hX : OkX V E RX6 cc n lvl) (d : decode cc pc = .ok (.getfield 70, 3)) {k0 : Nat} (hk : okd k0 = 4) (k : G V E μ (pc + 3) L (vi (μ k0 3) :: st)) : G V E μ pc L (vr V k0 :: st) := by
  intro H locs ls hP hS hl
  exact va_getN (D := V.1) (ci := 4) (v := vi (μ k0 3)) (C := RX4) (T := TX4) (N := 8) (fs := obF V 4 k0 (μ k0)) hX.1 hX.2.1 hX.2.2.2.2.1 inX4 hX.2.2.2.1 hX.2.2.2.2.2.2.1 hP k0 (by rw [wld_at (okd_alen (k := k0) (by rw [hk]; decide)).1, cel_obj hk (by decide)]) rfl 3 (by decide) (va_Nw.use rfl (hX.2.2.2.2.2.1 _ tn_115)) (fun _ h9 => h9) rfl d (k H locs ls hP hS hl)
theorem pf_X6_70 (hX : OkX V E RX6 cc n lvl) (d : decode cc pc = .ok (.putfield 70, 3)) {k0 : Nat} (hk : okd k0 = 4) {z : Int}  (k : G V E (mset μ k0 3 z) (pc + 3) L st) : G V E μ pc L (vi z :: vr V k0 :: st) := by
  intro H locs ls hP hS hl
  refine va_putN (D := V.1) (ci := 4) (v := vi z) (ty := .int) (C := RX4) (T := TX4) (N := 8) (fs := obF V 4 k0 (μ k0)) hX.1 hX.2.1 hX.2.2.2.2.1 inX4 tyX4 tyX4_ok nmX4 hX.2.2.2.1 hX.2.2.2.2.2.2.1 hP (wld_D hX.2.2.2.2.2.2.2.1 hX.2.2.2.2.2.2.2.2.1 μ) hS k0 (by rw [wld_at (okd_alen (k := k0) (by rw [hk]; decide)).1, cel_obj hk (by decide)]) rfl 3 (by decide) (va_Nw.use rfl (hX.2.2.2.2.2.1 _ tn_115)) (fun _ h9 => h9) rfl (by decide +kernel) rfl rfl (Nat.le_of_ble_eq_true rfl) d (fun H1 locs1 hP1 _ hS1 => ?_)
  rw [wld_set (fun j' => if j' = 3 then z else μ k0 j') _ (by rw [cel_obj hk (by decide)]; rfl), mset_row] at hP1
  exact k H1 locs1 ls hP1 hS1 hl
theorem gf_X4_9 (hX : OkX V E RX4 cc n lvl) (d : decode cc pc = .ok (.getfield 9, 3)) {k0 : Nat} (hk : okd k0 = 4) (k : G V E μ (pc + 3) L (vi (μ k0 4) :: st)) : G V E μ pc L (vr V k0 :: st) := by
  intro H locs ls hP hS hl
  exact va_get (D := V.1) (ci := 4) (v := vi (μ k0 4)) (C := RX4) (T := TX4) (N := 8) (fs := obF V 4 k0 (μ k0)) hX.1 hX.2.1 hX.2.2.2.2.1 inX4 hX.2.2.2.1 hX.2.2.2.2.2.2.1 hP k0 (by rw [wld_at (okd_alen (k := k0) (by rw [hk]; decide)).1, cel_obj hk (by decide)]) rfl 4 (by decide) (hX.2.2.2.2.1 _ tw_116) (fun _ h9 => h9) rfl d (k H locs ls hP hS hl)
theorem pf_X4_9 (hX : OkX V E RX4 cc n lvl) (d : decode cc pc = .ok (.putfield 9, 3)) {k0 : Nat} (hk : okd k0 = 4) {z : Int}  (k : G V E (mset μ k0 4 z) (pc + 3) L st) : G V E μ pc L (vi z :: vr V k0 :: st) := by
  intro H locs ls hP hS hl
  refine va_put (D := V.1) (ci := 4) (v := vi z) (ty := .int) (C := RX4) (T := TX4) (N := 8) (fs := obF V 4 k0 (μ k0)) hX.1 hX.2.1 hX.2.2.2.2.1 inX4 tyX4 tyX4_ok nmX4 hX.2.2.2.1 hX.2.2.2.2.2.2.1 hP (wld_D hX.2.2.2.2.2.2.2.1 hX.2.2.2.2.2.2.2.2.1 μ) hS k0 (by rw [wld_at (okd_alen (k := k0) (by rw [hk]; decide)).1, cel_obj hk (by decide)]) rfl 4 (by decide) (hX.2.2.2.2.1 _ tw_116) (fun _ h9 => h9) rfl (by decide +kernel) rfl rfl (Nat.le_of_ble_eq_true rfl) d (fun H1 locs1 hP1 _ hS1 => ?_)
  rw [wld_set (fun j' => if j' = 4 then z else μ k0 j') _ (by rw [cel_obj hk (by decide)]; rfl), mset_row] at hP1
  exact k H1 locs1 ls hP1 hS1 hl
theorem gf_X6_133 (hX : OkX V E RX6 cc n lvl) (d : decode cc pc = .ok (.getfield 133, 3)) {k0 : Nat} (hk : okd k0 = 4) (k : G V E μ (pc + 3) L (vi (μ k0 4) :: st)) : G V E μ pc L (vr V k0 :: st) := by
  intro H locs ls hP hS hl
  exact va_getN (D := V.1) (ci := 4) (v := vi (μ k0 4)) (C := RX4) (T := TX4) (N := 8) (fs := obF V 4 k0 (μ k0)) hX.1 hX.2.1 hX.2.2.2.2.1 inX4 hX.2.2.2.1 hX.2.2.2.2.2.2.1 hP k0 (by rw [wld_at (okd_alen (k := k0) (by rw [hk]; decide)).1, cel_obj hk (by decide)]) rfl 4 (by decide) (va_Nw.use rfl (hX.2.2.2.2.2.1 _ tn_117)) (fun _ h9 => h9) rfl d (k H locs ls hP hS hl)
theorem pf_X6_133 (hX : OkX V E RX6 cc n lvl) (d : decode cc pc = .ok (.putfield 133, 3)) {k0 : Nat} (hk : okd k0 = 4) {z : Int}  (k : G V E (mset μ k0 4 z) (pc + 3) L st) : G V E μ pc L (vi z :: vr V k0 :: st) := by
  intro H locs ls hP hS hl
  refine va_putN (D := V.1) (ci := 4) (v := vi z) (ty := .int) (C := RX4) (T := TX4) (N := 8) (fs := obF V 4 k0 (μ k0)) hX.1 hX.2.1 hX.2.2.2.2.1 inX4 tyX4 tyX4_ok nmX4 hX.2.2.2.1 hX.2.2.2.2.2.2.1 hP (wld_D hX.2.2.2.2.2.2.2.1 hX.2.2.2.2.2.2.2.2.1 μ) hS k0 (by rw [wld_at (okd_alen (k := k0) (by rw [hk]; decide)).1, cel_obj hk (by decide)]) rfl 4 (by decide) (va_Nw.use rfl (hX.2.2.2.2.2.1 _ tn_117)) (fun _ h9 => h9) rfl (by decide +kernel) rfl rfl (Nat.le_of_ble_eq_true rfl) d (fun H1 locs1 hP1 _ hS1 => ?_)
  rw [wld_set (fun j' => if j' = 4 then z else μ k0 j') _ (by rw [cel_obj hk (by decide)]; rfl), mset_row] at hP1
  exact k H1 locs1 ls hP1 hS1 hl
theorem gf_X4_15 (hX : OkX V E RX4 cc n lvl) (d : decode cc pc = .ok (.getfield 15, 3)) {k0 : Nat} (hk : okd k0 = 4) (k : G V E μ (pc + 3) L (vi (μ k0 5) :: st)) : G V E μ pc L (vr V k0 :: st) := by
  intro H locs ls hP hS hl
  exact va_get (D := V.1) (ci := 4) (v := vi (μ k0 5)) (C := RX4) (T := TX4) (N := 8) (fs := obF V 4 k0 (μ k0)) hX.1 hX.2.1 hX.2.2.2.2.1 inX4 hX.2.2.2.1 hX.2.2.2.2.2.2.1 hP k0 (by rw [wld_at (okd_alen (k := k0) (by rw [hk]; decide)).1, cel_obj hk (by decide)]) rfl 5 (by decide) (hX.2.2.2.2.1 _ tw_118) (fun _ h9 => h9) rfl d (k H locs ls hP hS hl)
theorem pf_X4_15 (hX : OkX V E RX4 cc n lvl) (d : decode cc pc = .ok (.putfield 15, 3)) {k0 : Nat} (hk : okd k0 = 4) {z : Int}  (k : G V E (mset μ k0 5 z) (pc + 3) L st) : G V E μ pc L (vi z :: vr V k0 :: st) := by
  intro H locs ls hP hS hl
  refine va_put (D := V.1) (ci := 4) (v := vi z) (ty := .int) (C := RX4) (T := TX4) (N := 8) (fs := obF V 4 k0 (μ k0)) hX.1 hX.2.1 hX.2.2.2.2.1 inX4 tyX4 tyX4_ok nmX4 hX.2.2.2.1 hX.2.2.2.2.2.2.1 hP (wld_D hX.2.2.2.2.2.2.2.1 hX.2.2.2.2.2.2.2.2.1 μ) hS k0 (by rw [wld_at (okd_alen (k := k0) (by rw [hk]; decide)).1, cel_obj hk (by decide)]) rfl 5 (by decide) (hX.2.2.2.2.1 _ tw_118) (fun _ h9 => h9) rfl (by decide +kernel) rfl rfl (Nat.le_of_ble_eq_true rfl) d (fun H1 locs1 hP1 _ hS1 => ?_)
  rw [wld_set (fun j' => if j' = 5 then z else μ k0 j') _ (by rw [cel_obj hk (by decide)]; rfl), mset_row] at hP1
  exact k H1 locs1 ls hP1 hS1 hl
theorem gf_X6_136 (hX : OkX V E RX6 cc n lvl) (d : decode cc pc = .ok (.getfield 136, 3)) {k0 : Nat} (hk : okd k0 = 4) (k : G V E μ (pc + 3) L (vi (μ k0 5) :: st)) : G V E μ pc L (vr V k0 :: st) := by
  intro H locs ls hP hS hl
  exact va_getN (D := V.1) (ci := 4) (v := vi (μ k0 5)) (C := RX4) (T := TX4) (N := 8) (fs := obF V 4 k0 (μ k0)) hX.1 hX.2.1 hX.2.2.2.2.1 inX4 hX.2.2.2.1 hX.2.2.2.2.2.2.1 hP k0 (by rw [wld_at (okd_alen (k := k0) (by rw [hk]; decide)).1, cel_obj hk (by decide)]) rfl 5 (by decide) (va_Nw.use rfl (hX.2.2.2.2.2.1 _ tn_119)) (fun _ h9 => h9) rfl d (k H locs ls hP hS hl)
theorem pf_X6_136 (hX : OkX V E RX6 cc n lvl) (d : decode cc pc = .ok (.putfield 136, 3)) {k0 : Nat} (hk : okd k0 = 4) {z : Int}  (k : G V E (mset μ k0 5 z) (pc + 3) L st) : G V E μ pc L (vi z :: vr V k0 :: st) := by
  intro H locs ls hP hS hl
  refine va_putN (D := V.1) (ci := 4) (v := vi z) (ty := .int) (C := RX4) (T := TX4) (N := 8) (fs := obF V 4 k0 (μ k0)) hX.1 hX.2.1 hX.2.2.2.2.1 inX4 tyX4 tyX4_ok nmX4 hX.2.2.2.1 hX.2.2.2.2.2.2.1 hP (wld_D hX.2.2.2.2.2.2.2.1 hX.2.2.2.2.2.2.2.2.1 μ) hS k0 (by rw [wld_at (okd_alen (k := k0) (by rw [hk]; decide)).1, cel_obj hk (by decide)]) rfl 5 (by decide) (va_Nw.use rfl (hX.2.2.2.2.2.1 _ tn_119)) (fun _ h9 => h9) rfl (by decide +kernel) rfl rfl (Nat.le_of_ble_eq_true rfl) d (fun H1 locs1 hP1 _ hS1 => ?_)
  rw [wld_set (fun j' => if j' = 5 then z else μ k0 j') _ (by rw [cel_obj hk (by decide)]; rfl), mset_row] at hP1
  exact k H1 locs1 ls hP1 hS1 hl
theorem gf_X6_143 (hX : OkX V E RX6 cc n lvl) (d : decode cc pc = .ok (.getfield 143, 3)) {k0 : Nat} (hk : okd k0 = 4) (k : G V E μ (pc + 3) L (vi (μ k0 6) :: st)) : G V E μ pc L (vr V k0 :: st) := by
  intro H locs ls hP hS hl
  exact va_getN (D := V.1) (ci := 4) (v := vi (μ k0 6)) (C := RX4) (T := TX4) (N := 8) (fs := obF V 4 k0 (μ k0)) hX.1 hX.2.1 hX.2.2.2.2.1 inX4 hX.2.2.2.1 hX.2.2.2.2.2.2.1 hP k0 (by rw [wld_at (okd_alen (k := k0) (by rw [hk]; decide)).1, cel_obj hk (by decide)]) rfl 6 (by decide) (va_Nw.use rfl (hX.2.2.2.2.2.1 _ tn_120)) (fun _ h9 => h9) rfl d (k H locs ls hP hS hl)
theorem pf_X6_143 (hX : OkX V E RX6 cc n lvl) (d : decode cc pc = .ok (.putfield 143, 3)) {k0 : Nat} (hk : okd k0 = 4) {z : Int}  (k : G V E (mset μ k0 6 z) (pc + 3) L st) : G V E μ pc L (vi z :: vr V k0 :: st) := by
  intro H locs ls hP hS hl
  refine va_putN (D := V.1) (ci := 4) (v := vi z) (ty := .int) (C := RX4) (T := TX4) (N := 8) (fs := obF V 4 k0 (μ k0)) hX.1 hX.2.1 hX.2.2.2.2.1 inX4 tyX4 tyX4_ok nmX4 hX.2.2.2.1 hX.2.2.2.2.2.2.1 hP (wld_D hX.2.2.2.2.2.2.2.1 hX.2.2.2.2.2.2.2.2.1 μ) hS k0 (by rw [wld_at (okd_alen (k := k0) (by rw [hk]; decide)).1, cel_obj hk (by decide)]) rfl 6 (by decide) (va_Nw.use rfl (hX.2.2.2.2.2.1 _ tn_120)) (fun _ h9 => h9) rfl (by decide +kernel) rfl rfl (Nat.le_of_ble_eq_true rfl) d (fun H1 locs1 hP1 _ hS1 => ?_)
  rw [wld_set (fun j' => if j' = 6 then z else μ k0 j') _ (by rw [cel_obj hk (by decide)]; rfl), mset_row] at hP1
  exact k H1 locs1 ls hP1 hS1 hl
theorem gf_X4_31 (hX : OkX V E RX4 cc n lvl) (d : decode cc pc = .ok (.getfield 31, 3)) {k0 : Nat} (hk : okd k0 = 4) (k : G V E μ (pc + 3) L (vi (μ k0 7) :: st)) : G V E μ pc L (vr V k0 :: st) := by
  intro H locs ls hP hS hl
  exact va_get (D := V.1) (ci := 4) (v := vi (μ k0 7)) (C := RX4) (T := TX4) (N := 8) (fs := obF V 4 k0 (μ k0)) hX.1 hX.2.1 hX.2.2.2.2.1 inX4 hX.2.2.2.1 hX.2.2.2.2.2.2.1 hP k0 (by rw [wld_at (okd_alen (k := k0) (by rw [hk]; decide)).1, cel_obj hk (by decide)]) rfl 7 (by decide) (hX.2.2.2.2.1 _ tw_121) (fun _ h9 => h9) rfl d (k H locs ls hP hS hl)
theorem pf_X4_31 (hX : OkX V E RX4 cc n lvl) (d : decode cc pc = .ok (.putfield 31, 3)) {k0 : Nat} (hk : okd k0 = 4) {z : Int} (hz : z = 0 ∨ z = 1) (k : G V E (mset μ k0 7 z) (pc + 3) L st) : G V E μ pc L (vi z :: vr V k0 :: st) := by
  intro H locs ls hP hS hl
  refine va_put (D := V.1) (ci := 4) (v := vi z) (ty := .boolean) (C := RX4) (T := TX4) (N := 8) (fs := obF V 4 k0 (μ k0)) hX.1 hX.2.1 hX.2.2.2.2.1 inX4 tyX4 tyX4_ok nmX4 hX.2.2.2.1 hX.2.2.2.2.2.2.1 hP (wld_D hX.2.2.2.2.2.2.2.1 hX.2.2.2.2.2.2.2.2.1 μ) hS k0 (by rw [wld_at (okd_alen (k := k0) (by rw [hk]; decide)).1, cel_obj hk (by decide)]) rfl 7 (by decide) (hX.2.2.2.2.1 _ tw_121) (fun _ h9 => h9) rfl (by decide +kernel) (by rcases hz with rfl | rfl <;> rfl) (by rcases hz with rfl | rfl <;> rfl) (Nat.le_of_ble_eq_true rfl) d (fun H1 locs1 hP1 _ hS1 => ?_)
  rw [wld_set (fun j' => if j' = 7 then z else μ k0 j') _ (by rw [cel_obj hk (by decide)]; rfl), mset_row] at hP1
  exact k H1 locs1 ls hP1 hS1 hl
theorem gf_X6_146 (hX : OkX V E RX6 cc n lvl) (d : decode cc pc = .ok (.getfield 146, 3)) {k0 : Nat} (hk : okd k0 = 4) (k : G V E μ (pc + 3) L (vi (μ k0 7) :: st)) : G V E μ pc L (vr V k0 :: st) := by
  intro H locs ls hP hS hl
  exact va_getN (D := V.1) (ci := 4) (v := vi (μ k0 7)) (C := RX4) (T := TX4) (N := 8) (fs := obF V 4 k0 (μ k0)) hX.1 hX.2.1 hX.2.2.2.2.1 inX4 hX.2.2.2.1 hX.2.2.2.2.2.2.1 hP k0 (by rw [wld_at (okd_alen (k := k0) (by rw [hk]; decide)).1, cel_obj hk (by decide)]) rfl 7 (by decide) (va_Nw.use rfl (hX.2.2.2.2.2.1 _ tn_122)) (fun _ h9 => h9) rfl d (k H locs ls hP hS hl)
theorem pf_X6_146 (hX : OkX V E RX6 cc n lvl) (d : decode cc pc = .ok (.putfield 146, 3)) {k0 : Nat} (hk : okd k0 = 4) {z : Int} (hz : z = 0 ∨ z = 1) (k : G V E (mset μ k0 7 z) (pc + 3) L st) : G V E μ pc L (vi z :: vr V k0 :: st) := by
  intro H locs ls hP hS hl
  refine va_putN (D := V.1) (ci := 4) (v := vi z) (ty := .boolean) (C := RX4) (T := TX4) (N := 8) (fs := obF V 4 k0 (μ k0)) hX.1 hX.2.1 hX.2.2.2.2.1 inX4 tyX4 tyX4_ok nmX4 hX.2.2.2.1 hX.2.2.2.2.2.2.1 hP (wld_D hX.2.2.2.2.2.2.2.1 hX.2.2.2.2.2.2.2.2.1 μ) hS k0 (by rw [wld_at (okd_alen (k := k0) (by rw [hk]; decide)).1, cel_obj hk (by decide)]) rfl 7 (by decide) (va_Nw.use rfl (hX.2.2.2.2.2.1 _ tn_122)) (fun _ h9 => h9) rfl (by decide +kernel) (by rcases hz with rfl | rfl <;> rfl) (by rcases hz with rfl | rfl <;> rfl) (Nat.le_of_ble_eq_true rfl) d (fun H1 locs1 hP1 _ hS1 => ?_)
  rw [wld_set (fun j' => if j' = 7 then z else μ k0 j') _ (by rw [cel_obj hk (by decide)]; rfl), mset_row] at hP1
  exact k H1 locs1 ls hP1 hS1 hl
theorem gf_X0_15 (hX : OkX V E RX0 cc n lvl) (d : decode cc pc = .ok (.getfield 15, 3)) {k0 : Nat} (hk : okd k0 = 0) (k : G V E μ (pc + 3) L (vi (μ k0 0) :: st)) : G V E μ pc L (vr V k0 :: st) := by
  intro H locs ls hP hS hl
  exact va_get (D := V.1) (ci := 0) (v := vi (μ k0 0)) (C := RX0) (T := TX0) (N := 4) (fs := obF V 0 k0 (μ k0)) hX.1 hX.2.1 hX.2.2.2.2.1 inX0 hX.2.2.2.1 hX.2.2.2.2.2.2.1 hP k0 (by rw [wld_at (okd_alen (k := k0) (by rw [hk]; decide)).1, cel_obj hk (by decide)]) rfl 0 (by decide) (hX.2.2.2.2.1 _ tw_145) (fun _ h9 => h9) rfl d (k H locs ls hP hS hl)
theorem pf_X0_15 (hX : OkX V E RX0 cc n lvl) (d : decode cc pc = .ok (.putfield 15, 3)) {k0 : Nat} (hk : okd k0 = 0) {z : Int}  (k : G V E (mset μ k0 0 z) (pc + 3) L st) : G V E μ pc L (vi z :: vr V k0 :: st) := by
  intro H locs ls hP hS hl
  refine va_put (D := V.1) (ci := 0) (v := vi z) (ty := .int) (C := RX0) (T := TX0) (N := 4) (fs := obF V 0 k0 (μ k0)) hX.1 hX.2.1 hX.2.2.2.2.1 inX0 tyX0 tyX0_ok nmX0 hX.2.2.2.1 hX.2.2.2.2.2.2.1 hP (wld_D hX.2.2.2.2.2.2.2.1 hX.2.2.2.2.2.2.2.2.1 μ) hS k0 (by rw [wld_at (okd_alen (k := k0) (by rw [hk]; decide)).1, cel_obj hk (by decide)]) rfl 0 (by decide) (hX.2.2.2.2.1 _ tw_145) (fun _ h9 => h9) rfl (by decide +kernel) rfl rfl (Nat.le_of_ble_eq_true rfl) d (fun H1 locs1 hP1 _ hS1 => ?_)
  rw [wld_set (fun j' => if j' = 0 then z else μ k0 j') _ (by rw [cel_obj hk (by decide)]; rfl), mset_row] at hP1
  exact k H1 locs1 ls hP1 hS1 hl
theorem gf_X6_96 (hX : OkX V E RX6 cc n lvl) (d : decode cc pc = .ok (.getfield 96, 3)) {k0 : Nat} (hk : okd k0 = 0) (k : G V E μ (pc + 3) L (vi (μ k0 0) :: st)) : G V E μ pc L (vr V k0 :: st) := by
  intro H locs ls hP hS hl
  exact va_getN (D := V.1) (ci := 0) (v := vi (μ k0 0)) (C := RX0) (T := TX0) (N := 4) (fs := obF V 0 k0 (μ k0)) hX.1 hX.2.1 hX.2.2.2.2.1 inX0 hX.2.2.2.1 hX.2.2.2.2.2.2.1 hP k0 (by rw [wld_at (okd_alen (k := k0) (by rw [hk]; decide)).1, cel_obj hk (by decide)]) rfl 0 (by decide) (va_Nw.use rfl (hX.2.2.2.2.2.1 _ tn_146)) (fun _ h9 => h9) rfl d (k H locs ls hP hS hl)
theorem pf_X6_96 (hX : OkX V E RX6 cc n lvl) (d : decode cc pc = .ok (.putfield 96, 3)) {k0 : Nat} (hk : okd k0 = 0) {z : Int}  (k : G V E (mset μ k0 0 z) (pc + 3) L st) : G V E μ pc L (vi z :: vr V k0 :: st) := by
  intro H locs ls hP hS hl
  refine va_putN (D := V.1) (ci := 0) (v := vi z) (ty := .int) (C := RX0) (T := TX0) (N := 4) (fs := obF V 0 k0 (μ k0)) hX.1 hX.2.1 hX.2.2.2.2.1 inX0 tyX0 tyX0_ok nmX0 hX.2.2.2.1 hX.2.2.2.2.2.2.1 hP (wld_D hX.2.2.2.2.2.2.2.1 hX.2.2.2.2.2.2.2.2.1 μ) hS k0 (by rw [wld_at (okd_alen (k := k0) (by rw [hk]; decide)).1, cel_obj hk (by decide)]) rfl 0 (by decide) (va_Nw.use rfl (hX.2.2.2.2.2.1 _ tn_146)) (fun _ h9 => h9) rfl (by decide +kernel) rfl rfl (Nat.le_of_ble_eq_true rfl) d (fun H1 locs1 hP1 _ hS1 => ?_)
  rw [wld_set (fun j' => if j' = 0 then z else μ k0 j') _ (by rw [cel_obj hk (by decide)]; rfl), mset_row] at hP1
  exact k H1 locs1 ls hP1 hS1 hl
theorem gf_X0_9 (hX : OkX V E RX0 cc n lvl) (d : decode cc pc = .ok (.getfield 9, 3)) {k0 : Nat} (hk : okd k0 = 0) (k : G V E μ (pc + 3) L (vi (μ k0 1) :: st)) : G V E μ pc L (vr V k0 :: st) := by
  intro H locs ls hP hS hl
  exact va_get (D := V.1) (ci := 0) (v := vi (μ k0 1)) (C := RX0) (T := TX0) (N := 4) (fs := obF V 0 k0 (μ k0)) hX.1 hX.2.1 hX.2.2.2.2.1 inX0 hX.2.2.2.1 hX.2.2.2.2.2.2.1 hP k0 (by rw [wld_at (okd_alen (k := k0) (by rw [hk]; decide)).1, cel_obj hk (by decide)]) rfl 1 (by decide) (hX.2.2.2.2.1 _ tw_147) (fun _ h9 => h9) rfl d (k H locs ls hP hS hl)
theorem pf_X0_9 (hX : OkX V E RX0 cc n lvl) (d : decode cc pc = .ok (.putfield 9, 3)) {k0 : Nat} (hk : okd k0 = 0) {z : Int}  (k : G V E (mset μ k0 1 z) (pc + 3) L st) : G V E μ pc L (vi z :: vr V k0 :: st) := by
  intro H locs ls hP hS hl
  refine va_put (D := V.1) (ci := 0) (v := vi z) (ty := .int) (C := RX0) (T := TX0) (N := 4) (fs := obF V 0 k0 (μ k0)) hX.1 hX.2.1 hX.2.2.2.2.1 inX0 tyX0 tyX0_ok nmX0 hX.2.2.2.1 hX.2.2.2.2.2.2.1 hP (wld_D hX.2.2.2.2.2.2.2.1 hX.2.2.2.2.2.2.2.2.1 μ) hS k0 (by rw [wld_at (okd_alen (k := k0) (by rw [hk]; decide)).1, cel_obj hk (by decide)]) rfl 1 (by decide) (hX.2.2.2.2.1 _ tw_147) (fun _ h9 => h9) rfl (by decide +kernel) rfl rfl (Nat.le_of_ble_eq_true rfl) d (fun H1 locs1 hP1 _ hS1 => ?_)
  rw [wld_set (fun j' => if j' = 1 then z else μ k0 j') _ (by rw [cel_obj hk (by decide)]; rfl), mset_row] at hP1
  exact k H1 locs1 ls hP1 hS1 hl
theorem gf_X6_243 (hX : OkX V E RX6 cc n lvl) (d : decode cc pc = .ok (.getfield 243, 3)) {k0 : Nat} (hk : okd k0 = 0) (k : G V E μ (pc + 3) L (vi (μ k0 1) :: st)) : G V E μ pc L (vr V k0 :: st) := by
  intro H locs ls hP hS hl
  exact va_getN (D := V.1) (ci := 0) (v := vi (μ k0 1)) (C := RX0) (T := TX0) (N := 4) (fs := obF V 0 k0 (μ k0)) hX.1 hX.2.1 hX.2.2.2.2.1 inX0 hX.2.2.2.1 hX.2.2.2.2.2.2.1 hP k0 (by rw [wld_at (okd_alen (k := k0) (by rw [hk]; decide)).1, cel_obj hk (by decide)]) rfl 1 (by decide) (va_Nw.use rfl (hX.2.2.2.2.2.1 _ tn_148)) (fun _ h9 => h9) rfl d (k H locs ls hP hS hl)
theorem pf_X6_243 (hX : OkX V E RX6 cc n lvl) (d : decode cc pc = .ok (.putfield 243, 3)) {k0 : Nat} (hk : okd k0 = 0) {z : Int}  (k : G V E (mset μ k0 1 z) (pc + 3) L st) : G V E μ pc L (vi z :: vr V k0 :: st) := by
  intro H locs ls hP hS hl
  refine va_putN (D := V.1) (ci := 0) (v := vi z) (ty := .int) (C := RX0) (T := TX0) (N := 4) (fs := obF V 0 k0 (μ k0)) hX.1 hX.2.1 hX.2.2.2.2.1 inX0 tyX0 tyX0_ok nmX0 hX.2.2.2.1 hX.2.2.2.2.2.2.1 hP (wld_D hX.2.2.2.2.2.2.2.1 hX.2.2.2.2.2.2.2.2.1 μ) hS k0 (by rw [wld_at (okd_alen (k := k0) (by rw [hk]; decide)).1, cel_obj hk (by decide)]) rfl 1 (by decide) (va_Nw.use rfl (hX.2.2.2.2.2.1 _ tn_148)) (fun _ h9 => h9) rfl (by decide +kernel) rfl rfl (Nat.le_of_ble_eq_true rfl) d (fun H1 locs1 hP1 _ hS1 => ?_)
  rw [wld_set (fun j' => if j' = 1 then z else μ k0 j') _ (by rw [cel_obj hk (by decide)]; rfl), mset_row] at hP1
  exact k H1 locs1 ls hP1 hS1 hl
theorem gf_X0_21 (hX : OkX V E RX0 cc n lvl) (d : decode cc pc = .ok (.getfield 21, 3)) {k0 : Nat} (hk : okd k0 = 0) (k : G V E μ (pc + 3) L (vi (μ k0 2) :: st)) : G V E μ pc L (vr V k0 :: st) := by
  intro H locs ls hP hS hl
  exact va_get (D := V.1) (ci := 0) (v := vi (μ k0 2)) (C := RX0) (T := TX0) (N := 4) (fs := obF V 0 k0 (μ k0)) hX.1 hX.2.1 hX.2.2.2.2.1 inX0 hX.2.2.2.1 hX.2.2.2.2.2.2.1 hP k0 (by rw [wld_at (okd_alen (k := k0) (by rw [hk]; decide)).1, cel_obj hk (by decide)]) rfl 2 (by decide) (hX.2.2.2.2.1 _ tw_149) (fun _ h9 => h9) rfl d (k H locs ls hP hS hl)
theorem pf_X0_21 (hX : OkX V E RX0 cc n lvl) (d : decode cc pc = .ok (.putfield 21, 3)) {k0 : Nat} (hk : okd k0 = 0) {z : Int}  (k : G V E (mset μ k0 2 z) (pc + 3) L st) : G V E μ pc L (vi z :: vr V k0 :: st) := by
  intro H locs ls hP hS hl
  refine va_put (D := V.1) (ci := 0) (v := vi z) (ty := .int) (C := RX0) (T := TX0) (N := 4) (fs := obF V 0 k0 (μ k0)) hX.1 hX.2.1 hX.2.2.2.2.1 inX0 tyX0 tyX0_ok nmX0 hX.2.2.2.1 hX.2.2.2.2.2.2.1 hP (wld_D hX.2.2.2.2.2.2.2.1 hX.2.2.2.2.2.2.2.2.1 μ) hS k0 (by rw [wld_at (okd_alen (k := k0) (by rw [hk]; decide)).1, cel_obj hk (by decide)]) rfl 2 (by decide) (hX.2.2.2.2.1 _ tw_149) (fun _ h9 => h9) rfl (by decide +kernel) rfl rfl (Nat.le_of_ble_eq_true rfl) d (fun H1 locs1 hP1 _ hS1 => ?_)
  rw [wld_set (fun j' => if j' = 2 then z else μ k0 j') _ (by rw [cel_obj hk (by decide)]; rfl), mset_row] at hP1
  exact k H1 locs1 ls hP1 hS1 hl
theorem gf_X6_127 (hX : OkX V E RX6 cc n lvl) (d : decode cc pc = .ok (.getfield 127, 3)) {k0 : Nat} (hk : okd k0 = 0) (k : G V E μ (pc + 3) L (vi (μ k0 2) :: st)) : G V E μ pc L (vr V k0 :: st) := by
  intro H locs ls hP hS hl
  exact va_getN (D := V.1) (ci := 0) (v := vi (μ k0 2)) (C := RX0) (T := TX0) (N := 4) (fs := obF V 0 k0 (μ k0)) hX.1 hX.2.1 hX.2.2.2.2.1 inX0 hX.2.2.2.1 hX.2.2.2.2.2.2.1 hP k0 (by rw [wld_at (okd_alen (k := k0) (by rw [hk]; decide)).1, cel_obj hk (by decide)]) rfl 2 (by decide) (va_Nw.use rfl (hX.2.2.2.2.2.1 _ tn_150)) (fun _ h9 => h9) rfl d (k H locs ls hP hS hl)
theorem pf_X6_127 (hX : OkX V E RX6 cc n lvl) (d : decode cc pc = .ok (.putfield 127, 3)) {k0 : Nat} (hk : okd k0 = 0) {z : Int}  (k : G V E (mset μ k0 2 z) (pc + 3) L st) : G V E μ pc L (vi z :: vr V k0 :: st) := by
  intro H locs ls hP hS hl
  refine va_putN (D := V.1) (ci := 0) (v := vi z) (ty := .int) (C := RX0) (T := TX0) (N := 4) (fs := obF V 0 k0 (μ k0)) hX.1 hX.2.1 hX.2.2.2.2.1 inX0 tyX0 tyX0_ok nmX0 hX.2.2.2.1 hX.2.2.2.2.2.2.1 hP (wld_D hX.2.2.2.2.2.2.2.1 hX.2.2.2.2.2.2.2.2.1 μ) hS k0 (by rw [wld_at (okd_alen (k := k0) (by rw [hk]; decide)).1, cel_obj hk (by decide)]) rfl 2 (by decide) (va_Nw.use rfl (hX.2.2.2.2.2.1 _ tn_150)) (fun _ h9 => h9) rfl (by decide +kernel) rfl rfl (Nat.le_of_ble_eq_true rfl) d (fun H1 locs1 hP1 _ hS1 => ?_)
  rw [wld_set (fun j' => if j' = 2 then z else μ k0 j') _ (by rw [cel_obj hk (by decide)]; rfl), mset_row] at hP1
  exact k H1 locs1 ls hP1 hS1 hl
theorem gf_X0_18 (hX : OkX V E RX0 cc n lvl) (d : decode cc pc = .ok (.getfield 18, 3)) {k0 : Nat} (hk : okd k0 = 0) (k : G V E μ (pc + 3) L (vi (μ k0 3) :: st)) : G V E μ pc L (vr V k0 :: st) := by
  intro H locs ls hP hS hl
  exact va_get (D := V.1) (ci := 0) (v := vi (μ k0 3)) (C := RX0) (T := TX0) (N := 4) (fs := obF V 0 k0 (μ k0)) hX.1 hX.2.1 hX.2.2.2.2.1 inX0 hX.2.2.2.1 hX.2.2.2.2.2.2.1 hP k0 (by rw [wld_at (okd_alen (k := k0) (by rw [hk]; decide)).1, cel_obj hk (by decide)]) rfl 3 (by decide) (hX.2.2.2.2.1 _ tw_151) (fun _ h9 => h9) rfl d (k H locs ls hP hS hl)
theorem pf_X0_18 (hX : OkX V E RX0 cc n lvl) (d : decode cc pc = .ok (.putfield 18, 3)) {k0 : Nat} (hk : okd k0 = 0) {z : Int}  (k : G V E (mset μ k0 3 z) (pc + 3) L st) : G V E μ pc L (vi z :: vr V k0 :: st) := by
  intro H locs ls hP hS hl
  refine va_put (D := V.1) (ci := 0) (v := vi z) (ty := .int) (C := RX0) (T := TX0) (N := 4) (fs := obF V 0 k0 (μ k0)) hX.1 hX.2.1 hX.2.2.2.2.1 inX0 tyX0 tyX0_ok nmX0 hX.2.2.2.1 hX.2.2.2.2.2.2.1 hP (wld_D hX.2.2.2.2.2.2.2.1 hX.2.2.2.2.2.2.2.2.1 μ) hS k0 (by rw [wld_at (okd_alen (k := k0) (by rw [hk]; decide)).1, cel_obj hk (by decide)]) rfl 3 (by decide) (hX.2.2.2.2.1 _ tw_151) (fun _ h9 => h9) rfl (by decide +kernel) rfl rfl (Nat.le_of_ble_eq_true rfl) d (fun H1 locs1 hP1 _ hS1 => ?_)
  rw [wld_set (fun j' => if j' = 3 then z else μ k0 j') _ (by rw [cel_obj hk (by decide)]; rfl), mset_row] at hP1
  exact k H1 locs1 ls hP1 hS1 hl
theorem gf_X6_130 (hX : OkX V E RX6 cc n lvl) (d : decode cc pc = .ok (.getfield 130, 3)) {k0 : Nat} (hk : okd k0 = 0) (k : G V E μ (pc + 3) L (vi (μ k0 3) :: st)) : G V E μ pc L (vr V k0 :: st) := by
  intro H locs ls hP hS hl
  exact va_getN (D := V.1) (ci := 0) (v := vi (μ k0 3)) (C := RX0) (T := TX0) (N := 4) (fs := obF V 0 k0 (μ k0)) hX.1 hX.2.1 hX.2.2.2.2.1 inX0 hX.2.2.2.1 hX.2.2.2.2.2.2.1 hP k0 (by rw [wld_at (okd_alen (k := k0) (by rw [hk]; decide)).1, cel_obj hk (by decide)]) rfl 3 (by decide) (va_Nw.use rfl (hX.2.2.2.2.2.1 _ tn_152)) (fun _ h9 => h9) rfl d (k H locs ls hP hS hl)
theorem pf_X6_130 (hX : OkX V E RX6 cc n lvl) (d : decode cc pc = .ok (.putfield 130, 3)) {k0 : Nat} (hk : okd k0 = 0) {z : Int}  (k : G V E (mset μ k0 3 z) (pc + 3) L st) : G V E μ pc L (vi z :: vr V k0 :: st) := by
  intro H locs ls hP hS hl
  refine va_putN (D := V.1) (ci := 0) (v := vi z) (ty := .int) (C := RX0) (T := TX0) (N := 4) (fs := obF V 0 k0 (μ k0)) hX.1 hX.2.1 hX.2.2.2.2.1 inX0 tyX0 tyX0_ok nmX0 hX.2.2.2.1 hX.2.2.2.2.2.2.1 hP (wld_D hX.2.2.2.2.2.2.2.1 hX.2.2.2.2.2.2.2.2.1 μ) hS k0 (by rw [wld_at (okd_alen (k := k0) (by rw [hk]; decide)).1, cel_obj hk (by decide)]) rfl 3 (by decide) (va_Nw.use rfl (hX.2.2.2.2.2.1 _ tn_152)) (fun _ h9 => h9) rfl (by decide +kernel) rfl rfl (Nat.le_of_ble_eq_true rfl) d (fun H1 locs1 hP1 _ hS1 => ?_)
  rw [wld_set (fun j' => if j' = 3 then z else μ k0 j') _ (by rw [cel_obj hk (by decide)]; rfl), mset_row] at hP1
  exact k H1 locs1 ls hP1 hS1 hl
theorem gf_X6_11 (hX : OkX V E RX6 cc n lvl) (d : decode cc pc = .ok (.getfield 11, 3))  (k : G V E μ (pc + 3) L (vr V 64 :: st)) : G V E μ pc L (vr V 63 :: st) := by
  intro H locs ls hP hS hl
  exact va_get (D := V.1) (ci := 6) (v := vr V 64) (C := RX6) (T := TX6) (N := 11) (fs := obF V 6 63 (μ 63)) hX.1 hX.2.1 hX.2.2.2.2.1 inX6 hX.2.2.2.1 hX.2.2.2.2.2.2.1 hP 63 (by rw [wld_at (okd_alen (k := 63) (by rw [ok63]; decide)).1, cel_obj ok63 (by decide)]) rfl 0 (by decide) (hX.2.2.2.2.1 _ tw_163) (fun _ h9 => h9) rfl d (k H locs ls hP hS hl)
theorem gf_X6_17 (hX : OkX V E RX6 cc n lvl) (d : decode cc pc = .ok (.getfield 17, 3))  (k : G V E μ (pc + 3) L (vr V 65 :: st)) : G V E μ pc L (vr V 63 :: st) := by
  intro H locs ls hP hS hl
  exact va_get (D := V.1) (ci := 6) (v := vr V 65) (C := RX6) (T := TX6) (N := 11) (fs := obF V 6 63 (μ 63)) hX.1 hX.2.1 hX.2.2.2.2.1 inX6 hX.2.2.2.1 hX.2.2.2.2.2.2.1 hP 63 (by rw [wld_at (okd_alen (k := 63) (by rw [ok63]; decide)).1, cel_obj ok63 (by decide)]) rfl 1 (by decide) (hX.2.2.2.2.1 _ tw_164) (fun _ h9 => h9) rfl d (k H locs ls hP hS hl)
theorem gf_X6_23 (hX : OkX V E RX6 cc n lvl) (d : decode cc pc = .ok (.getfield 23, 3))  (k : G V E μ (pc + 3) L (vr V 66 :: st)) : G V E μ pc L (vr V 63 :: st) := by
  intro H locs ls hP hS hl
  exact va_get (D := V.1) (ci := 6) (v := vr V 66) (C := RX6) (T := TX6) (N := 11) (fs := obF V 6 63 (μ 63)) hX.1 hX.2.1 hX.2.2.2.2.1 inX6 hX.2.2.2.1 hX.2.2.2.2.2.2.1 hP 63 (by rw [wld_at (okd_alen (k := 63) (by rw [ok63]; decide)).1, cel_obj ok63 (by decide)]) rfl 2 (by decide) (hX.2.2.2.2.1 _ tw_165) (fun _ h9 => h9) rfl d (k H locs ls hP hS hl)
theorem gf_X6_30 (hX : OkX V E RX6 cc n lvl) (d : decode cc pc = .ok (.getfield 30, 3))  (k : G V E μ (pc + 3) L (vr V 67 :: st)) : G V E μ pc L (vr V 63 :: st) := by
  intro H locs ls hP hS hl
  exact va_get (D := V.1) (ci := 6) (v := vr V 67) (C := RX6) (T := TX6) (N := 11) (fs := obF V 6 63 (μ 63)) hX.1 hX.2.1 hX.2.2.2.2.1 inX6 hX.2.2.2.1 hX.2.2.2.2.2.2.1 hP 63 (by rw [wld_at (okd_alen (k := 63) (by rw [ok63]; decide)).1, cel_obj ok63 (by decide)]) rfl 3 (by decide) (hX.2.2.2.2.1 _ tw_166) (fun _ h9 => h9) rfl d (k H locs ls hP hS hl)
theorem gf_X6_37 (hX : OkX V E RX6 cc n lvl) (d : decode cc pc = .ok (.getfield 37, 3))  (k : G V E μ (pc + 3) L (vr V 69 :: st)) : G V E μ pc L (vr V 63 :: st) := by
  intro H locs ls hP hS hl
  exact va_get (D := V.1) (ci := 6) (v := vr V 69) (C := RX6) (T := TX6) (N := 11) (fs := obF V 6 63 (μ 63)) hX.1 hX.2.1 hX.2.2.2.2.1 inX6 hX.2.2.2.1 hX.2.2.2.2.2.2.1 hP 63 (by rw [wld_at (okd_alen (k := 63) (by rw [ok63]; decide)).1, cel_obj ok63 (by decide)]) rfl 4 (by decide) (hX.2.2.2.2.1 _ tw_167) (fun _ h9 => h9) rfl d (k H locs ls hP hS hl)
theorem gf_X6_44 (hX : OkX V E RX6 cc n lvl) (d : decode cc pc = .ok (.getfield 44, 3))  (k : G V E μ (pc + 3) L (vr V 72 :: st)) : G V E μ pc L (vr V 63 :: st) := by
  intro H locs ls hP hS hl
  exact va_get (D := V.1) (ci := 6) (v := vr V 72) (C := RX6) (T := TX6) (N := 11) (fs := obF V 6 63 (μ 63)) hX.1 hX.2.1 hX.2.2.2.2.1 inX6 hX.2.2.2.1 hX.2.2.2.2.2.2.1 hP 63 (by rw [wld_at (okd_alen (k := 63) (by rw [ok63]; decide)).1, cel_obj ok63 (by decide)]) rfl 5 (by decide) (hX.2.2.2.2.1 _ tw_168) (fun _ h9 => h9) rfl d (k H locs ls hP hS hl)
theorem gf_X6_59 (hX : OkX V E RX6 cc n lvl) (d : decode cc pc = .ok (.getfield 59, 3))  (k : G V E μ (pc + 3) L (vi (μ 63 6) :: st)) : G V E μ pc L (vr V 63 :: st) := by
  intro H locs ls hP hS hl
  exact va_get (D := V.1) (ci := 6) (v := vi (μ 63 6)) (C := RX6) (T := TX6) (N := 11) (fs := obF V 6 63 (μ 63)) hX.1 hX.2.1 hX.2.2.2.2.1 inX6 hX.2.2.2.1 hX.2.2.2.2.2.2.1 hP 63 (by rw [wld_at (okd_alen (k := 63) (by rw [ok63]; decide)).1, cel_obj ok63 (by decide)]) rfl 6 (by decide) (hX.2.2.2.2.1 _ tw_169) (fun _ h9 => h9) rfl d (k H locs ls hP hS hl)
theorem pf_X6_59 (hX : OkX V E RX6 cc n lvl) (d : decode cc pc = .ok (.putfield 59, 3))  {z : Int}  (k : G V E (mset μ 63 6 z) (pc + 3) L st) : G V E μ pc L (vi z :: vr V 63 :: st) := by
  intro H locs ls hP hS hl
  refine va_put (D := V.1) (ci := 6) (v := vi z) (ty := .int) (C := RX6) (T := TX6) (N := 11) (fs := obF V 6 63 (μ 63)) hX.1 hX.2.1 hX.2.2.2.2.1 inX6 tyX6 tyX6_ok nmX6 hX.2.2.2.1 hX.2.2.2.2.2.2.1 hP (wld_D hX.2.2.2.2.2.2.2.1 hX.2.2.2.2.2.2.2.2.1 μ) hS 63 (by rw [wld_at (okd_alen (k := 63) (by rw [ok63]; decide)).1, cel_obj ok63 (by decide)]) rfl 6 (by decide) (hX.2.2.2.2.1 _ tw_169) (fun _ h9 => h9) rfl (by decide +kernel) rfl rfl (Nat.le_of_ble_eq_true rfl) d (fun H1 locs1 hP1 _ hS1 => ?_)
  rw [wld_set (fun j' => if j' = 6 then z else μ 63 j') _ (by rw [cel_obj ok63 (by decide)]; rfl), mset_row] at hP1
  exact k H1 locs1 ls hP1 hS1 hl
theorem gf_X6_117 (hX : OkX V E RX6 cc n lvl) (d : decode cc pc = .ok (.getfield 117, 3))  (k : G V E μ (pc + 3) L (vi (μ 63 7) :: st)) : G V E μ pc L (vr V 63 :: st) := by
  intro H locs ls hP hS hl
  exact va_get (D := V.1) (ci := 6) (v := vi (μ 63 7)) (C := RX6) (T := TX6) (N := 11) (fs := obF V 6 63 (μ 63)) hX.1 hX.2.1 hX.2.2.2.2.1 inX6 hX.2.2.2.1 hX.2.2.2.2.2.2.1 hP 63 (by rw [wld_at (okd_alen (k := 63) (by rw [ok63]; decide)).1, cel_obj ok63 (by decide)]) rfl 7 (by decide) (hX.2.2.2.2.1 _ tw_170) (fun _ h9 => h9) rfl d (k H locs ls hP hS hl)
theorem pf_X6_117 (hX : OkX V E RX6 cc n lvl) (d : decode cc pc = .ok (.putfield 117, 3))  {z : Int}  (k : G V E (mset μ 63 7 z) (pc + 3) L st) : G V E μ pc L (vi z :: vr V 63 :: st) := by
  intro H locs ls hP hS hl
  refine va_put (D := V.1) (ci := 6) (v := vi z) (ty := .int) (C := RX6) (T := TX6) (N := 11) (fs := obF V 6 63 (μ 63)) hX.1 hX.2.1 hX.2.2.2.2.1 inX6 tyX6 tyX6_ok nmX6 hX.2.2.2.1 hX.2.2.2.2.2.2.1 hP (wld_D hX.2.2.2.2.2.2.2.1 hX.2.2.2.2.2.2.2.2.1 μ) hS 63 (by rw [wld_at (okd_alen (k := 63) (by rw [ok63]; decide)).1, cel_obj ok63 (by decide)]) rfl 7 (by decide) (hX.2.2.2.2.1 _ tw_170) (fun _ h9 => h9) rfl (by decide +kernel) rfl rfl (Nat.le_of_ble_eq_true rfl) d (fun H1 locs1 hP1 _ hS1 => ?_)
  rw [wld_set (fun j' => if j' = 7 then z else μ 63 j') _ (by rw [cel_obj ok63 (by decide)]; rfl), mset_row] at hP1
  exact k H1 locs1 ls hP1 hS1 hl
theorem gf_X6_216 (hX : OkX V E RX6 cc n lvl) (d : decode cc pc = .ok (.getfield 216, 3))  (k : G V E μ (pc + 3) L (vi (μ 63 8) :: st)) : G V E μ pc L (vr V 63 :: st) := by
  intro H locs ls hP hS hl
  exact va_get (D := V.1) (ci := 6) (v := vi (μ 63 8)) (C := RX6) (T := TX6) (N := 11) (fs := obF V 6 63 (μ 63)) hX.1 hX.2.1 hX.2.2.2.2.1 inX6 hX.2.2.2.1 hX.2.2.2.2.2.2.1 hP 63 (by rw [wld_at (okd_alen (k := 63) (by rw [ok63]; decide)).1, cel_obj ok63 (by decide)]) rfl 8 (by decide) (hX.2.2.2.2.1 _ tw_171) (fun _ h9 => h9) rfl d (k H locs ls hP hS hl)
theorem pf_X6_216 (hX : OkX V E RX6 cc n lvl) (d : decode cc pc = .ok (.putfield 216, 3))  {z : Int}  (k : G V E (mset μ 63 8 z) (pc + 3) L st) : G V E μ pc L (vi z :: vr V 63 :: st) := by
  intro H locs ls hP hS hl
  refine va_put (D := V.1) (ci := 6) (v := vi z) (ty := .int) (C := RX6) (T := TX6) (N := 11) (fs := obF V 6 63 (μ 63)) hX.1 hX.2.1 hX.2.2.2.2.1 inX6 tyX6 tyX6_ok nmX6 hX.2.2.2.1 hX.2.2.2.2.2.2.1 hP (wld_D hX.2.2.2.2.2.2.2.1 hX.2.2.2.2.2.2.2.2.1 μ) hS 63 (by rw [wld_at (okd_alen (k := 63) (by rw [ok63]; decide)).1, cel_obj ok63 (by decide)]) rfl 8 (by decide) (hX.2.2.2.2.1 _ tw_171) (fun _ h9 => h9) rfl (by decide +kernel) rfl rfl (Nat.le_of_ble_eq_true rfl) d (fun H1 locs1 hP1 _ hS1 => ?_)
  rw [wld_set (fun j' => if j' = 8 then z else μ 63 j') _ (by rw [cel_obj ok63 (by decide)]; rfl), mset_row] at hP1
  exact k H1 locs1 ls hP1 hS1 hl
theorem gf_X6_111 (hX : OkX V E RX6 cc n lvl) (d : decode cc pc = .ok (.getfield 111, 3))  (k : G V E μ (pc + 3) L (vi (μ 63 9) :: st)) : G V E μ pc L (vr V 63 :: st) := by
  intro H locs ls hP hS hl
  exact va_get (D := V.1) (ci := 6) (v := vi (μ 63 9)) (C := RX6) (T := TX6) (N := 11) (fs := obF V 6 63 (μ 63)) hX.1 hX.2.1 hX.2.2.2.2.1 inX6 hX.2.2.2.1 hX.2.2.2.2.2.2.1 hP 63 (by rw [wld_at (okd_alen (k := 63) (by rw [ok63]; decide)).1, cel_obj ok63 (by decide)]) rfl 9 (by decide) (hX.2.2.2.2.1 _ tw_172) (fun _ h9 => h9) rfl d (k H locs ls hP hS hl)
theorem pf_X6_111 (hX : OkX V E RX6 cc n lvl) (d : decode cc pc = .ok (.putfield 111, 3))  {z : Int}  (k : G V E (mset μ 63 9 z) (pc + 3) L st) : G V E μ pc L (vi z :: vr V 63 :: st) := by
  intro H locs ls hP hS hl
  refine va_put (D := V.1) (ci := 6) (v := vi z) (ty := .int) (C := RX6) (T := TX6) (N := 11) (fs := obF V 6 63 (μ 63)) hX.1 hX.2.1 hX.2.2.2.2.1 inX6 tyX6 tyX6_ok nmX6 hX.2.2.2.1 hX.2.2.2.2.2.2.1 hP (wld_D hX.2.2.2.2.2.2.2.1 hX.2.2.2.2.2.2.2.2.1 μ) hS 63 (by rw [wld_at (okd_alen (k := 63) (by rw [ok63]; decide)).1, cel_obj ok63 (by decide)]) rfl 9 (by decide) (hX.2.2.2.2.1 _ tw_172) (fun _ h9 => h9) rfl (by decide +kernel) rfl rfl (Nat.le_of_ble_eq_true rfl) d (fun H1 locs1 hP1 _ hS1 => ?_)
  rw [wld_set (fun j' => if j' = 9 then z else μ 63 j') _ (by rw [cel_obj ok63 (by decide)]; rfl), mset_row] at hP1
  exact k H1 locs1 ls hP1 hS1 hl
theorem gf_X6_51 (hX : OkX V E RX6 cc n lvl) (d : decode cc pc = .ok (.getfield 51, 3))  (k : G V E μ (pc + 3) L (vi (μ 63 10) :: st)) : G V E μ pc L (vr V 63 :: st) := by
  intro H locs ls hP hS hl
  exact va_get (D := V.1) (ci := 6) (v := vi (μ 63 10)) (C := RX6) (T := TX6) (N := 11) (fs := obF V 6 63 (μ 63)) hX.1 hX.2.1 hX.2.2.2.2.1 inX6 hX.2.2.2.1 hX.2.2.2.2.2.2.1 hP 63 (by rw [wld_at (okd_alen (k := 63) (by rw [ok63]; decide)).1, cel_obj ok63 (by decide)]) rfl 10 (by decide) (hX.2.2.2.2.1 _ tw_173) (fun _ h9 => h9) rfl d (k H locs ls hP hS hl)
theorem pf_X6_51 (hX : OkX V E RX6 cc n lvl) (d : decode cc pc = .ok (.putfield 51, 3))  {z : Int}  (k : G V E (mset μ 63 10 z) (pc + 3) L st) : G V E μ pc L (vi z :: vr V 63 :: st) := by
  intro H locs ls hP hS hl
  refine va_put (D := V.1) (ci := 6) (v := vi z) (ty := .int) (C := RX6) (T := TX6) (N := 11) (fs := obF V 6 63 (μ 63)) hX.1 hX.2.1 hX.2.2.2.2.1 inX6 tyX6 tyX6_ok nmX6 hX.2.2.2.1 hX.2.2.2.2.2.2.1 hP (wld_D hX.2.2.2.2.2.2.2.1 hX.2.2.2.2.2.2.2.2.1 μ) hS 63 (by rw [wld_at (okd_alen (k := 63) (by rw [ok63]; decide)).1, cel_obj ok63 (by decide)]) rfl 10 (by decide) (hX.2.2.2.2.1 _ tw_173) (fun _ h9 => h9) rfl (by decide +kernel) rfl rfl (Nat.le_of_ble_eq_true rfl) d (fun H1 locs1 hP1 _ hS1 => ?_)
  rw [wld_set (fun j' => if j' = 10 then z else μ 63 j') _ (by rw [cel_obj ok63 (by decide)]; rfl), mset_row] at hP1
  exact k H1 locs1 ls hP1 hS1 hl
theorem gf_X7_93 (hX : OkX V E RX7 cc n lvl) (d : decode cc pc = .ok (.getfield 93, 3))  (k : G V E μ (pc + 3) L (vi (μ 76 0) :: st)) : G V E μ pc L (vr V 76 :: st) := by
  intro H locs ls hP hS hl
  exact va_get (D := V.1) (ci := 7) (v := vi (μ 76 0)) (C := RX7) (T := TX7) (N := 34) (fs := obF V 7 76 (μ 76)) hX.1 hX.2.1 hX.2.2.2.2.1 inX7 hX.2.2.2.1 hX.2.2.2.2.2.2.1 hP 76 (by rw [wld_at (okd_alen (k := 76) (by rw [ok76]; decide)).1, cel_obj ok76 (by decide)]) rfl 0 (by decide) (hX.2.2.2.2.1 _ tw_483) (fun _ h9 => h9) rfl d (k H locs ls hP hS hl)
theorem pf_X7_93 (hX : OkX V E RX7 cc n lvl) (d : decode cc pc = .ok (.putfield 93, 3))  {z : Int}  (k : G V E (mset μ 76 0 z) (pc + 3) L st) : G V E μ pc L (vi z :: vr V 76 :: st) := by
  intro H locs ls hP hS hl
  refine va_put (D := V.1) (ci := 7) (v := vi z) (ty := .int) (C := RX7) (T := TX7) (N := 34) (fs := obF V 7 76 (μ 76)) hX.1 hX.2.1 hX.2.2.2.2.1 inX7 tyX7 tyX7_ok nmX7 hX.2.2.2.1 hX.2.2.2.2.2.2.1 hP (wld_D hX.2.2.2.2.2.2.2.1 hX.2.2.2.2.2.2.2.2.1 μ) hS 76 (by rw [wld_at (okd_alen (k := 76) (by rw [ok76]; decide)).1, cel_obj ok76 (by decide)]) rfl 0 (by decide) (hX.2.2.2.2.1 _ tw_483) (fun _ h9 => h9) rfl (by decide +kernel) rfl rfl (Nat.le_of_ble_eq_true rfl) d (fun H1 locs1 hP1 _ hS1 => ?_)
  rw [wld_set (fun j' => if j' = 0 then z else μ 76 j') _ (by rw [cel_obj ok76 (by decide)]; rfl), mset_row] at hP1
  exact k H1 locs1 ls hP1 hS1 hl
theorem gf_X7_7 (hX : OkX V E RX7 cc n lvl) (d : decode cc pc = .ok (.getfield 7, 3))  (k : G V E μ (pc + 3) L (vr V 77 :: st)) : G V E μ pc L (vr V 76 :: st) := by
  intro H locs ls hP hS hl
  exact va_get (D := V.1) (ci := 7) (v := vr V 77) (C := RX7) (T := TX7) (N := 34) (fs := obF V 7 76 (μ 76)) hX.1 hX.2.1 hX.2.2.2.2.1 inX7 hX.2.2.2.1 hX.2.2.2.2.2.2.1 hP 76 (by rw [wld_at (okd_alen (k := 76) (by rw [ok76]; decide)).1, cel_obj ok76 (by decide)]) rfl 1 (by decide) (hX.2.2.2.2.1 _ tw_484) (fun _ h9 => h9) rfl d (k H locs ls hP hS hl)
theorem gf_X7_13 (hX : OkX V E RX7 cc n lvl) (d : decode cc pc = .ok (.getfield 13, 3))  (k : G V E μ (pc + 3) L (vr V 78 :: st)) : G V E μ pc L (vr V 76 :: st) := by
  intro H locs ls hP hS hl
  exact va_get (D := V.1) (ci := 7) (v := vr V 78) (C := RX7) (T := TX7) (N := 34) (fs := obF V 7 76 (μ 76)) hX.1 hX.2.1 hX.2.2.2.2.1 inX7 hX.2.2.2.1 hX.2.2.2.2.2.2.1 hP 76 (by rw [wld_at (okd_alen (k := 76) (by rw [ok76]; decide)).1, cel_obj ok76 (by decide)]) rfl 2 (by decide) (hX.2.2.2.2.1 _ tw_485) (fun _ h9 => h9) rfl d (k H locs ls hP hS hl)
theorem gf_X7_16 (hX : OkX V E RX7 cc n lvl) (d : decode cc pc = .ok (.getfield 16, 3))  (k : G V E μ (pc + 3) L (vr V 79 :: st)) : G V E μ pc L (vr V 76 :: st) := by
  intro H locs ls hP hS hl
  exact va_get (D := V.1) (ci := 7) (v := vr V 79) (C := RX7) (T := TX7) (N := 34) (fs := obF V 7 76 (μ 76)) hX.1 hX.2.1 hX.2.2.2.2.1 inX7 hX.2.2.2.1 hX.2.2.2.2.2.2.1 hP 76 (by rw [wld_at (okd_alen (k := 76) (by rw [ok76]; decide)).1, cel_obj ok76 (by decide)]) rfl 3 (by decide) (hX.2.2.2.2.1 _ tw_486) (fun _ h9 => h9) rfl d (k H locs ls hP hS hl)
theorem gf_X7_19 (hX : OkX V E RX7 cc n lvl) (d : decode cc pc = .ok (.getfield 19, 3))  (k : G V E μ (pc + 3) L (vr V 80 :: st)) : G V E μ pc L (vr V 76 :: st) := by
  intro H locs ls hP hS hl
  exact va_get (D := V.1) (ci := 7) (v := vr V 80) (C := RX7) (T := TX7) (N := 34) (fs := obF V 7 76 (μ 76)) hX.1 hX.2.1 hX.2.2.2.2.1 inX7 hX.2.2.2.1 hX.2.2.2.2.2.2.1 hP 76 (by rw [wld_at (okd_alen (k := 76) (by rw [ok76]; decide)).1, cel_obj ok76 (by decide)]) rfl 4 (by decide) (hX.2.2.2.2.1 _ tw_487) (fun _ h9 => h9) rfl d (k H locs ls hP hS hl)
theorem gf_X7_22 (hX : OkX V E RX7 cc n lvl) (d : decode cc pc = .ok (.getfield 22, 3))  (k : G V E μ (pc + 3) L (vr V 81 :: st)) : G V E μ pc L (vr V 76 :: st) := by
  intro H locs ls hP hS hl
  exact va_get (D := V.1) (ci := 7) (v := vr V 81) (C := RX7) (T := TX7) (N := 34) (fs := obF V 7 76 (μ 76)) hX.1 hX.2.1 hX.2.2.2.2.1 inX7 hX.2.2.2.1 hX.2.2.2.2.2.2.1 hP 76 (by rw [wld_at (okd_alen (k := 76) (by rw [ok76]; decide)).1, cel_obj ok76 (by decide)]) rfl 5 (by decide) (hX.2.2.2.2.1 _ tw_488) (fun _ h9 => h9) rfl d (k H locs ls hP hS hl)
theorem gf_X7_25 (hX : OkX V E RX7 cc n lvl) (d : decode cc pc = .ok (.getfield 25, 3))  (k : G V E μ (pc + 3) L (vr V 82 :: st)) : G V E μ pc L (vr V 76 :: st) := by
  intro H locs ls hP hS hl
  exact va_get (D := V.1) (ci := 7) (v := vr V 82) (C := RX7) (T := TX7) (N := 34) (fs := obF V 7 76 (μ 76)) hX.1 hX.2.1 hX.2.2.2.2.1 inX7 hX.2.2.2.1 hX.2.2.2.2.2.2.1 hP 76 (by rw [wld_at (okd_alen (k := 76) (by rw [ok76]; decide)).1, cel_obj ok76 (by decide)]) rfl 6 (by decide) (hX.2.2.2.2.1 _ tw_489) (fun _ h9 => h9) rfl d (k H locs ls hP hS hl)
theorem gf_X7_28 (hX : OkX V E RX7 cc n lvl) (d : decode cc pc = .ok (.getfield 28, 3))  (k : G V E μ (pc + 3) L (vr V 83 :: st)) : G V E μ pc L (vr V 76 :: st) := by
  intro H locs ls hP hS hl
  exact va_get (D := V.1) (ci := 7) (v := vr V 83) (C := RX7) (T := TX7) (N := 34) (fs := obF V 7 76 (μ 76)) hX.1 hX.2.1 hX.2.2.2.2.1 inX7 hX.2.2.2.1 hX.2.2.2.2.2.2.1 hP 76 (by rw [wld_at (okd_alen (k := 76) (by rw [ok76]; decide)).1, cel_obj ok76 (by decide)]) rfl 7 (by decide) (hX.2.2.2.2.1 _ tw_490) (fun _ h9 => h9) rfl d (k H locs ls hP hS hl)
theorem gf_X7_31 (hX : OkX V E RX7 cc n lvl) (d : decode cc pc = .ok (.getfield 31, 3))  (k : G V E μ (pc + 3) L (vr V 84 :: st)) : G V E μ pc L (vr V 76 :: st) := by
  intro H locs ls hP hS hl
  exact va_get (D := V.1) (ci := 7) (v := vr V 84) (C := RX7) (T := TX7) (N := 34) (fs := obF V 7 76 (μ 76)) hX.1 hX.2.1 hX.2.2.2.2.1 inX7 hX.2.2.2.1 hX.2.2.2.2.2.2.1 hP 76 (by rw [wld_at (okd_alen (k := 76) (by rw [ok76]; decide)).1, cel_obj ok76 (by decide)]) rfl 8 (by decide) (hX.2.2.2.2.1 _ tw_491) (fun _ h9 => h9) rfl d (k H locs ls hP hS hl)
theorem gf_X7_35 (hX : OkX V E RX7 cc n lvl) (d : decode cc pc = .ok (.getfield 35, 3))  (k : G V E μ (pc + 3) L (vr V 85 :: st)) : G V E μ pc L (vr V 76 :: st) := by
  intro H locs ls hP hS hl
  exact va_get (D := V.1) (ci := 7) (v := vr V 85) (C := RX7) (T := TX7) (N := 34) (fs := obF V 7 76 (μ 76)) hX.1 hX.2.1 hX.2.2.2.2.1 inX7 hX.2.2.2.1 hX.2.2.2.2.2.2.1 hP 76 (by rw [wld_at (okd_alen (k := 76) (by rw [ok76]; decide)).1, cel_obj ok76 (by decide)]) rfl 9 (by decide) (hX.2.2.2.2.1 _ tw_492) (fun _ h9 => h9) rfl d (k H locs ls hP hS hl)
theorem gf_X7_38 (hX : OkX V E RX7 cc n lvl) (d : decode cc pc = .ok (.getfield 38, 3))  (k : G V E μ (pc + 3) L (vr V 86 :: st)) : G V E μ pc L (vr V 76 :: st) := by
  intro H locs ls hP hS hl
  exact va_get (D := V.1) (ci := 7) (v := vr V 86) (C := RX7) (T := TX7) (N := 34) (fs := obF V 7 76 (μ 76)) hX.1 hX.2.1 hX.2.2.2.2.1 inX7 hX.2.2.2.1 hX.2.2.2.2.2.2.1 hP 76 (by rw [wld_at (okd_alen (k := 76) (by rw [ok76]; decide)).1, cel_obj ok76 (by decide)]) rfl 10 (by decide) (hX.2.2.2.2.1 _ tw_493) (fun _ h9 => h9) rfl d (k H locs ls hP hS hl)
theorem gf_X7_41 (hX : OkX V E RX7 cc n lvl) (d : decode cc pc = .ok (.getfield 41, 3))  (k : G V E μ (pc + 3) L (vr V 87 :: st)) : G V E μ pc L (vr V 76 :: st) := by
  intro H locs ls hP hS hl
  exact va_get (D := V.1) (ci := 7) (v := vr V 87) (C := RX7) (T := TX7) (N := 34) (fs := obF V 7 76 (μ 76)) hX.1 hX.2.1 hX.2.2.2.2.1 inX7 hX.2.2.2.1 hX.2.2.2.2.2.2.1 hP 76 (by rw [wld_at (okd_alen (k := 76) (by rw [ok76]; decide)).1, cel_obj ok76 (by decide)]) rfl 11 (by decide) (hX.2.2.2.2.1 _ tw_494) (fun _ h9 => h9) rfl d (k H locs ls hP hS hl)
theorem gf_X7_44 (hX : OkX V E RX7 cc n lvl) (d : decode cc pc = .ok (.getfield 44, 3))  (k : G V E μ (pc + 3) L (vr V 88 :: st)) : G V E μ pc L (vr V 76 :: st) := by
  intro H locs ls hP hS hl
  exact va_get (D := V.1) (ci := 7) (v := vr V 88) (C := RX7) (T := TX7) (N := 34) (fs := obF V 7 76 (μ 76)) hX.1 hX.2.1 hX.2.2.2.2.1 inX7 hX.2.2.2.1 hX.2.2.2.2.2.2.1 hP 76 (by rw [wld_at (okd_alen (k := 76) (by rw [ok76]; decide)).1, cel_obj ok76 (by decide)]) rfl 12 (by decide) (hX.2.2.2.2.1 _ tw_495) (fun _ h9 => h9) rfl d (k H locs ls hP hS hl)
theorem gf_X7_47 (hX : OkX V E RX7 cc n lvl) (d : decode cc pc = .ok (.getfield 47, 3))  (k : G V E μ (pc + 3) L (vi (μ 76 13) :: st)) : G V E μ pc L (vr V 76 :: st) := by
  intro H locs ls hP hS hl
  exact va_get (D := V.1) (ci := 7) (v := vi (μ 76 13)) (C := RX7) (T := TX7) (N := 34) (fs := obF V 7 76 (μ 76)) hX.1 hX.2.1 hX.2.2.2.2.1 inX7 hX.2.2.2.1 hX.2.2.2.2.2.2.1 hP 76 (by rw [wld_at (okd_alen (k := 76) (by rw [ok76]; decide)).1, cel_obj ok76 (by decide)]) rfl 13 (by decide) (hX.2.2.2.2.1 _ tw_496) (fun _ h9 => h9) rfl d (k H locs ls hP hS hl)
theorem pf_X7_47 (hX : OkX V E RX7 cc n lvl) (d : decode cc pc = .ok (.putfield 47, 3))  {z : Int}  (k : G V E (mset μ 76 13 z) (pc + 3) L st) : G V E μ pc L (vi z :: vr V 76 :: st) := by
  intro H locs ls hP hS hl
  refine va_put (D := V.1) (ci := 7) (v := vi z) (ty := .int) (C := RX7) (T := TX7) (N := 34) (fs := obF V 7 76 (μ 76)) hX.1 hX.2.1 hX.2.2.2.2.1 inX7 tyX7 tyX7_ok nmX7 hX.2.2.2.1 hX.2.2.2.2.2.2.1 hP (wld_D hX.2.2.2.2.2.2.2.1 hX.2.2.2.2.2.2.2.2.1 μ) hS 76 (by rw [wld_at (okd_alen (k := 76) (by rw [ok76]; decide)).1, cel_obj ok76 (by decide)]) rfl 13 (by decide) (hX.2.2.2.2.1 _ tw_496) (fun _ h9 => h9) rfl (by decide +kernel) rfl rfl (Nat.le_of_ble_eq_true rfl) d (fun H1 locs1 hP1 _ hS1 => ?_)
  rw [wld_set (fun j' => if j' = 13 then z else μ 76 j') _ (by rw [cel_obj ok76 (by decide)]; rfl), mset_row] at hP1
  exact k H1 locs1 ls hP1 hS1 hl
theorem gf_X7_135 (hX : OkX V E RX7 cc n lvl) (d : decode cc pc = .ok (.getfield 135, 3))  (k : G V E μ (pc + 3) L (vi (μ 76 14) :: st)) : G V E μ pc L (vr V 76 :: st) := by
  intro H locs ls hP hS hl
  exact va_get (D := V.1) (ci := 7) (v := vi (μ 76 14)) (C := RX7) (T := TX7) (N := 34) (fs := obF V 7 76 (μ 76)) hX.1 hX.2.1 hX.2.2.2.2.1 inX7 hX.2.2.2.1 hX.2.2.2.2.2.2.1 hP 76 (by rw [wld_at (okd_alen (k := 76) (by rw [ok76]; decide)).1, cel_obj ok76 (by decide)]) rfl 14 (by decide) (hX.2.2.2.2.1 _ tw_497) (fun _ h9 => h9) rfl d (k H locs ls hP hS hl)
theorem pf_X7_135 (hX : OkX V E RX7 cc n lvl) (d : decode cc pc = .ok (.putfield 135, 3))  {z : Int}  (k : G V E (mset μ 76 14 z) (pc + 3) L st) : G V E μ pc L (vi z :: vr V 76 :: st) := by
  intro H locs ls hP hS hl
  refine va_put (D := V.1) (ci := 7) (v := vi z) (ty := .int) (C := RX7) (T := TX7) (N := 34) (fs := obF V 7 76 (μ 76)) hX.1 hX.2.1 hX.2.2.2.2.1 inX7 tyX7 tyX7_ok nmX7 hX.2.2.2.1 hX.2.2.2.2.2.2.1 hP (wld_D hX.2.2.2.2.2.2.2.1 hX.2.2.2.2.2.2.2.2.1 μ) hS 76 (by rw [wld_at (okd_alen (k := 76) (by rw [ok76]; decide)).1, cel_obj ok76 (by decide)]) rfl 14 (by decide) (hX.2.2.2.2.1 _ tw_497) (fun _ h9 => h9) rfl (by decide +kernel) rfl rfl (Nat.le_of_ble_eq_true rfl) d (fun H1 locs1 hP1 _ hS1 => ?_)
  rw [wld_set (fun j' => if j' = 14 then z else μ 76 j') _ (by rw [cel_obj ok76 (by decide)]; rfl), mset_row] at hP1
  exact k H1 locs1 ls hP1 hS1 hl
theorem gf_X7_51 (hX : OkX V E RX7 cc n lvl) (d : decode cc pc = .ok (.getfield 51, 3))  (k : G V E μ (pc + 3) L (vr V 89 :: st)) : G V E μ pc L (vr V 76 :: st) := by
  intro H locs ls hP hS hl
  exact va_get (D := V.1) (ci := 7) (v := vr V 89) (C := RX7) (T := TX7) (N := 34) (fs := obF V 7 76 (μ 76)) hX.1 hX.2.1 hX.2.2.2.2.1 inX7 hX.2.2.2.1 hX.2.2.2.2.2.2.1 hP 76 (by rw [wld_at (okd_alen (k := 76) (by rw [ok76]; decide)).1, cel_obj ok76 (by decide)]) rfl 15 (by decide) (hX.2.2.2.2.1 _ tw_498) (fun _ h9 => h9) rfl d (k H locs ls hP hS hl)
theorem gf_X7_54 (hX : OkX V E RX7 cc n lvl) (d : decode cc pc = .ok (.getfield 54, 3))  (k : G V E μ (pc + 3) L (vr V 90 :: st)) : G V E μ pc L (vr V 76 :: st) := by
  intro H locs ls hP hS hl
  exact va_get (D := V.1) (ci := 7) (v := vr V 90) (C := RX7) (T := TX7) (N := 34) (fs := obF V 7 76 (μ 76)) hX.1 hX.2.1 hX.2.2.2.2.1 inX7 hX.2.2.2.1 hX.2.2.2.2.2.2.1 hP 76 (by rw [wld_at (okd_alen (k := 76) (by rw [ok76]; decide)).1, cel_obj ok76 (by decide)]) rfl 16 (by decide) (hX.2.2.2.2.1 _ tw_499) (fun _ h9 => h9) rfl d (k H locs ls hP hS hl)
theorem gf_X7_185 (hX : OkX V E RX7 cc n lvl) (d : decode cc pc = .ok (.getfield 185, 3))  (k : G V E μ (pc + 3) L (vi (μ 76 17) :: st)) : G V E μ pc L (vr V 76 :: st) := by
  intro H locs ls hP hS hl
  exact va_get (D := V.1) (ci := 7) (v := vi (μ 76 17)) (C := RX7) (T := TX7) (N := 34) (fs := obF V 7 76 (μ 76)) hX.1 hX.2.1 hX.2.2.2.2.1 inX7 hX.2.2.2.1 hX.2.2.2.2.2.2.1 hP 76 (by rw [wld_at (okd_alen (k := 76) (by rw [ok76]; decide)).1, cel_obj ok76 (by decide)]) rfl 17 (by decide) (hX.2.2.2.2.1 _ tw_500) (fun _ h9 => h9) rfl d (k H locs ls hP hS hl)
theorem pf_X7_185 (hX : OkX V E RX7 cc n lvl) (d : decode cc pc = .ok (.putfield 185, 3))  {z : Int}  (k : G V E (mset μ 76 17 z) (pc + 3) L st) : G V E μ pc L (vi z :: vr V 76 :: st) := by
  intro H locs ls hP hS hl
  refine va_put (D := V.1) (ci := 7) (v := vi z) (ty := .int) (C := RX7) (T := TX7) (N := 34) (fs := obF V 7 76 (μ 76)) hX.1 hX.2.1 hX.2.2.2.2.1 inX7 tyX7 tyX7_ok nmX7 hX.2.2.2.1 hX.2.2.2.2.2.2.1 hP (wld_D hX.2.2.2.2.2.2.2.1 hX.2.2.2.2.2.2.2.2.1 μ) hS 76 (by rw [wld_at (okd_alen (k := 76) (by rw [ok76]; decide)).1, cel_obj ok76 (by decide)]) rfl 17 (by decide) (hX.2.2.2.2.1 _ tw_500) (fun _ h9 => h9) rfl (by decide +kernel) rfl rfl (Nat.le_of_ble_eq_true rfl) d (fun H1 locs1 hP1 _ hS1 => ?_)
  rw [wld_set (fun j' => if j' = 17 then z else μ 76 j') _ (by rw [cel_obj ok76 (by decide)]; rfl), mset_row] at hP1
  exact k H1 locs1 ls hP1 hS1 hl
theorem gf_X7_57 (hX : OkX V E RX7 cc n lvl) (d : decode cc pc = .ok (.getfield 57, 3))  (k : G V E μ (pc + 3) L (vr V 91 :: st)) : G V E μ pc L (vr V 76 :: st) := by
  intro H locs ls hP hS hl
  exact va_get (D := V.1) (ci := 7) (v := vr V 91) (C := RX7) (T := TX7) (N := 34) (fs := obF V 7 76 (μ 76)) hX.1 hX.2.1 hX.2.2.2.2.1 inX7 hX.2.2.2.1 hX.2.2.2.2.2.2.1 hP 76 (by rw [wld_at (okd_alen (k := 76) (by rw [ok76]; decide)).1, cel_obj ok76 (by decide)]) rfl 18 (by decide) (hX.2.2.2.2.1 _ tw_501) (fun _ h9 => h9) rfl d (k H locs ls hP hS hl)
theorem gf_X7_197 (hX : OkX V E RX7 cc n lvl) (d : decode cc pc = .ok (.getfield 197, 3))  (k : G V E μ (pc + 3) L (vi (μ 76 19) :: st)) : G V E μ pc L (vr V 76 :: st) := by
  intro H locs ls hP hS hl
  exact va_get (D := V.1) (ci := 7) (v := vi (μ 76 19)) (C := RX7) (T := TX7) (N := 34) (fs := obF V 7 76 (μ 76)) hX.1 hX.2.1 hX.2.2.2.2.1 inX7 hX.2.2.2.1 hX.2.2.2.2.2.2.1 hP 76 (by rw [wld_at (okd_alen (k := 76) (by rw [ok76]; decide)).1, cel_obj ok76 (by decide)]) rfl 19 (by decide) (hX.2.2.2.2.1 _ tw_502) (fun _ h9 => h9) rfl d (k H locs ls hP hS hl)
theorem pf_X7_197 (hX : OkX V E RX7 cc n lvl) (d : decode cc pc = .ok (.putfield 197, 3))  {z : Int}  (k : G V E (mset μ 76 19 z) (pc + 3) L st) : G V E μ pc L (vi z :: vr V 76 :: st) := by
  intro H locs ls hP hS hl
  refine va_put (D := V.1) (ci := 7) (v := vi z) (ty := .int) (C := RX7) (T := TX7) (N := 34) (fs := obF V 7 76 (μ 76)) hX.1 hX.2.1 hX.2.2.2.2.1 inX7 tyX7 tyX7_ok nmX7 hX.2.2.2.1 hX.2.2.2.2.2.2.1 hP (wld_D hX.2.2.2.2.2.2.2.1 hX.2.2.2.2.2.2.2.2.1 μ) hS 76 (by rw [wld_at (okd_alen (k := 76) (by rw [ok76]; decide)).1, cel_obj ok76 (by decide)]) rfl 19 (by decide) (hX.2.2.2.2.1 _ tw_502) (fun _ h9 => h9) rfl (by decide +kernel) rfl rfl (Nat.le_of_ble_eq_true rfl) d (fun H1 locs1 hP1 _ hS1 => ?_)
  rw [wld_set (fun j' => if j' = 19 then z else μ 76 j') _ (by rw [cel_obj ok76 (by decide)]; rfl), mset_row] at hP1
  exact k H1 locs1 ls hP1 hS1 hl
theorem gf_X7_138 (hX : OkX V E RX7 cc n lvl) (d : decode cc pc = .ok (.getfield 138, 3))  (k : G V E μ (pc + 3) L (vi (μ 76 20) :: st)) : G V E μ pc L (vr V 76 :: st) := by
  intro H locs ls hP hS hl
  exact va_get (D := V.1) (ci := 7) (v := vi (μ 76 20)) (C := RX7) (T := TX7) (N := 34) (fs := obF V 7 76 (μ 76)) hX.1 hX.2.1 hX.2.2.2.2.1 inX7 hX.2.2.2.1 hX.2.2.2.2.2.2.1 hP 76 (by rw [wld_at (okd_alen (k := 76) (by rw [ok76]; decide)).1, cel_obj ok76 (by decide)]) rfl 20 (by decide) (hX.2.2.2.2.1 _ tw_503) (fun _ h9 => h9) rfl d (k H locs ls hP hS hl)
theorem pf_X7_138 (hX : OkX V E RX7 cc n lvl) (d : decode cc pc = .ok (.putfield 138, 3))  {z : Int}  (k : G V E (mset μ 76 20 z) (pc + 3) L st) : G V E μ pc L (vi z :: vr V 76 :: st) := by
  intro H locs ls hP hS hl
  refine va_put (D := V.1) (ci := 7) (v := vi z) (ty := .int) (C := RX7) (T := TX7) (N := 34) (fs := obF V 7 76 (μ 76)) hX.1 hX.2.1 hX.2.2.2.2.1 inX7 tyX7 tyX7_ok nmX7 hX.2.2.2.1 hX.2.2.2.2.2.2.1 hP (wld_D hX.2.2.2.2.2.2.2.1 hX.2.2.2.2.2.2.2.2.1 μ) hS 76 (by rw [wld_at (okd_alen (k := 76) (by rw [ok76]; decide)).1, cel_obj ok76 (by decide)]) rfl 20 (by decide) (hX.2.2.2.2.1 _ tw_503) (fun _ h9 => h9) rfl (by decide +kernel) rfl rfl (Nat.le_of_ble_eq_true rfl) d (fun H1 locs1 hP1 _ hS1 => ?_)
  rw [wld_set (fun j' => if j' = 20 then z else μ 76 j') _ (by rw [cel_obj ok76 (by decide)]; rfl), mset_row] at hP1
  exact k H1 locs1 ls hP1 hS1 hl
theorem gf_X7_120 (hX : OkX V E RX7 cc n lvl) (d : decode cc pc = .ok (.getfield 120, 3))  (k : G V E μ (pc + 3) L (vi (μ 76 21) :: st)) : G V E μ pc L (vr V 76 :: st) := by
  intro H locs ls hP hS hl
  exact va_get (D := V.1) (ci := 7) (v := vi (μ 76 21)) (C := RX7) (T := TX7) (N := 34) (fs := obF V 7 76 (μ 76)) hX.1 hX.2.1 hX.2.2.2.2.1 inX7 hX.2.2.2.1 hX.2.2.2.2.2.2.1 hP 76 (by rw [wld_at (okd_alen (k := 76) (by rw [ok76]; decide)).1, cel_obj ok76 (by decide)]) rfl 21 (by decide) (hX.2.2.2.2.1 _ tw_504) (fun _ h9 => h9) rfl d (k H locs ls hP hS hl)
theorem pf_X7_120 (hX : OkX V E RX7 cc n lvl) (d : decode cc pc = .ok (.putfield 120, 3))  {z : Int}  (k : G V E (mset μ 76 21 z) (pc + 3) L st) : G V E μ pc L (vi z :: vr V 76 :: st) := by
  intro H locs ls hP hS hl
  refine va_put (D := V.1) (ci := 7) (v := vi z) (ty := .int) (C := RX7) (T := TX7) (N := 34) (fs := obF V 7 76 (μ 76)) hX.1 hX.2.1 hX.2.2.2.2.1 inX7 tyX7 tyX7_ok nmX7 hX.2.2.2.1 hX.2.2.2.2.2.2.1 hP (wld_D hX.2.2.2.2.2.2.2.1 hX.2.2.2.2.2.2.2.2.1 μ) hS 76 (by rw [wld_at (okd_alen (k := 76) (by rw [ok76]; decide)).1, cel_obj ok76 (by decide)]) rfl 21 (by decide) (hX.2.2.2.2.1 _ tw_504) (fun _ h9 => h9) rfl (by decide +kernel) rfl rfl (Nat.le_of_ble_eq_true rfl) d (fun H1 locs1 hP1 _ hS1 => ?_)
  rw [wld_set (fun j' => if j' = 21 then z else μ 76 j') _ (by rw [cel_obj ok76 (by decide)]; rfl), mset_row] at hP1
  exact k H1 locs1 ls hP1 hS1 hl
theorem gf_X7_60 (hX : OkX V E RX7 cc n lvl) (d : decode cc pc = .ok (.getfield 60, 3))  (k : G V E μ (pc + 3) L (vr V 92 :: st)) : G V E μ pc L (vr V 76 :: st) := by
  intro H locs ls hP hS hl
  exact va_get (D := V.1) (ci := 7) (v := vr V 92) (C := RX7) (T := TX7) (N := 34) (fs := obF V 7 76 (μ 76)) hX.1 hX.2.1 hX.2.2.2.2.1 inX7 hX.2.2.2.1 hX.2.2.2.2.2.2.1 hP 76 (by rw [wld_at (okd_alen (k := 76) (by rw [ok76]; decide)).1, cel_obj ok76 (by decide)]) rfl 22 (by decide) (hX.2.2.2.2.1 _ tw_505) (fun _ h9 => h9) rfl d (k H locs ls hP hS hl)
theorem gf_X7_63 (hX : OkX V E RX7 cc n lvl) (d : decode cc pc = .ok (.getfield 63, 3))  (k : G V E μ (pc + 3) L (vr V 93 :: st)) : G V E μ pc L (vr V 76 :: st) := by
  intro H locs ls hP hS hl
  exact va_get (D := V.1) (ci := 7) (v := vr V 93) (C := RX7) (T := TX7) (N := 34) (fs := obF V 7 76 (μ 76)) hX.1 hX.2.1 hX.2.2.2.2.1 inX7 hX.2.2.2.1 hX.2.2.2.2.2.2.1 hP 76 (by rw [wld_at (okd_alen (k := 76) (by rw [ok76]; decide)).1, cel_obj ok76 (by decide)]) rfl 23 (by decide) (hX.2.2.2.2.1 _ tw_506) (fun _ h9 => h9) rfl d (k H locs ls hP hS hl)
theorem gf_X7_66 (hX : OkX V E RX7 cc n lvl) (d : decode cc pc = .ok (.getfield 66, 3))  (k : G V E μ (pc + 3) L (vr V 94 :: st)) : G V E μ pc L (vr V 76 :: st) := by
  intro H locs ls hP hS hl
  exact va_get (D := V.1) (ci := 7) (v := vr V 94) (C := RX7) (T := TX7) (N := 34) (fs := obF V 7 76 (μ 76)) hX.1 hX.2.1 hX.2.2.2.2.1 inX7 hX.2.2.2.1 hX.2.2.2.2.2.2.1 hP 76 (by rw [wld_at (okd_alen (k := 76) (by rw [ok76]; decide)).1, cel_obj ok76 (by decide)]) rfl 24 (by decide) (hX.2.2.2.2.1 _ tw_507) (fun _ h9 => h9) rfl d (k H locs ls hP hS hl)
theorem gf_X7_69 (hX : OkX V E RX7 cc n lvl) (d : decode cc pc = .ok (.getfield 69, 3))  (k : G V E μ (pc + 3) L (vr V 95 :: st)) : G V E μ pc L (vr V 76 :: st) := by
  intro H locs ls hP hS hl
  exact va_get (D := V.1) (ci := 7) (v := vr V 95) (C := RX7) (T := TX7) (N := 34) (fs := obF V 7 76 (μ 76)) hX.1 hX.2.1 hX.2.2.2.2.1 inX7 hX.2.2.2.1 hX.2.2.2.2.2.2.1 hP 76 (by rw [wld_at (okd_alen (k := 76) (by rw [ok76]; decide)).1, cel_obj ok76 (by decide)]) rfl 25 (by decide) (hX.2.2.2.2.1 _ tw_508) (fun _ h9 => h9) rfl d (k H locs ls hP hS hl)
theorem gf_X7_159 (hX : OkX V E RX7 cc n lvl) (d : decode cc pc = .ok (.getfield 159, 3))  (k : G V E μ (pc + 3) L (vi (μ 76 26) :: st)) : G V E μ pc L (vr V 76 :: st) := by
  intro H locs ls hP hS hl
  exact va_get (D := V.1) (ci := 7) (v := vi (μ 76 26)) (C := RX7) (T := TX7) (N := 34) (fs := obF V 7 76 (μ 76)) hX.1 hX.2.1 hX.2.2.2.2.1 inX7 hX.2.2.2.1 hX.2.2.2.2.2.2.1 hP 76 (by rw [wld_at (okd_alen (k := 76) (by rw [ok76]; decide)).1, cel_obj ok76 (by decide)]) rfl 26 (by decide) (hX.2.2.2.2.1 _ tw_509) (fun _ h9 => h9) rfl d (k H locs ls hP hS hl)
theorem pf_X7_159 (hX : OkX V E RX7 cc n lvl) (d : decode cc pc = .ok (.putfield 159, 3))  {z : Int}  (k : G V E (mset μ 76 26 z) (pc + 3) L st) : G V E μ pc L (vi z :: vr V 76 :: st) := by
  intro H locs ls hP hS hl
  refine va_put (D := V.1) (ci := 7) (v := vi z) (ty := .int) (C := RX7) (T := TX7) (N := 34) (fs := obF V 7 76 (μ 76)) hX.1 hX.2.1 hX.2.2.2.2.1 inX7 tyX7 tyX7_ok nmX7 hX.2.2.2.1 hX.2.2.2.2.2.2.1 hP (wld_D hX.2.2.2.2.2.2.2.1 hX.2.2.2.2.2.2.2.2.1 μ) hS 76 (by rw [wld_at (okd_alen (k := 76) (by rw [ok76]; decide)).1, cel_obj ok76 (by decide)]) rfl 26 (by decide) (hX.2.2.2.2.1 _ tw_509) (fun _ h9 => h9) rfl (by decide +kernel) rfl rfl (Nat.le_of_ble_eq_true rfl) d (fun H1 locs1 hP1 _ hS1 => ?_)
  rw [wld_set (fun j' => if j' = 26 then z else μ 76 j') _ (by rw [cel_obj ok76 (by decide)]; rfl), mset_row] at hP1
  exact k H1 locs1 ls hP1 hS1 hl
theorem gf_X7_72 (hX : OkX V E RX7 cc n lvl) (d : decode cc pc = .ok (.getfield 72, 3))  (k : G V E μ (pc + 3) L (vr V 96 :: st)) : G V E μ pc L (vr V 76 :: st) := by
  intro H locs ls hP hS hl
  exact va_get (D := V.1) (ci := 7) (v := vr V 96) (C := RX7) (T := TX7) (N := 34) (fs := obF V 7 76 (μ 76)) hX.1 hX.2.1 hX.2.2.2.2.1 inX7 hX.2.2.2.1 hX.2.2.2.2.2.2.1 hP 76 (by rw [wld_at (okd_alen (k := 76) (by rw [ok76]; decide)).1, cel_obj ok76 (by decide)]) rfl 27 (by decide) (hX.2.2.2.2.1 _ tw_510) (fun _ h9 => h9) rfl d (k H locs ls hP hS hl)
theorem gf_X7_75 (hX : OkX V E RX7 cc n lvl) (d : decode cc pc = .ok (.getfield 75, 3))  (k : G V E μ (pc + 3) L (vr V 97 :: st)) : G V E μ pc L (vr V 76 :: st) := by
  intro H locs ls hP hS hl
  exact va_get (D := V.1) (ci := 7) (v := vr V 97) (C := RX7) (T := TX7) (N := 34) (fs := obF V 7 76 (μ 76)) hX.1 hX.2.1 hX.2.2.2.2.1 inX7 hX.2.2.2.1 hX.2.2.2.2.2.2.1 hP 76 (by rw [wld_at (okd_alen (k := 76) (by rw [ok76]; decide)).1, cel_obj ok76 (by decide)]) rfl 28 (by decide) (hX.2.2.2.2.1 _ tw_511) (fun _ h9 => h9) rfl d (k H locs ls hP hS hl)
theorem gf_X7_78 (hX : OkX V E RX7 cc n lvl) (d : decode cc pc = .ok (.getfield 78, 3))  (k : G V E μ (pc + 3) L (vr V 98 :: st)) : G V E μ pc L (vr V 76 :: st) := by
  intro H locs ls hP hS hl
  exact va_get (D := V.1) (ci := 7) (v := vr V 98) (C := RX7) (T := TX7) (N := 34) (fs := obF V 7 76 (μ 76)) hX.1 hX.2.1 hX.2.2.2.2.1 inX7 hX.2.2.2.1 hX.2.2.2.2.2.2.1 hP 76 (by rw [wld_at (okd_alen (k := 76) (by rw [ok76]; decide)).1, cel_obj ok76 (by decide)]) rfl 29 (by decide) (hX.2.2.2.2.1 _ tw_512) (fun _ h9 => h9) rfl d (k H locs ls hP hS hl)
theorem gf_X7_81 (hX : OkX V E RX7 cc n lvl) (d : decode cc pc = .ok (.getfield 81, 3))  (k : G V E μ (pc + 3) L (vr V 99 :: st)) : G V E μ pc L (vr V 76 :: st) := by
  intro H locs ls hP hS hl
  exact va_get (D := V.1) (ci := 7) (v := vr V 99) (C := RX7) (T := TX7) (N := 34) (fs := obF V 7 76 (μ 76)) hX.1 hX.2.1 hX.2.2.2.2.1 inX7 hX.2.2.2.1 hX.2.2.2.2.2.2.1 hP 76 (by rw [wld_at (okd_alen (k := 76) (by rw [ok76]; decide)).1, cel_obj ok76 (by decide)]) rfl 30 (by decide) (hX.2.2.2.2.1 _ tw_513) (fun _ h9 => h9) rfl d (k H locs ls hP hS hl)
theorem gf_X7_84 (hX : OkX V E RX7 cc n lvl) (d : decode cc pc = .ok (.getfield 84, 3))  (k : G V E μ (pc + 3) L (vr V 100 :: st)) : G V E μ pc L (vr V 76 :: st) := by
  intro H locs ls hP hS hl
  exact va_get (D := V.1) (ci := 7) (v := vr V 100) (C := RX7) (T := TX7) (N := 34) (fs := obF V 7 76 (μ 76)) hX.1 hX.2.1 hX.2.2.2.2.1 inX7 hX.2.2.2.1 hX.2.2.2.2.2.2.1 hP 76 (by rw [wld_at (okd_alen (k := 76) (by rw [ok76]; decide)).1, cel_obj ok76 (by decide)]) rfl 31 (by decide) (hX.2.2.2.2.1 _ tw_514) (fun _ h9 => h9) rfl d (k H locs ls hP hS hl)
theorem gf_X7_87 (hX : OkX V E RX7 cc n lvl) (d : decode cc pc = .ok (.getfield 87, 3))  (k : G V E μ (pc + 3) L (vr V 101 :: st)) : G V E μ pc L (vr V 76 :: st) := by
  intro H locs ls hP hS hl
  exact va_get (D := V.1) (ci := 7) (v := vr V 101) (C := RX7) (T := TX7) (N := 34) (fs := obF V 7 76 (μ 76)) hX.1 hX.2.1 hX.2.2.2.2.1 inX7 hX.2.2.2.1 hX.2.2.2.2.2.2.1 hP 76 (by rw [wld_at (okd_alen (k := 76) (by rw [ok76]; decide)).1, cel_obj ok76 (by decide)]) rfl 32 (by decide) (hX.2.2.2.2.1 _ tw_515) (fun _ h9 => h9) rfl d (k H locs ls hP hS hl)
theorem gf_X7_90 (hX : OkX V E RX7 cc n lvl) (d : decode cc pc = .ok (.getfield 90, 3))  (k : G V E μ (pc + 3) L (vr V 102 :: st)) : G V E μ pc L (vr V 76 :: st) := by
  intro H locs ls hP hS hl
  exact va_get (D := V.1) (ci := 7) (v := vr V 102) (C := RX7) (T := TX7) (N := 34) (fs := obF V 7 76 (μ 76)) hX.1 hX.2.1 hX.2.2.2.2.1 inX7 hX.2.2.2.1 hX.2.2.2.2.2.2.1 hP 76 (by rw [wld_at (okd_alen (k := 76) (by rw [ok76]; decide)).1, cel_obj ok76 (by decide)]) rfl 33 (by decide) (hX.2.2.2.2.1 _ tw_516) (fun _ h9 => h9) rfl d (k H locs ls hP hS hl)
end GF
section GC
variable {V : VX} {E : EX} {own : String} {cc : ByteArray} {n lvl pc : Nat} {μ : Mem} {L : List (Option Value)} {st : List Value}
def LkV (own : String) (idx : Nat) (y : MethodName) (cc : ByteArray) (n : Nat) (ret : Option FieldType) (na : Nat) : Prop :=
  Cond.methodLink own idx y ∈ tbl ∧ Cond.instanceMethod y ∈ tbl ∧ Cond.selects y.cls y y ∈ tbl ∧ Cond.initialized y.cls ∈ tbl ∧ Cond.code y cc n ret ∈ tbl ∧ y.cls ≠ "java/lang/invoke/MethodHandle" ∧ y.cls ≠ "java/lang/invoke/VarHandle" ∧ (parseMethodDescriptor y.desc).map (fun d => d.parameters.length) = some na
def LkS (own : String) (idx : Nat) (y : MethodName) (cc : ByteArray) (n : Nat) (ret : Option FieldType) (na : Nat) : Prop :=
  Cond.methodLink own idx y ∈ tbl ∧ Cond.static y ∈ tbl ∧ Cond.initialized own ∈ tbl ∧ Cond.code y cc n ret ∈ tbl ∧ y.cls = own ∧ y.cls ≠ "java/lang/invoke/MethodHandle" ∧ y.cls ≠ "java/lang/invoke/VarHandle" ∧ (parseMethodDescriptor y.desc).map (fun d => d.parameters.length) = some na
theorem PUw_blind (as : List Value) (V : VX) (μ : Mem) : FrameBlind (va_Pc as (PUw V μ)) := fun a U g mk h => ⟨h.1, h.2.1, va_K.moved (u := U) (U := U.calling g mk a) (Vm.Alike.refl U.vm) h.2.2.1, fun w hw => va_Nw.same (u := U) (U := U.calling g mk a) (by
  have := (List.mem_filter.mp hw).2
  cases w <;> first | rfl | (exact absurd (show false = true from this) (by decide))) rfl (h.2.2.2 w hw)⟩
theorem nws_warm {s U : State} (hW : s.WarmedH U.vm) (h : ∀ w ∈ nws, va_Nw w s) : ∀ w ∈ nws, va_Nw w U := fun w hw => by
  have h2 := (List.mem_filter.mp hw).2
  have h3 := h w hw
  match w, h2, h3 with
  | .fieldLinkNest .., _, h3 => exact va_Nw.warmF hW h3
  | .methodLinkNest .., _, h3 => exact va_Nw.warmM hW h3
theorem tbl_code {y : MethodName} {cc : ByteArray} {n : Nat} {ret : Option FieldType} (h : Cond.code y cc n ret ∈ tbl) : GoodIn tbl (Cond.code y cc n ret :: tbl) := fun w hw => (List.mem_cons.mp hw).elim (fun e => by subst e; exact tbl_good _ h) (fun e => tbl_good _ e)
theorem g_after {p : Program} {l : Launch} {e : Env} {R : Room} {s : State} {m : MethodId} {args : Array Value} {below : List Frame} {meth : Method} {c : Code} {H : Heap} {locs : List Loc} {cells slots : Nat} {Q : State → Prop} {ls : Array Slot} {rest st0 : List Value} {a : Array Value} {A0 : Nat → Prop} {H0 : Heap} {post : Option Value → Mem → Prop}
    (hr : va_Run p l e R s m args below meth c H locs cells slots 0 0 (F0 m pc ls st0) rest (QUw V post a) (AadV V)) (hS : va_S A0 H0 H locs) (hA : ∀ q, AadV V q → A0 q)
    (kk : ∀ (r : Option Value) (μ' : Mem) (H1 : Heap) (locs1 : List Loc), post r μ' → va_P V.1 vwCl (wld V μ') H1 → va_S A0 H0 H1 locs1 → W p l e R s m args below meth c H1 locs1 cells slots Q (F0 m (pc + 3) ls (r.toList ++ rest))) : W p l e R s m args below meth c H locs cells slots Q (F0 m pc ls st0) := by
  intro T hT X
  obtain ⟨v, st₀, t, T', L, h0, X', hL, e1, e2, ⟨⟨r, μ', hv, hp, hPw⟩, hz, hk⟩, st⟩ := hr T hT X
  cases hv
  rw [h0] at hz hk
  obtain ⟨t2, a1, b1⟩ := kk v μ' T'.heap (locs ++ L) hp (by rw [e1]; exact hPw)
    ⟨Nat.le_trans hS.1 (by rw [e1]; exact hz), fun q h1 h2 => by rw [e1, hk q (Nat.lt_of_lt_of_le h1 hS.1) (fun z => h2 (hA q z))]; exact hS.2.1 q h1 h2, fun q hq => by
      rcases List.mem_append.mp hq with h | h
      · exact hS.2.2 q h
      · exact hA _ (hL q h)⟩ T' rfl X'
  exact ⟨t2, st t2 a1, b1⟩
theorem AadV_in {A : Nat → Prop} (h : ∀ k, k < 103 → A (V.2.1 k)) : ∀ q, AadV V q → A q := fun q hq => by
  obtain ⟨k, hk, rfl⟩ := hq
  exact h k hk
set_option maxHeartbeats 2000000 in
theorem g_callV {y : MethodName} {cc' : ByteArray} {n' lvl' idx na : Nat} {ret' : Option FieldType} {post : Option Value → Mem → Prop} {as : List Value} {k0 c0 : Nat} {st0 : List Value} (hX : OkX V E own cc n lvl) (lk : LkV own idx y cc' n' ret' na) (d : decode cc pc = .ok (.invokevirtual idx, 3))
    (hk : okd k0 = c0) (hc : ∃ q : vw_C, vwCl[c0]? = some q ∧ q.1 = y.cls) (hC : Ct E.1.2.1 y cc' n' ret' lvl' V (vr V k0 :: as) μ post) (hlv : lvl' < lvl) (hn' : n' ≤ 21) (hna : as.length = na) (hLn : L.length = n) (hst : st0 = as.reverse ++ vr V k0 :: st) (hcat : (st.map fun v => v.category).sum ≤ 8)
    (k : ∀ r μ', post r μ' → G V E μ' (pc + 3) L (r.toList ++ st)) : G V E μ pc L st0 := by
  intro H locs ls hP hS hl
  obtain ⟨l1, l2, l3, l4, l5, l6, l7, l8⟩ := lk
  have hts := hX.2.2.2.2.1
  have hK := hX.2.2.2.2.2.2.1
  have hfr : lvl ≤ E.1.2.2.2.frames := hX.2.2.2.2.2.2.2.2.2.1
  have hlo : 40 * lvl ≤ E.1.2.2.2.locals := hX.2.2.2.2.2.2.2.2.2.2.1
  have hcc : E.2.2.2.1.1 ≤ E.1.2.2.2.cells := hX.2.2.2.2.2.2.2.2.2.2.2.1
  have hss : E.2.2.2.1.2 ≤ E.1.2.2.2.slots := hX.2.2.2.2.2.2.2.2.2.2.2.2
  obtain ⟨q, hq1, hq2⟩ := hc
  have hc9 : c0 < 9 := by
    have := (List.getElem?_eq_some_iff.mp hq1).1
    simp at this; omega
  have hwk : (wld V μ)[k0]? = some (V.2.1 k0, .inr (c0, obF V c0 k0 (μ k0))) := by
    rw [wld_at (okd_alen (k := k0) (by rw [hk]; exact hc9)).1, cel_obj hk hc9]
  refine g_after (post := post) (hr := va_runV (As := as) (rest := st) ⟨hX.1, hX.2.1, hX.2.2.1, hX.2.2.2.1, hts⟩ hC ⟨callB_of na hts (tbl_code l5) rfl rfl rfl (hts _ l4) (hts _ l1) ⟨l6, l7, l8⟩ ⟨by show lvl' + 1 ≤ _; omega, by show 8 + (n' + 11) + 40 * lvl' ≤ _; omega⟩, hts _ l2, hts _ l3⟩
    ⟨PUw_blind _ V μ, ?_, fun U hU hW => ⟨rfl, by rw [hU]; exact hP, va_K.moved hW.alike hK, nws_warm hW hX.2.2.2.2.2.1⟩⟩ rfl hna (by rw [LV.size hl]; exact hLn) hst (by show 2 * 0 + _ ≤ 8; omega) d ⟨hcc, hss⟩) hS (AadV_in hX.2.2.2.2.2.2.2.2.1) (fun r μ' H1 locs1 hp hP1 hS1 => k r μ' hp H1 locs1 ls hP1 hS1 hl)
  rw [← hq2]
  exact va_recv hK hP hq1 hwk
set_option maxHeartbeats 2000000 in
theorem g_callS {y : MethodName} {cc' : ByteArray} {n' lvl' idx na : Nat} {ret' : Option FieldType} {post : Option Value → Mem → Prop} {as : List Value} {st0 : List Value} (hX : OkX V E own cc n lvl) (lk : LkS own idx y cc' n' ret' na) (d : decode cc pc = .ok (.invokestatic idx, 3))
    (hC : Ct E.1.2.1 y cc' n' ret' lvl' V as μ post) (hlv : lvl' < lvl) (hn' : n' ≤ 21) (hna : as.length = na) (hLn : L.length = n) (hst : st0 = as.reverse ++ st) (hcat : (st.map fun v => v.category).sum ≤ 8)
    (k : ∀ r μ', post r μ' → G V E μ' (pc + 3) L (r.toList ++ st)) : G V E μ pc L st0 := by
  intro H locs ls hP hS hl
  obtain ⟨l1, l2, l4, l5, l9, l6, l7, l8⟩ := lk
  have hts := hX.2.2.2.2.1
  have hK := hX.2.2.2.2.2.2.1
  have hfr : lvl ≤ E.1.2.2.2.frames := hX.2.2.2.2.2.2.2.2.2.1
  have hlo : 40 * lvl ≤ E.1.2.2.2.locals := hX.2.2.2.2.2.2.2.2.2.2.1
  have hcc : E.2.2.2.1.1 ≤ E.1.2.2.2.cells := hX.2.2.2.2.2.2.2.2.2.2.2.1
  have hss : E.2.2.2.1.2 ≤ E.1.2.2.2.slots := hX.2.2.2.2.2.2.2.2.2.2.2.2
  exact g_after (post := post) (hr := va_runS (As := as) (rest := st) ⟨hX.1, hX.2.1, hX.2.2.1, hX.2.2.2.1, hts⟩ hC ⟨callB_of na hts (tbl_code l5) rfl rfl rfl (by rw [l9]; exact hts _ l4) (hts _ l1) ⟨l6, l7, l8⟩ ⟨by show lvl' + 1 ≤ _; omega, by show 8 + (n' + 11) + 40 * lvl' ≤ _; omega⟩, hts _ l2⟩
    ⟨PUw_blind _ V μ, fun U hU hW => ⟨rfl, by rw [hU]; exact hP, va_K.moved hW.alike hK, nws_warm hW hX.2.2.2.2.2.1⟩⟩ rfl hna (by rw [LV.size hl]; exact hLn) hst (by show 2 * 0 + _ ≤ 8; omega) d ⟨hcc, hss⟩) hS (AadV_in hX.2.2.2.2.2.2.2.2.1) (fun r μ' H1 locs1 hp hP1 hS1 => k r μ' hp H1 locs1 ls hP1 hS1 hl)
theorem g_mmax {a b : Int} (hX : OkX V E RX6 cc n lvl) (hLn : L.length = n) (h1 : 1 ≤ lvl) (d : decode cc pc = .ok (.invokestatic 121, 3)) (ha : in32 a) (hb : in32 b) (hcat : (st.map fun v => v.category).sum ≤ 8) (k : G V E μ (pc + 3) L (vi (max a b) :: st)) : G V E μ pc L (vi b :: vi a :: st) := by
  intro H locs ls hP hS hl
  have hts := hX.2.2.2.2.1
  have hfr : lvl ≤ E.1.2.2.2.frames := hX.2.2.2.2.2.2.2.2.2.1
  have hlo : 40 * lvl ≤ E.1.2.2.2.locals := hX.2.2.2.2.2.2.2.2.2.2.1
  refine va_mmax hX.1 hX.2.1 (by rw [hX.2.2.1, LV.size hl, hLn]) hX.2.2.2.1 (hts _ tw_292) (hts _ tw_293) (hts _ tw_9) (hts _ tw_294) (by omega) (by omega) hX.2.2.2.2.2.2.2.2.2.2.2.1 hX.2.2.2.2.2.2.2.2.2.2.2.2 d ?_
  have e : (if Int32.ofInt a < Int32.ofInt b then Int32.ofInt b else Int32.ofInt a) = Int32.ofInt (max a b) := by
    by_cases h : a < b
    · rw [if_pos ((i_lt ha hb).mpr h), Int.max_eq_right (by omega)]
    · rw [if_neg (fun q => h ((i_lt ha hb).mp q)), Int.max_eq_left (by omega)]
  rw [e]
  exact k H locs ls hP hS hl
/-! ends -/
theorem g_iret {post : Option Value → Mem → Prop} {z : Int} (hX : OkX V E own cc n lvl) (hR : RtX V E (some .int) post) (d : decode cc pc = .ok (.ireturn, 1)) (hp : post (some (vi z)) μ) : G V E μ pc L [vi z] := by
  intro H locs ls hP hS hl
  obtain ⟨h1, h2, h3, h4, h5, h6⟩ := hR
  rw [h3, h4, h6]
  rw [h5] at hS
  exact W.iret hX.1 hX.2.1 h1 (fun t ht hW => ⟨⟨_, μ, rfl, hp, by rw [ht]; exact hP⟩, hS.F ht⟩) hS.2.2 d h2
theorem g_zret {post : Option Value → Mem → Prop} {z : Int} (hX : OkX V E own cc n lvl) (hR : RtX V E (some .boolean) post) (d : decode cc pc = .ok (.ireturn, 1)) (hz : z = 0 ∨ z = 1) (hp : post (some (vi z)) μ) : G V E μ pc L [vi z] := by
  intro H locs ls hP hS hl
  obtain ⟨h1, h2, h3, h4, h5, h6⟩ := hR
  rw [h3, h4, h6]
  rw [h5] at hS
  exact W.zret hX.1 hX.2.1 h1 (by rcases hz with rfl | rfl <;> rfl) (fun t ht hW => ⟨⟨_, μ, rfl, hp, by rw [ht]; exact hP⟩, hS.F ht⟩) hS.2.2 d h2
theorem g_vret {post : Option Value → Mem → Prop} (hX : OkX V E own cc n lvl) (hR : RtX V E none post) (d : decode cc pc = .ok (.return_, 1)) (hp : post none μ) : G V E μ pc L [] := by
  intro H locs ls hP hS hl
  obtain ⟨h1, h2, h3, h4, h5, h6⟩ := hR
  rw [h3, h4, h6]
  rw [h5] at hS
  exact W.vret hX.1 hX.2.1 h1 (fun t ht hW => ⟨⟨_, μ, rfl, hp, by rw [ht]; exact hP⟩, hS.F ht⟩) hS.2.2 d h2
theorem g_aret {post : Option Value → Mem → Prop} {C : String} {r : Option Nat} (hX : OkX V E own cc n lvl) (hR : RtX V E (some (.object C)) post) (d : decode cc pc = .ok (.areturn, 1)) {v : Value} (hv : v = vrf V r) (hp : post (some (vrf V r)) μ) : G V E μ pc L [v] := by
  subst hv
  intro H locs ls hP hS hl
  obtain ⟨h1, h2, h3, h4, h5, h6⟩ := hR
  rw [h3, h4, h6]
  rw [h5] at hS
  exact W.aret hX.1 hX.2.1 h1 (Or.inl ⟨C, rfl⟩) (by cases r with
    | none => exact Or.inl rfl
    | some k => exact Or.inr ⟨_, rfl⟩) (fun t ht hW => ⟨⟨_, μ, rfl, hp, by rw [ht]; exact hP⟩, hS.F ht⟩) hS.2.2 d h2
end GC
theorem lk_L_13 : LkV RL 13 yX6_part cX6_part 4 (some .int) 3 := ⟨tw_197, tw_198, tw_199, tw_1, tw_200, by decide +kernel, by decide +kernel, by decide +kernel⟩
theorem lk_X6_55 : LkS RX6 55 yX6_areMeasures cX6_areMeasures 3 (some .boolean) 3 := ⟨tw_201, tw_202, tw_1, tw_203, rfl, by decide +kernel, by decide +kernel, by decide +kernel⟩
theorem lk_X6_62 : LkV RX6 62 yX6_draw cX6_draw 7 (some .int) 4 := ⟨tw_204, tw_206, ts_0, tw_1, tw_207, by decide +kernel, by decide +kernel, by decide +kernel⟩
theorem lk_X6_66 : LkV RX6 66 yX6_partOf cX6_partOf 2 (some (.object "StoneBeds$Part")) 1 := ⟨tw_208, tw_210, ts_1, tw_1, tw_211, by decide +kernel, by decide +kernel, by decide +kernel⟩
theorem lk_X6_233 : LkV RX6 233 yX4_measure cX4_measure 4 none 3 := ⟨tw_212, tw_213, tw_214, tw_6, tw_215, by decide +kernel, by decide +kernel, by decide +kernel⟩
theorem lk_L_18 : LkV RL 18 yX6_need cX6_need 5 (some .int) 2 := ⟨tw_216, tw_217, tw_218, tw_1, tw_219, by decide +kernel, by decide +kernel, by decide +kernel⟩
theorem lk_L_23 : LkV RL 23 yX6_casts cX6_casts 7 (some .int) 3 := ⟨tw_220, tw_221, tw_222, tw_1, tw_223, by decide +kernel, by decide +kernel, by decide +kernel⟩
theorem lk_X6_73 : LkS RX6 73 yX6_isDrawn cX6_isDrawn 1 (some .boolean) 1 := ⟨tw_224, tw_225, tw_1, tw_226, rfl, by decide +kernel, by decide +kernel, by decide +kernel⟩
theorem lk_X6_77 : LkV RX6 77 yX6_givePacker cX6_givePacker 6 none 3 := ⟨tw_227, tw_229, ts_2, tw_1, tw_230, by decide +kernel, by decide +kernel, by decide +kernel⟩
theorem lk_X6_244 : LkV RX6 244 yX3_clear cX3_clear 1 none 0 := ⟨tw_231, tw_232, tw_233, tw_3, tw_234, by decide +kernel, by decide +kernel, by decide +kernel⟩
theorem lk_X6_245 : LkV RX6 245 yX3_add cX3_add 4 none 1 := ⟨tw_235, tw_236, tw_237, tw_3, tw_238, by decide +kernel, by decide +kernel, by decide +kernel⟩
theorem lk_X6_81 : LkV RX6 81 yX3_fewestCasts cX3_fewestCasts 4 (some .int) 0 := ⟨tw_239, tw_240, tw_241, tw_3, tw_242, by decide +kernel, by decide +kernel, by decide +kernel⟩
theorem lk_X3_25 : LkV RX3 25 yX3_plainCasts cX3_plainCasts 4 (some .int) 0 := ⟨tw_243, tw_244, tw_245, tw_3, tw_246, by decide +kernel, by decide +kernel, by decide +kernel⟩
theorem lk_X3_29 : LkV RX3 29 yX3_packs cX3_packs 8 (some .boolean) 3 := ⟨tw_247, tw_249, ts_3, tw_3, tw_250, by decide +kernel, by decide +kernel, by decide +kernel⟩
theorem lk_X3_33 : LkV RX3 33 yX3_packsOn cX3_packsOn 8 (some .boolean) 4 := ⟨tw_251, tw_253, ts_4, tw_3, tw_254, by decide +kernel, by decide +kernel, by decide +kernel⟩
theorem lk_X6_85 : LkV RX6 85 yX3_plainCasts cX3_plainCasts 4 (some .int) 0 := ⟨tw_255, tw_244, tw_245, tw_3, tw_246, by decide +kernel, by decide +kernel, by decide +kernel⟩
theorem lk_L_27 : LkV RL 27 yX6_cast cX6_cast 7 (some .int) 3 := ⟨tw_256, tw_257, tw_258, tw_1, tw_259, by decide +kernel, by decide +kernel, by decide +kernel⟩
theorem lk_X6_88 : LkV RX6 88 yX6_bedOf cX6_bedOf 2 (some (.object "StoneBeds$Bed")) 1 := ⟨tw_260, tw_262, ts_5, tw_1, tw_263, by decide +kernel, by decide +kernel, by decide +kernel⟩
theorem lk_X6_92 : LkV RX6 92 yX6_areParts cX6_areParts 4 (some .boolean) 2 := ⟨tw_264, tw_266, ts_6, tw_1, tw_267, by decide +kernel, by decide +kernel, by decide +kernel⟩
theorem lk_X6_101 : LkS RX6 101 yX6_hasBit cX6_hasBit 2 (some .boolean) 2 := ⟨tw_268, tw_269, tw_1, tw_270, rfl, by decide +kernel, by decide +kernel, by decide +kernel⟩
theorem lk_X6_98 : LkV RX6 98 yX6_areDrawnAndFit cX6_areDrawnAndFit 7 (some .boolean) 2 := ⟨tw_271, tw_273, ts_7, tw_1, tw_274, by decide +kernel, by decide +kernel, by decide +kernel⟩
theorem lk_X6_104 : LkV RX6 104 yX4_isNow cX4_isNow 3 none 2 := ⟨tw_275, tw_276, tw_277, tw_6, tw_278, by decide +kernel, by decide +kernel, by decide +kernel⟩
theorem lk_X6_114 : LkV RX6 114 yX0_take cX0_take 3 none 2 := ⟨tw_279, tw_280, tw_281, tw_7, tw_282, by decide +kernel, by decide +kernel, by decide +kernel⟩
theorem lk_L_31 : LkV RL 31 yX6_warmth cX6_warmth 3 (some .int) 1 := ⟨tw_283, tw_284, tw_285, tw_1, tw_286, by decide +kernel, by decide +kernel, by decide +kernel⟩
theorem lk_L_36 : LkV RL 36 yX6_hours cX6_hours 5 (some .int) 1 := ⟨tw_287, tw_288, tw_289, tw_1, tw_290, by decide +kernel, by decide +kernel, by decide +kernel⟩
theorem lk_L_40 : LkV RL 40 yX6_letGo cX6_letGo 6 (some .int) 1 := ⟨tw_295, tw_296, tw_297, tw_1, tw_298, by decide +kernel, by decide +kernel, by decide +kernel⟩
theorem lk_X6_139 : LkS RX6 139 yX6_camberOf cX6_camberOf 3 (some .int) 2 := ⟨tw_299, tw_300, tw_1, tw_301, rfl, by decide +kernel, by decide +kernel, by decide +kernel⟩
theorem lk_X6_150 : LkV RX6 150 yX4_isStruck cX4_isStruck 1 none 0 := ⟨tw_302, tw_303, tw_304, tw_6, tw_305, by decide +kernel, by decide +kernel, by decide +kernel⟩
theorem lk_X4_27 : LkV RX4 27 yX4_isNow cX4_isNow 3 none 2 := ⟨tw_306, tw_276, tw_277, tw_6, tw_278, by decide +kernel, by decide +kernel, by decide +kernel⟩
theorem lk_X6_153 : LkV RX6 153 yX0_clear cX0_clear 1 none 0 := ⟨tw_307, tw_308, tw_309, tw_7, tw_310, by decide +kernel, by decide +kernel, by decide +kernel⟩
theorem lk_L_44 : LkV RL 44 yX6_stack cX6_stack 5 (some .int) 2 := ⟨tw_311, tw_312, tw_313, tw_1, tw_314, by decide +kernel, by decide +kernel, by decide +kernel⟩
theorem lk_X6_156 : LkV RX6 156 yX6_stackOf cX6_stackOf 2 (some (.object "StoneBeds$Pile")) 1 := ⟨tw_315, tw_317, ts_8, tw_1, tw_318, by decide +kernel, by decide +kernel, by decide +kernel⟩
theorem lk_X6_160 : LkV RX6 160 yX5_hasRoom cX5_hasRoom 1 (some .boolean) 0 := ⟨tw_319, tw_320, tw_321, tw_5, tw_322, by decide +kernel, by decide +kernel, by decide +kernel⟩
theorem lk_X6_164 : LkV RX6 164 yX5_put cX5_put 2 none 1 := ⟨tw_323, tw_324, tw_325, tw_5, tw_326, by decide +kernel, by decide +kernel, by decide +kernel⟩
theorem lk_L_48 : LkV RL 48 yX6_move cX6_move 7 (some .int) 2 := ⟨tw_327, tw_328, tw_329, tw_1, tw_330, by decide +kernel, by decide +kernel, by decide +kernel⟩
theorem lk_X6_171 : LkV RX6 171 yX5_top cX5_top 1 (some .int) 0 := ⟨tw_331, tw_332, tw_333, tw_5, tw_334, by decide +kernel, by decide +kernel, by decide +kernel⟩
theorem lk_X5_19 : LkV RX5 19 yX5_from cX5_from 2 (some .int) 1 := ⟨tw_335, tw_336, tw_337, tw_5, tw_338, by decide +kernel, by decide +kernel, by decide +kernel⟩
theorem lk_X6_174 : LkV RX6 174 yX5_takeOff cX5_takeOff 2 (some .int) 0 := ⟨tw_339, tw_340, tw_341, tw_5, tw_342, by decide +kernel, by decide +kernel, by decide +kernel⟩
theorem lk_X5_23 : LkV RX5 23 yX5_top cX5_top 1 (some .int) 0 := ⟨tw_343, tw_332, tw_333, tw_5, tw_334, by decide +kernel, by decide +kernel, by decide +kernel⟩
theorem lk_X6_177 : LkV RX6 177 yX6_strikeTops cX6_strikeTops 4 none 1 := ⟨tw_344, tw_346, ts_9, tw_1, tw_347, by decide +kernel, by decide +kernel, by decide +kernel⟩
theorem lk_L_54 : LkV RL 54 yX6_diggings cX6_diggings 6 (some .int) 2 := ⟨tw_348, tw_349, tw_350, tw_1, tw_351, by decide +kernel, by decide +kernel, by decide +kernel⟩
theorem lk_X6_181 : LkV RX6 181 yX1_clear cX1_clear 2 none 0 := ⟨tw_352, tw_353, tw_354, tw_4, tw_355, by decide +kernel, by decide +kernel, by decide +kernel⟩
theorem lk_X6_182 : LkS RX6 182 yX6_ordered cX6_ordered 3 (some .int) 2 := ⟨tw_356, tw_357, tw_1, tw_358, rfl, by decide +kernel, by decide +kernel, by decide +kernel⟩
theorem lk_X6_186 : LkV RX6 186 yX1_wants cX1_wants 2 (some .boolean) 1 := ⟨tw_359, tw_360, tw_361, tw_4, tw_362, by decide +kernel, by decide +kernel, by decide +kernel⟩
theorem lk_X6_190 : LkV RX6 190 yX6_countWhere cX6_countWhere 5 (some .int) 1 := ⟨tw_363, tw_365, ts_10, tw_1, tw_366, by decide +kernel, by decide +kernel, by decide +kernel⟩
theorem lk_X6_194 : LkV RX6 194 yX1_copyStack cX1_copyStack 6 none 2 := ⟨tw_367, tw_368, tw_369, tw_4, tw_370, by decide +kernel, by decide +kernel, by decide +kernel⟩
theorem lk_X1_29 : LkV RX1 29 yX1_pileOf cX1_pileOf 2 (some (.object "StoneBeds$Pile")) 1 := ⟨tw_371, tw_373, ts_11, tw_4, tw_374, by decide +kernel, by decide +kernel, by decide +kernel⟩
theorem lk_X1_33 : LkV RX1 33 yX5_clear cX5_clear 1 none 0 := ⟨tw_375, tw_376, tw_377, tw_5, tw_378, by decide +kernel, by decide +kernel, by decide +kernel⟩
theorem lk_X1_39 : LkV RX1 39 yX5_from cX5_from 2 (some .int) 1 := ⟨tw_379, tw_336, tw_337, tw_5, tw_338, by decide +kernel, by decide +kernel, by decide +kernel⟩
theorem lk_X1_43 : LkV RX1 43 yX5_put cX5_put 2 none 1 := ⟨tw_380, tw_324, tw_325, tw_5, tw_326, by decide +kernel, by decide +kernel, by decide +kernel⟩
theorem lk_X6_198 : LkV RX6 198 yX1_fewestMoves cX1_fewestMoves 2 (some .int) 0 := ⟨tw_381, tw_382, tw_383, tw_4, tw_384, by decide +kernel, by decide +kernel, by decide +kernel⟩
theorem lk_X1_47 : LkV RX1 47 yX1_mustMove cX1_mustMove 6 (some .int) 0 := ⟨tw_385, tw_387, ts_12, tw_4, tw_388, by decide +kernel, by decide +kernel, by decide +kernel⟩
theorem lk_X1_51 : LkV RX1 51 yX1_reaches cX1_reaches 6 (some .boolean) 2 := ⟨tw_389, tw_391, ts_13, tw_4, tw_392, by decide +kernel, by decide +kernel, by decide +kernel⟩
theorem lk_X1_55 : LkV RX1 55 yX1_pileWith cX1_pileWith 4 (some .int) 1 := ⟨tw_393, tw_395, ts_14, tw_4, tw_396, by decide +kernel, by decide +kernel, by decide +kernel⟩
theorem lk_X1_58 : LkV RX1 58 yX1_isTop cX1_isTop 4 (some .boolean) 2 := ⟨tw_397, tw_399, ts_15, tw_4, tw_400, by decide +kernel, by decide +kernel, by decide +kernel⟩
theorem lk_X1_72 : LkV RX1 72 yX5_top cX5_top 1 (some .int) 0 := ⟨tw_401, tw_332, tw_333, tw_5, tw_334, by decide +kernel, by decide +kernel, by decide +kernel⟩
theorem lk_X1_61 : LkV RX1 61 yX5_takeOff cX5_takeOff 2 (some .int) 0 := ⟨tw_402, tw_340, tw_341, tw_5, tw_342, by decide +kernel, by decide +kernel, by decide +kernel⟩
theorem lk_X1_64 : LkV RX1 64 yX1_digs cX1_digs 9 (some .boolean) 3 := ⟨tw_403, tw_405, ts_16, tw_4, tw_406, by decide +kernel, by decide +kernel, by decide +kernel⟩
theorem lk_X1_68 : LkV RX1 68 yX5_hasRoom cX5_hasRoom 1 (some .boolean) 0 := ⟨tw_407, tw_320, tw_321, tw_5, tw_322, by decide +kernel, by decide +kernel, by decide +kernel⟩
theorem lk_L_59 : LkV RL 59 yX6_load cX6_load 5 (some .int) 1 := ⟨tw_408, tw_409, tw_410, tw_1, tw_411, by decide +kernel, by decide +kernel, by decide +kernel⟩
theorem lk_X6_201 : LkV RX6 201 yX2_hasPlace cX2_hasPlace 1 (some .boolean) 0 := ⟨tw_412, tw_413, tw_414, tw_2, tw_415, by decide +kernel, by decide +kernel, by decide +kernel⟩
theorem lk_X6_207 : LkV RX6 207 yX2_bears cX2_bears 2 (some .boolean) 1 := ⟨tw_416, tw_417, tw_418, tw_2, tw_419, by decide +kernel, by decide +kernel, by decide +kernel⟩
theorem lk_X2_25 : LkV RX2 25 yX2_frontShare cX2_frontShare 1 (some .int) 0 := ⟨tw_420, tw_422, ts_17, tw_2, tw_423, by decide +kernel, by decide +kernel, by decide +kernel⟩
theorem lk_X2_32 : LkV RX2 32 yX2_rearShare cX2_rearShare 1 (some .int) 0 := ⟨tw_424, tw_426, ts_18, tw_2, tw_427, by decide +kernel, by decide +kernel, by decide +kernel⟩
theorem lk_X6_210 : LkV RX6 210 yX2_take cX2_take 4 (some .int) 2 := ⟨tw_428, tw_429, tw_430, tw_2, tw_431, by decide +kernel, by decide +kernel, by decide +kernel⟩
theorem lk_L_63 : LkV RL 63 yX6_go cX6_go 4 (some .int) 0 := ⟨tw_432, tw_433, tw_434, tw_1, tw_435, by decide +kernel, by decide +kernel, by decide +kernel⟩
theorem lk_X6_213 : LkV RX6 213 yX2_partOn cX2_partOn 2 (some .int) 1 := ⟨tw_436, tw_437, tw_438, tw_2, tw_439, by decide +kernel, by decide +kernel, by decide +kernel⟩
theorem lk_X6_219 : LkV RX6 219 yX2_clear cX2_clear 1 none 0 := ⟨tw_440, tw_441, tw_442, tw_2, tw_443, by decide +kernel, by decide +kernel, by decide +kernel⟩
theorem lk_L_68 : LkV RL 68 yX6_lorry cX6_lorry 2 (some .int) 1 := ⟨tw_444, tw_445, tw_446, tw_1, tw_447, by decide +kernel, by decide +kernel, by decide +kernel⟩
theorem lk_X6_227 : LkV RX6 227 yX6_isRight cX6_isRight 4 (some .boolean) 0 := ⟨tw_448, tw_450, ts_19, tw_1, tw_451, by decide +kernel, by decide +kernel, by decide +kernel⟩
theorem lk_L_72 : LkV RL 72 yX6_change cX6_change 7 (some .int) 4 := ⟨tw_452, tw_453, tw_454, tw_1, tw_455, by decide +kernel, by decide +kernel, by decide +kernel⟩
theorem lk_X6_236 : LkV RX6 236 yX6_strikeWhereItIs cX6_strikeWhereItIs 2 none 1 := ⟨tw_456, tw_458, ts_20, tw_1, tw_459, by decide +kernel, by decide +kernel, by decide +kernel⟩
theorem lk_L_77 : LkV RL 77 yX6_told cX6_told 4 (some .int) 2 := ⟨tw_460, tw_461, tw_462, tw_1, tw_463, by decide +kernel, by decide +kernel, by decide +kernel⟩
theorem lk_L_81 : LkV RL 81 yX6_at cX6_at 4 (some .int) 2 := ⟨tw_464, tw_465, tw_466, tw_1, tw_467, by decide +kernel, by decide +kernel, by decide +kernel⟩
theorem lk_X6_240 : LkV RX6 240 yX5_from cX5_from 2 (some .int) 1 := ⟨tw_468, tw_336, tw_337, tw_5, tw_338, by decide +kernel, by decide +kernel, by decide +kernel⟩
theorem lk_L_85 : LkV RL 85 yX6_bed cX6_bed 4 (some .int) 2 := ⟨tw_469, tw_470, tw_471, tw_1, tw_472, by decide +kernel, by decide +kernel, by decide +kernel⟩
theorem lk_L_89 : LkV RL 89 yX6_count cX6_count 2 (some .int) 1 := ⟨tw_473, tw_474, tw_475, tw_1, tw_476, by decide +kernel, by decide +kernel, by decide +kernel⟩
theorem lk_L_17 : LkV RL 17 yX7_part cX7_part 4 (some .int) 3 := ⟨tw_587, tw_588, tw_589, tw_8, tw_590, by decide +kernel, by decide +kernel, by decide +kernel⟩
theorem lk_X7_106 : LkS RX7 106 yX7_areWell cX7_areWell 3 (some .boolean) 3 := ⟨tw_591, tw_592, tw_8, tw_593, rfl, by decide +kernel, by decide +kernel, by decide +kernel⟩
theorem lk_X7_96 : LkS RX7 96 yX7_in cX7_in 6 (some .boolean) 3 := ⟨tw_595, tw_596, tw_8, tw_597, rfl, by decide +kernel, by decide +kernel, by decide +kernel⟩
theorem lk_X7_110 : LkV RX7 110 yX7_comes cX7_comes 5 (some .int) 4 := ⟨tw_600, tw_602, ts_21, tw_8, tw_603, by decide +kernel, by decide +kernel, by decide +kernel⟩
theorem lk_L_22 : LkV RL 22 yX7_need cX7_need 4 (some .int) 2 := ⟨tw_604, tw_605, tw_606, tw_8, tw_607, by decide +kernel, by decide +kernel, by decide +kernel⟩
theorem lk_X7_114 : LkV RX7 114 yX7_isPart cX7_isPart 2 (some .boolean) 1 := ⟨tw_608, tw_610, ts_22, tw_8, tw_611, by decide +kernel, by decide +kernel, by decide +kernel⟩
theorem lk_L_26 : LkV RL 26 yX7_casts cX7_casts 6 (some .int) 3 := ⟨tw_613, tw_614, tw_615, tw_8, tw_616, by decide +kernel, by decide +kernel, by decide +kernel⟩
theorem lk_X7_126 : LkV RX7 126 yX7_fewestCasts cX7_fewestCasts 5 (some .int) 0 := ⟨tw_617, tw_619, ts_23, tw_8, tw_620, by decide +kernel, by decide +kernel, by decide +kernel⟩
theorem lk_X7_123 : LkV RX7 123 yX7_fits cX7_fits 6 (some .boolean) 1 := ⟨tw_621, tw_623, ts_24, tw_8, tw_624, by decide +kernel, by decide +kernel, by decide +kernel⟩
theorem lk_X7_130 : LkV RX7 130 yX7_plainCasts cX7_plainCasts 9 (some .int) 0 := ⟨tw_625, tw_627, ts_25, tw_8, tw_628, by decide +kernel, by decide +kernel, by decide +kernel⟩
theorem lk_L_30 : LkV RL 30 yX7_cast cX7_cast 10 (some .int) 3 := ⟨tw_629, tw_630, tw_631, tw_8, tw_632, by decide +kernel, by decide +kernel, by decide +kernel⟩
theorem lk_L_35 : LkV RL 35 yX7_warmth cX7_warmth 3 (some .int) 1 := ⟨tw_634, tw_635, tw_636, tw_8, tw_637, by decide +kernel, by decide +kernel, by decide +kernel⟩
theorem lk_L_39 : LkV RL 39 yX7_hours cX7_hours 3 (some .int) 1 := ⟨tw_640, tw_641, tw_642, tw_8, tw_643, by decide +kernel, by decide +kernel, by decide +kernel⟩
theorem lk_L_43 : LkV RL 43 yX7_letGo cX7_letGo 5 (some .int) 1 := ⟨tw_645, tw_646, tw_647, tw_8, tw_648, by decide +kernel, by decide +kernel, by decide +kernel⟩
theorem lk_L_47 : LkV RL 47 yX7_stack cX7_stack 3 (some .int) 2 := ⟨tw_649, tw_650, tw_651, tw_8, tw_652, by decide +kernel, by decide +kernel, by decide +kernel⟩
theorem lk_X7_148 : LkS RX7 148 yX7_isStack cX7_isStack 1 (some .boolean) 1 := ⟨tw_653, tw_654, tw_8, tw_655, rfl, by decide +kernel, by decide +kernel, by decide +kernel⟩
theorem lk_X7_151 : LkV RX7 151 yX7_lays cX7_lays 3 none 2 := ⟨tw_657, tw_659, ts_26, tw_8, tw_660, by decide +kernel, by decide +kernel, by decide +kernel⟩
theorem lk_L_51 : LkV RL 51 yX7_move cX7_move 4 (some .int) 2 := ⟨tw_661, tw_662, tw_663, tw_8, tw_664, by decide +kernel, by decide +kernel, by decide +kernel⟩
theorem lk_X7_155 : LkV RX7 155 yX7_clears cX7_clears 3 none 1 := ⟨tw_665, tw_667, ts_27, tw_8, tw_668, by decide +kernel, by decide +kernel, by decide +kernel⟩
theorem lk_L_58 : LkV RL 58 yX7_diggings cX7_diggings 7 (some .int) 2 := ⟨tw_669, tw_670, tw_671, tw_8, tw_672, by decide +kernel, by decide +kernel, by decide +kernel⟩
theorem lk_X7_179 : LkV RX7 179 yX7_lies cX7_lies 2 none 0 := ⟨tw_675, tw_677, ts_28, tw_8, tw_678, by decide +kernel, by decide +kernel, by decide +kernel⟩
theorem lk_X7_182 : LkV RX7 182 yX7_does cX7_does 6 (some .boolean) 1 := ⟨tw_679, tw_681, ts_29, tw_8, tw_682, by decide +kernel, by decide +kernel, by decide +kernel⟩
theorem lk_X7_166 : LkV RX7 166 yX7_takes cX7_takes 5 (some .int) 1 := ⟨tw_683, tw_685, ts_30, tw_8, tw_686, by decide +kernel, by decide +kernel, by decide +kernel⟩
theorem lk_X7_162 : LkV RX7 162 yX7_stackOf cX7_stackOf 5 (some .int) 1 := ⟨tw_687, tw_689, ts_31, tw_8, tw_690, by decide +kernel, by decide +kernel, by decide +kernel⟩
theorem lk_X7_169 : LkV RX7 169 yX7_gives cX7_gives 4 none 1 := ⟨tw_691, tw_693, ts_32, tw_8, tw_694, by decide +kernel, by decide +kernel, by decide +kernel⟩
theorem lk_X7_172 : LkV RX7 172 yX7_carries cX7_carries 3 none 2 := ⟨tw_695, tw_697, ts_33, tw_8, tw_698, by decide +kernel, by decide +kernel, by decide +kernel⟩
theorem lk_L_62 : LkV RL 62 yX7_load cX7_load 3 (some .int) 1 := ⟨tw_699, tw_700, tw_701, tw_8, tw_702, by decide +kernel, by decide +kernel, by decide +kernel⟩
theorem lk_X7_188 : LkV RX7 188 yX7_heavy cX7_heavy 3 (some .int) 0 := ⟨tw_703, tw_705, ts_34, tw_8, tw_706, by decide +kernel, by decide +kernel, by decide +kernel⟩
theorem lk_X7_191 : LkV RX7 191 yX7_front cX7_front 3 (some .int) 0 := ⟨tw_707, tw_709, ts_35, tw_8, tw_710, by decide +kernel, by decide +kernel, by decide +kernel⟩
theorem lk_X7_194 : LkV RX7 194 yX7_rear cX7_rear 3 (some .int) 0 := ⟨tw_711, tw_713, ts_36, tw_8, tw_714, by decide +kernel, by decide +kernel, by decide +kernel⟩
theorem lk_L_67 : LkV RL 67 yX7_go cX7_go 3 (some .int) 0 := ⟨tw_715, tw_716, tw_717, tw_8, tw_718, by decide +kernel, by decide +kernel, by decide +kernel⟩
theorem lk_L_71 : LkV RL 71 yX7_lorry cX7_lorry 2 (some .int) 1 := ⟨tw_719, tw_720, tw_721, tw_8, tw_722, by decide +kernel, by decide +kernel, by decide +kernel⟩
theorem lk_X7_200 : LkV RX7 200 yX7_isRight cX7_isRight 3 (some .boolean) 0 := ⟨tw_723, tw_725, ts_37, tw_8, tw_726, by decide +kernel, by decide +kernel, by decide +kernel⟩
theorem lk_L_76 : LkV RL 76 yX7_change cX7_change 7 (some .int) 4 := ⟨tw_727, tw_728, tw_729, tw_8, tw_730, by decide +kernel, by decide +kernel, by decide +kernel⟩
theorem lk_X7_204 : LkV RX7 204 yX7_gets cX7_gets 5 none 4 := ⟨tw_731, tw_733, ts_38, tw_8, tw_734, by decide +kernel, by decide +kernel, by decide +kernel⟩
theorem lk_L_80 : LkV RL 80 yX7_told cX7_told 3 (some .int) 2 := ⟨tw_735, tw_736, tw_737, tw_8, tw_738, by decide +kernel, by decide +kernel, by decide +kernel⟩
theorem lk_L_84 : LkV RL 84 yX7_at cX7_at 3 (some .int) 2 := ⟨tw_739, tw_740, tw_741, tw_8, tw_742, by decide +kernel, by decide +kernel, by decide +kernel⟩
theorem lk_L_88 : LkV RL 88 yX7_bed cX7_bed 5 (some .int) 2 := ⟨tw_743, tw_744, tw_745, tw_8, tw_746, by decide +kernel, by decide +kernel, by decide +kernel⟩
theorem lk_L_92 : LkV RL 92 yX7_count cX7_count 4 (some .int) 1 := ⟨tw_748, tw_749, tw_750, tw_8, tw_751, by decide +kernel, by decide +kernel, by decide +kernel⟩
section GN
variable {V : VX} {E : EX} {own : String} {cc : ByteArray} {n lvl pc : Nat} {μ : Mem} {L : List (Option Value)} {st : List Value}
theorem alen5 {k : Nat} (h : okd k = 5) : alen (k + 5) = 4 := by
  have hk : (43 ≤ k ∧ k < 48) ∨ (53 ≤ k ∧ k < 58) := by
    unfold okd at h
    apply Classical.byContradiction
    intro hc
    have h63 : ∀ (a b c d : Nat), True := fun _ _ _ _ => trivial
    by_cases h1 : k < 40
    · rw [if_pos h1] at h; omega
    · rw [if_neg h1] at h
      by_cases h2 : k < 43
      · rw [if_pos h2] at h; omega
      · rw [if_neg h2, if_neg (by omega), if_neg (by omega)] at h
        by_cases h3 : k = 63
        · rw [if_pos h3] at h; omega
        · rw [if_neg h3] at h
          by_cases h4 : k = 67
          · rw [if_pos h4] at h; omega
          · rw [if_neg h4] at h
            by_cases h5 : k = 69
            · rw [if_pos h5] at h; omega
            · rw [if_neg h5] at h
              by_cases h6 : k = 72
              · rw [if_pos h6] at h; omega
              · rw [if_neg h6] at h
                by_cases h7 : k = 76
                · rw [if_pos h7] at h; omega
                · rw [if_neg h7] at h; omega
  rcases hk with ⟨h1, h2⟩ | ⟨h1, h2⟩
  · have := alen_pile (k := k - 43) (by omega)
    rwa [show 43 + (k - 43) + 5 = k + 5 by omega] at this
  · have := alen_dpile (k := k - 53) (by omega)
    rwa [show 53 + (k - 53) + 5 = k + 5 by omega] at this
theorem g_ialdN {i : Nat} (hX : OkX V E own cc n lvl) (d : decode cc pc = .ok (.iaload, 1)) {k0 N : Nat} {a : Int} (hk : alen k0 = N) (hi : a = (i : Int)) (h1 : i < N) (hN : N ≤ 4096) (k : G V E μ (pc + 1) L (vi (μ k0 i) :: st)) : G V E μ pc L (vi a :: vr V k0 :: st) := by
  subst hi
  exact g_iald hX d hk (by omega) (by omega) hN k
theorem g_iastN {i : Nat} (hX : OkX V E own cc n lvl) (d : decode cc pc = .ok (.iastore, 1)) {k0 N : Nat} {a z : Int} (hk : alen k0 = N) (hi : a = (i : Int)) (h1 : i < N) (hN : N ≤ 4096) (k : G V E (mset μ k0 i z) (pc + 1) L st) : G V E μ pc L (vi z :: vi a :: vr V k0 :: st) := by
  subst hi
  exact g_iast hX d hk (by omega) (by omega) hN k
theorem g_zaldN {i : Nat} (hX : OkX V E own cc n lvl) (d : decode cc pc = .ok (.baload, 1)) {a : Int} (hi : a = (i : Int)) (h1 : i < 40) (k : G V E μ (pc + 1) L (vi (μ 84 i) :: st)) : G V E μ pc L (vi a :: vr V 84 :: st) := by
  subst hi
  exact g_zald hX d (by omega) (by omega) k
theorem g_zastN {i : Nat} (hX : OkX V E own cc n lvl) (d : decode cc pc = .ok (.bastore, 1)) {a z : Int} (hz : z = 0 ∨ z = 1) (hi : a = (i : Int)) (h1 : i < 40) (k : G V E (mset μ 84 i z) (pc + 1) L st) : G V E μ pc L (vi z :: vi a :: vr V 84 :: st) := by
  subst hi
  exact g_zast hX d hz (by omega) (by omega) k
theorem g_ald_parts {i : Nat} (hX : OkX V E own cc n lvl) (d : decode cc pc = .ok (.aaload, 1)) {a : Int} (hi : a = (i : Int)) (h1 : i < 40) (k : G V E μ (pc + 1) L (vr V i :: st)) : G V E μ pc L (vi a :: vr V 64 :: st) := by
  subst hi
  exact g_aald (k0 := 64) (N := 40) (o := 0) hX d (Or.inl ⟨rfl, rfl, rfl⟩) (by omega) (by omega) (by rw [Nat.zero_add, Int.toNat_natCast]; exact k)
theorem g_ald_beds {i : Nat} (hX : OkX V E own cc n lvl) (d : decode cc pc = .ok (.aaload, 1)) {a : Int} (hi : a = (i : Int)) (h1 : i < 3) (k : G V E μ (pc + 1) L (vr V (40 + i) :: st)) : G V E μ pc L (vi a :: vr V 65 :: st) := by
  subst hi
  exact g_aald (k0 := 65) (N := 3) (o := 40) hX d (Or.inr (Or.inl ⟨rfl, rfl, rfl⟩)) (by omega) (by omega) k
theorem g_ald_stacks {i : Nat} (hX : OkX V E own cc n lvl) (d : decode cc pc = .ok (.aaload, 1)) {a : Int} (hi : a = (i : Int)) (h1 : i < 5) (k : G V E μ (pc + 1) L (vr V (43 + i) :: st)) : G V E μ pc L (vi a :: vr V 66 :: st) := by
  subst hi
  exact g_aald (k0 := 66) (N := 5) (o := 43) hX d (Or.inr (Or.inr (Or.inl ⟨rfl, rfl, rfl⟩))) (by omega) (by omega) k
theorem g_ald_piles {i : Nat} (hX : OkX V E own cc n lvl) (d : decode cc pc = .ok (.aaload, 1)) {a : Int} (hi : a = (i : Int)) (h1 : i < 5) (k : G V E μ (pc + 1) L (vr V (53 + i) :: st)) : G V E μ pc L (vi a :: vr V 73 :: st) := by
  subst hi
  exact g_aald (k0 := 73) (N := 5) (o := 53) hX d (Or.inr (Or.inr (Or.inr ⟨rfl, rfl, rfl⟩))) (by omega) (by omega) k
/-! what a method leaves -/
def pI (P : Int → Mem → Prop) : Option Value → Mem → Prop := fun r μ' => ∃ z, r = some (vi z) ∧ P z μ'
def pV (P : Mem → Prop) : Option Value → Mem → Prop := fun r μ' => r = none ∧ P μ'
def pR (V : VX) (P : Option Nat → Mem → Prop) : Option Value → Mem → Prop := fun r μ' => ∃ k, r = some (vrf V k) ∧ P k μ'

theorem g_v0I {y : MethodName} {cc' : ByteArray} {n' lvl' idx : Nat} {ret' : Option FieldType} {P : Int → Mem → Prop}  {k0 c0 : Nat} (hX : OkX V E own cc n lvl) (lk : LkV own idx y cc' n' ret' 0) (d : decode cc pc = .ok (.invokevirtual idx, 3)) (hk : okd k0 = c0) (hc : ∃ q : vw_C, vwCl[c0]? = some q ∧ q.1 = y.cls)
    (hC : Ct E.1.2.1 y cc' n' ret' lvl' V (vr V k0 :: []) μ (pI P)) (hlv : lvl' < lvl) (hn' : n' ≤ 21) (hLn : L.length = n) (hcat : (st.map fun v => v.category).sum ≤ 8) (k : ∀ z μ', P z μ' → G V E μ' (pc + 3) L (vi z :: st)) : G V E μ pc L (vr V k0 :: st) :=
  g_callV (as := []) hX lk d hk hc hC hlv hn' rfl hLn rfl hcat (fun r μ' hp => by obtain ⟨z, rfl, hp⟩ := hp; exact k z μ' hp)
theorem g_s0I {y : MethodName} {cc' : ByteArray} {n' lvl' idx : Nat} {ret' : Option FieldType} {P : Int → Mem → Prop}  (hX : OkX V E own cc n lvl) (lk : LkS own idx y cc' n' ret' 0) (d : decode cc pc = .ok (.invokestatic idx, 3))
    (hC : Ct E.1.2.1 y cc' n' ret' lvl' V [] μ (pI P)) (hlv : lvl' < lvl) (hn' : n' ≤ 21) (hLn : L.length = n) (hcat : (st.map fun v => v.category).sum ≤ 8) (k : ∀ z μ', P z μ' → G V E μ' (pc + 3) L (vi z :: st)) : G V E μ pc L (st) :=
  g_callS (as := []) hX lk d hC hlv hn' rfl hLn rfl hcat (fun r μ' hp => by obtain ⟨z, rfl, hp⟩ := hp; exact k z μ' hp)
theorem g_v0V {y : MethodName} {cc' : ByteArray} {n' lvl' idx : Nat} {ret' : Option FieldType} {P : Mem → Prop}  {k0 c0 : Nat} (hX : OkX V E own cc n lvl) (lk : LkV own idx y cc' n' ret' 0) (d : decode cc pc = .ok (.invokevirtual idx, 3)) (hk : okd k0 = c0) (hc : ∃ q : vw_C, vwCl[c0]? = some q ∧ q.1 = y.cls)
    (hC : Ct E.1.2.1 y cc' n' ret' lvl' V (vr V k0 :: []) μ (pV P)) (hlv : lvl' < lvl) (hn' : n' ≤ 21) (hLn : L.length = n) (hcat : (st.map fun v => v.category).sum ≤ 8) (k : ∀ μ', P μ' → G V E μ' (pc + 3) L (st)) : G V E μ pc L (vr V k0 :: st) :=
  g_callV (as := []) hX lk d hk hc hC hlv hn' rfl hLn rfl hcat (fun r μ' hp => by obtain ⟨rfl, hp⟩ := hp; exact k μ' hp)
theorem g_s0V {y : MethodName} {cc' : ByteArray} {n' lvl' idx : Nat} {ret' : Option FieldType} {P : Mem → Prop}  (hX : OkX V E own cc n lvl) (lk : LkS own idx y cc' n' ret' 0) (d : decode cc pc = .ok (.invokestatic idx, 3))
    (hC : Ct E.1.2.1 y cc' n' ret' lvl' V [] μ (pV P)) (hlv : lvl' < lvl) (hn' : n' ≤ 21) (hLn : L.length = n) (hcat : (st.map fun v => v.category).sum ≤ 8) (k : ∀ μ', P μ' → G V E μ' (pc + 3) L (st)) : G V E μ pc L (st) :=
  g_callS (as := []) hX lk d hC hlv hn' rfl hLn rfl hcat (fun r μ' hp => by obtain ⟨rfl, hp⟩ := hp; exact k μ' hp)
theorem g_v0R {y : MethodName} {cc' : ByteArray} {n' lvl' idx : Nat} {ret' : Option FieldType} {P : Option Nat → Mem → Prop}  {k0 c0 : Nat} (hX : OkX V E own cc n lvl) (lk : LkV own idx y cc' n' ret' 0) (d : decode cc pc = .ok (.invokevirtual idx, 3)) (hk : okd k0 = c0) (hc : ∃ q : vw_C, vwCl[c0]? = some q ∧ q.1 = y.cls)
    (hC : Ct E.1.2.1 y cc' n' ret' lvl' V (vr V k0 :: []) μ (pR V P)) (hlv : lvl' < lvl) (hn' : n' ≤ 21) (hLn : L.length = n) (hcat : (st.map fun v => v.category).sum ≤ 8) (k : ∀ r μ', P r μ' → G V E μ' (pc + 3) L (vrf V r :: st)) : G V E μ pc L (vr V k0 :: st) :=
  g_callV (as := []) hX lk d hk hc hC hlv hn' rfl hLn rfl hcat (fun r μ' hp => by obtain ⟨z, rfl, hp⟩ := hp; exact k z μ' hp)
theorem g_s0R {y : MethodName} {cc' : ByteArray} {n' lvl' idx : Nat} {ret' : Option FieldType} {P : Option Nat → Mem → Prop}  (hX : OkX V E own cc n lvl) (lk : LkS own idx y cc' n' ret' 0) (d : decode cc pc = .ok (.invokestatic idx, 3))
    (hC : Ct E.1.2.1 y cc' n' ret' lvl' V [] μ (pR V P)) (hlv : lvl' < lvl) (hn' : n' ≤ 21) (hLn : L.length = n) (hcat : (st.map fun v => v.category).sum ≤ 8) (k : ∀ r μ', P r μ' → G V E μ' (pc + 3) L (vrf V r :: st)) : G V E μ pc L (st) :=
  g_callS (as := []) hX lk d hC hlv hn' rfl hLn rfl hcat (fun r μ' hp => by obtain ⟨z, rfl, hp⟩ := hp; exact k z μ' hp)
theorem g_v1I {y : MethodName} {cc' : ByteArray} {n' lvl' idx : Nat} {ret' : Option FieldType} {P : Int → Mem → Prop} {x0 : Value} {k0 c0 : Nat} (hX : OkX V E own cc n lvl) (lk : LkV own idx y cc' n' ret' 1) (d : decode cc pc = .ok (.invokevirtual idx, 3)) (hk : okd k0 = c0) (hc : ∃ q : vw_C, vwCl[c0]? = some q ∧ q.1 = y.cls)
    (hC : Ct E.1.2.1 y cc' n' ret' lvl' V (vr V k0 :: [x0]) μ (pI P)) (hlv : lvl' < lvl) (hn' : n' ≤ 21) (hLn : L.length = n) (hcat : (st.map fun v => v.category).sum ≤ 8) (k : ∀ z μ', P z μ' → G V E μ' (pc + 3) L (vi z :: st)) : G V E μ pc L (x0 :: vr V k0 :: st) :=
  g_callV (as := [x0]) hX lk d hk hc hC hlv hn' rfl hLn rfl hcat (fun r μ' hp => by obtain ⟨z, rfl, hp⟩ := hp; exact k z μ' hp)
theorem g_s1I {y : MethodName} {cc' : ByteArray} {n' lvl' idx : Nat} {ret' : Option FieldType} {P : Int → Mem → Prop} {x0 : Value} (hX : OkX V E own cc n lvl) (lk : LkS own idx y cc' n' ret' 1) (d : decode cc pc = .ok (.invokestatic idx, 3))
    (hC : Ct E.1.2.1 y cc' n' ret' lvl' V [x0] μ (pI P)) (hlv : lvl' < lvl) (hn' : n' ≤ 21) (hLn : L.length = n) (hcat : (st.map fun v => v.category).sum ≤ 8) (k : ∀ z μ', P z μ' → G V E μ' (pc + 3) L (vi z :: st)) : G V E μ pc L (x0 :: st) :=
  g_callS (as := [x0]) hX lk d hC hlv hn' rfl hLn rfl hcat (fun r μ' hp => by obtain ⟨z, rfl, hp⟩ := hp; exact k z μ' hp)
theorem g_v1V {y : MethodName} {cc' : ByteArray} {n' lvl' idx : Nat} {ret' : Option FieldType} {P : Mem → Prop} {x0 : Value} {k0 c0 : Nat} (hX : OkX V E own cc n lvl) (lk : LkV own idx y cc' n' ret' 1) (d : decode cc pc = .ok (.invokevirtual idx, 3)) (hk : okd k0 = c0) (hc : ∃ q : vw_C, vwCl[c0]? = some q ∧ q.1 = y.cls)
    (hC : Ct E.1.2.1 y cc' n' ret' lvl' V (vr V k0 :: [x0]) μ (pV P)) (hlv : lvl' < lvl) (hn' : n' ≤ 21) (hLn : L.length = n) (hcat : (st.map fun v => v.category).sum ≤ 8) (k : ∀ μ', P μ' → G V E μ' (pc + 3) L (st)) : G V E μ pc L (x0 :: vr V k0 :: st) :=
  g_callV (as := [x0]) hX lk d hk hc hC hlv hn' rfl hLn rfl hcat (fun r μ' hp => by obtain ⟨rfl, hp⟩ := hp; exact k μ' hp)
theorem g_s1V {y : MethodName} {cc' : ByteArray} {n' lvl' idx : Nat} {ret' : Option FieldType} {P : Mem → Prop} {x0 : Value} (hX : OkX V E own cc n lvl) (lk : LkS own idx y cc' n' ret' 1) (d : decode cc pc = .ok (.invokestatic idx, 3))
    (hC : Ct E.1.2.1 y cc' n' ret' lvl' V [x0] μ (pV P)) (hlv : lvl' < lvl) (hn' : n' ≤ 21) (hLn : L.length = n) (hcat : (st.map fun v => v.category).sum ≤ 8) (k : ∀ μ', P μ' → G V E μ' (pc + 3) L (st)) : G V E μ pc L (x0 :: st) :=
  g_callS (as := [x0]) hX lk d hC hlv hn' rfl hLn rfl hcat (fun r μ' hp => by obtain ⟨rfl, hp⟩ := hp; exact k μ' hp)
theorem g_v1R {y : MethodName} {cc' : ByteArray} {n' lvl' idx : Nat} {ret' : Option FieldType} {P : Option Nat → Mem → Prop} {x0 : Value} {k0 c0 : Nat} (hX : OkX V E own cc n lvl) (lk : LkV own idx y cc' n' ret' 1) (d : decode cc pc = .ok (.invokevirtual idx, 3)) (hk : okd k0 = c0) (hc : ∃ q : vw_C, vwCl[c0]? = some q ∧ q.1 = y.cls)
    (hC : Ct E.1.2.1 y cc' n' ret' lvl' V (vr V k0 :: [x0]) μ (pR V P)) (hlv : lvl' < lvl) (hn' : n' ≤ 21) (hLn : L.length = n) (hcat : (st.map fun v => v.category).sum ≤ 8) (k : ∀ r μ', P r μ' → G V E μ' (pc + 3) L (vrf V r :: st)) : G V E μ pc L (x0 :: vr V k0 :: st) :=
  g_callV (as := [x0]) hX lk d hk hc hC hlv hn' rfl hLn rfl hcat (fun r μ' hp => by obtain ⟨z, rfl, hp⟩ := hp; exact k z μ' hp)
theorem g_s1R {y : MethodName} {cc' : ByteArray} {n' lvl' idx : Nat} {ret' : Option FieldType} {P : Option Nat → Mem → Prop} {x0 : Value} (hX : OkX V E own cc n lvl) (lk : LkS own idx y cc' n' ret' 1) (d : decode cc pc = .ok (.invokestatic idx, 3))
    (hC : Ct E.1.2.1 y cc' n' ret' lvl' V [x0] μ (pR V P)) (hlv : lvl' < lvl) (hn' : n' ≤ 21) (hLn : L.length = n) (hcat : (st.map fun v => v.category).sum ≤ 8) (k : ∀ r μ', P r μ' → G V E μ' (pc + 3) L (vrf V r :: st)) : G V E μ pc L (x0 :: st) :=
  g_callS (as := [x0]) hX lk d hC hlv hn' rfl hLn rfl hcat (fun r μ' hp => by obtain ⟨z, rfl, hp⟩ := hp; exact k z μ' hp)
theorem g_v2I {y : MethodName} {cc' : ByteArray} {n' lvl' idx : Nat} {ret' : Option FieldType} {P : Int → Mem → Prop} {x0 x1 : Value} {k0 c0 : Nat} (hX : OkX V E own cc n lvl) (lk : LkV own idx y cc' n' ret' 2) (d : decode cc pc = .ok (.invokevirtual idx, 3)) (hk : okd k0 = c0) (hc : ∃ q : vw_C, vwCl[c0]? = some q ∧ q.1 = y.cls)
    (hC : Ct E.1.2.1 y cc' n' ret' lvl' V (vr V k0 :: [x0, x1]) μ (pI P)) (hlv : lvl' < lvl) (hn' : n' ≤ 21) (hLn : L.length = n) (hcat : (st.map fun v => v.category).sum ≤ 8) (k : ∀ z μ', P z μ' → G V E μ' (pc + 3) L (vi z :: st)) : G V E μ pc L (x1 :: x0 :: vr V k0 :: st) :=
  g_callV (as := [x0, x1]) hX lk d hk hc hC hlv hn' rfl hLn rfl hcat (fun r μ' hp => by obtain ⟨z, rfl, hp⟩ := hp; exact k z μ' hp)
theorem g_s2I {y : MethodName} {cc' : ByteArray} {n' lvl' idx : Nat} {ret' : Option FieldType} {P : Int → Mem → Prop} {x0 x1 : Value} (hX : OkX V E own cc n lvl) (lk : LkS own idx y cc' n' ret' 2) (d : decode cc pc = .ok (.invokestatic idx, 3))
    (hC : Ct E.1.2.1 y cc' n' ret' lvl' V [x0, x1] μ (pI P)) (hlv : lvl' < lvl) (hn' : n' ≤ 21) (hLn : L.length = n) (hcat : (st.map fun v => v.category).sum ≤ 8) (k : ∀ z μ', P z μ' → G V E μ' (pc + 3) L (vi z :: st)) : G V E μ pc L (x1 :: x0 :: st) :=
  g_callS (as := [x0, x1]) hX lk d hC hlv hn' rfl hLn rfl hcat (fun r μ' hp => by obtain ⟨z, rfl, hp⟩ := hp; exact k z μ' hp)
theorem g_v2V {y : MethodName} {cc' : ByteArray} {n' lvl' idx : Nat} {ret' : Option FieldType} {P : Mem → Prop} {x0 x1 : Value} {k0 c0 : Nat} (hX : OkX V E own cc n lvl) (lk : LkV own idx y cc' n' ret' 2) (d : decode cc pc = .ok (.invokevirtual idx, 3)) (hk : okd k0 = c0) (hc : ∃ q : vw_C, vwCl[c0]? = some q ∧ q.1 = y.cls)
    (hC : Ct E.1.2.1 y cc' n' ret' lvl' V (vr V k0 :: [x0, x1]) μ (pV P)) (hlv : lvl' < lvl) (hn' : n' ≤ 21) (hLn : L.length = n) (hcat : (st.map fun v => v.category).sum ≤ 8) (k : ∀ μ', P μ' → G V E μ' (pc + 3) L (st)) : G V E μ pc L (x1 :: x0 :: vr V k0 :: st) :=
  g_callV (as := [x0, x1]) hX lk d hk hc hC hlv hn' rfl hLn rfl hcat (fun r μ' hp => by obtain ⟨rfl, hp⟩ := hp; exact k μ' hp)
theorem g_s2V {y : MethodName} {cc' : ByteArray} {n' lvl' idx : Nat} {ret' : Option FieldType} {P : Mem → Prop} {x0 x1 : Value} (hX : OkX V E own cc n lvl) (lk : LkS own idx y cc' n' ret' 2) (d : decode cc pc = .ok (.invokestatic idx, 3))
    (hC : Ct E.1.2.1 y cc' n' ret' lvl' V [x0, x1] μ (pV P)) (hlv : lvl' < lvl) (hn' : n' ≤ 21) (hLn : L.length = n) (hcat : (st.map fun v => v.category).sum ≤ 8) (k : ∀ μ', P μ' → G V E μ' (pc + 3) L (st)) : G V E μ pc L (x1 :: x0 :: st) :=
  g_callS (as := [x0, x1]) hX lk d hC hlv hn' rfl hLn rfl hcat (fun r μ' hp => by obtain ⟨rfl, hp⟩ := hp; exact k μ' hp)
theorem g_v2R {y : MethodName} {cc' : ByteArray} {n' lvl' idx : Nat} {ret' : Option FieldType} {P : Option Nat → Mem → Prop} {x0 x1 : Value} {k0 c0 : Nat} (hX : OkX V E own cc n lvl) (lk : LkV own idx y cc' n' ret' 2) (d : decode cc pc = .ok (.invokevirtual idx, 3)) (hk : okd k0 = c0) (hc : ∃ q : vw_C, vwCl[c0]? = some q ∧ q.1 = y.cls)
    (hC : Ct E.1.2.1 y cc' n' ret' lvl' V (vr V k0 :: [x0, x1]) μ (pR V P)) (hlv : lvl' < lvl) (hn' : n' ≤ 21) (hLn : L.length = n) (hcat : (st.map fun v => v.category).sum ≤ 8) (k : ∀ r μ', P r μ' → G V E μ' (pc + 3) L (vrf V r :: st)) : G V E μ pc L (x1 :: x0 :: vr V k0 :: st) :=
  g_callV (as := [x0, x1]) hX lk d hk hc hC hlv hn' rfl hLn rfl hcat (fun r μ' hp => by obtain ⟨z, rfl, hp⟩ := hp; exact k z μ' hp)
theorem g_s2R {y : MethodName} {cc' : ByteArray} {n' lvl' idx : Nat} {ret' : Option FieldType} {P : Option Nat → Mem → Prop} {x0 x1 : Value} (hX : OkX V E own cc n lvl) (lk : LkS own idx y cc' n' ret' 2) (d : decode cc pc = .ok (.invokestatic idx, 3))
    (hC : Ct E.1.2.1 y cc' n' ret' lvl' V [x0, x1] μ (pR V P)) (hlv : lvl' < lvl) (hn' : n' ≤ 21) (hLn : L.length = n) (hcat : (st.map fun v => v.category).sum ≤ 8) (k : ∀ r μ', P r μ' → G V E μ' (pc + 3) L (vrf V r :: st)) : G V E μ pc L (x1 :: x0 :: st) :=
  g_callS (as := [x0, x1]) hX lk d hC hlv hn' rfl hLn rfl hcat (fun r μ' hp => by obtain ⟨z, rfl, hp⟩ := hp; exact k z μ' hp)
theorem g_v3I {y : MethodName} {cc' : ByteArray} {n' lvl' idx : Nat} {ret' : Option FieldType} {P : Int → Mem → Prop} {x0 x1 x2 : Value} {k0 c0 : Nat} (hX : OkX V E own cc n lvl) (lk : LkV own idx y cc' n' ret' 3) (d : decode cc pc = .ok (.invokevirtual idx, 3)) (hk : okd k0 = c0) (hc : ∃ q : vw_C, vwCl[c0]? = some q ∧ q.1 = y.cls)
    (hC : Ct E.1.2.1 y cc' n' ret' lvl' V (vr V k0 :: [x0, x1, x2]) μ (pI P)) (hlv : lvl' < lvl) (hn' : n' ≤ 21) (hLn : L.length = n) (hcat : (st.map fun v => v.category).sum ≤ 8) (k : ∀ z μ', P z μ' → G V E μ' (pc + 3) L (vi z :: st)) : G V E μ pc L (x2 :: x1 :: x0 :: vr V k0 :: st) :=
  g_callV (as := [x0, x1, x2]) hX lk d hk hc hC hlv hn' rfl hLn rfl hcat (fun r μ' hp => by obtain ⟨z, rfl, hp⟩ := hp; exact k z μ' hp)
theorem g_s3I {y : MethodName} {cc' : ByteArray} {n' lvl' idx : Nat} {ret' : Option FieldType} {P : Int → Mem → Prop} {x0 x1 x2 : Value} (hX : OkX V E own cc n lvl) (lk : LkS own idx y cc' n' ret' 3) (d : decode cc pc = .ok (.invokestatic idx, 3))
    (hC : Ct E.1.2.1 y cc' n' ret' lvl' V [x0, x1, x2] μ (pI P)) (hlv : lvl' < lvl) (hn' : n' ≤ 21) (hLn : L.length = n) (hcat : (st.map fun v => v.category).sum ≤ 8) (k : ∀ z μ', P z μ' → G V E μ' (pc + 3) L (vi z :: st)) : G V E μ pc L (x2 :: x1 :: x0 :: st) :=
  g_callS (as := [x0, x1, x2]) hX lk d hC hlv hn' rfl hLn rfl hcat (fun r μ' hp => by obtain ⟨z, rfl, hp⟩ := hp; exact k z μ' hp)
theorem g_v3V {y : MethodName} {cc' : ByteArray} {n' lvl' idx : Nat} {ret' : Option FieldType} {P : Mem → Prop} {x0 x1 x2 : Value} {k0 c0 : Nat} (hX : OkX V E own cc n lvl) (lk : LkV own idx y cc' n' ret' 3) (d : decode cc pc = .ok (.invokevirtual idx, 3)) (hk : okd k0 = c0) (hc : ∃ q : vw_C, vwCl[c0]? = some q ∧ q.1 = y.cls)
    (hC : Ct E.1.2.1 y cc' n' ret' lvl' V (vr V k0 :: [x0, x1, x2]) μ (pV P)) (hlv : lvl' < lvl) (hn' : n' ≤ 21) (hLn : L.length = n) (hcat : (st.map fun v => v.category).sum ≤ 8) (k : ∀ μ', P μ' → G V E μ' (pc + 3) L (st)) : G V E μ pc L (x2 :: x1 :: x0 :: vr V k0 :: st) :=
  g_callV (as := [x0, x1, x2]) hX lk d hk hc hC hlv hn' rfl hLn rfl hcat (fun r μ' hp => by obtain ⟨rfl, hp⟩ := hp; exact k μ' hp)
theorem g_s3V {y : MethodName} {cc' : ByteArray} {n' lvl' idx : Nat} {ret' : Option FieldType} {P : Mem → Prop} {x0 x1 x2 : Value} (hX : OkX V E own cc n lvl) (lk : LkS own idx y cc' n' ret' 3) (d : decode cc pc = .ok (.invokestatic idx, 3))
    (hC : Ct E.1.2.1 y cc' n' ret' lvl' V [x0, x1, x2] μ (pV P)) (hlv : lvl' < lvl) (hn' : n' ≤ 21) (hLn : L.length = n) (hcat : (st.map fun v => v.category).sum ≤ 8) (k : ∀ μ', P μ' → G V E μ' (pc + 3) L (st)) : G V E μ pc L (x2 :: x1 :: x0 :: st) :=
  g_callS (as := [x0, x1, x2]) hX lk d hC hlv hn' rfl hLn rfl hcat (fun r μ' hp => by obtain ⟨rfl, hp⟩ := hp; exact k μ' hp)
theorem g_v3R {y : MethodName} {cc' : ByteArray} {n' lvl' idx : Nat} {ret' : Option FieldType} {P : Option Nat → Mem → Prop} {x0 x1 x2 : Value} {k0 c0 : Nat} (hX : OkX V E own cc n lvl) (lk : LkV own idx y cc' n' ret' 3) (d : decode cc pc = .ok (.invokevirtual idx, 3)) (hk : okd k0 = c0) (hc : ∃ q : vw_C, vwCl[c0]? = some q ∧ q.1 = y.cls)
    (hC : Ct E.1.2.1 y cc' n' ret' lvl' V (vr V k0 :: [x0, x1, x2]) μ (pR V P)) (hlv : lvl' < lvl) (hn' : n' ≤ 21) (hLn : L.length = n) (hcat : (st.map fun v => v.category).sum ≤ 8) (k : ∀ r μ', P r μ' → G V E μ' (pc + 3) L (vrf V r :: st)) : G V E μ pc L (x2 :: x1 :: x0 :: vr V k0 :: st) :=
  g_callV (as := [x0, x1, x2]) hX lk d hk hc hC hlv hn' rfl hLn rfl hcat (fun r μ' hp => by obtain ⟨z, rfl, hp⟩ := hp; exact k z μ' hp)
theorem g_s3R {y : MethodName} {cc' : ByteArray} {n' lvl' idx : Nat} {ret' : Option FieldType} {P : Option Nat → Mem → Prop} {x0 x1 x2 : Value} (hX : OkX V E own cc n lvl) (lk : LkS own idx y cc' n' ret' 3) (d : decode cc pc = .ok (.invokestatic idx, 3))
    (hC : Ct E.1.2.1 y cc' n' ret' lvl' V [x0, x1, x2] μ (pR V P)) (hlv : lvl' < lvl) (hn' : n' ≤ 21) (hLn : L.length = n) (hcat : (st.map fun v => v.category).sum ≤ 8) (k : ∀ r μ', P r μ' → G V E μ' (pc + 3) L (vrf V r :: st)) : G V E μ pc L (x2 :: x1 :: x0 :: st) :=
  g_callS (as := [x0, x1, x2]) hX lk d hC hlv hn' rfl hLn rfl hcat (fun r μ' hp => by obtain ⟨z, rfl, hp⟩ := hp; exact k z μ' hp)
theorem g_v4I {y : MethodName} {cc' : ByteArray} {n' lvl' idx : Nat} {ret' : Option FieldType} {P : Int → Mem → Prop} {x0 x1 x2 x3 : Value} {k0 c0 : Nat} (hX : OkX V E own cc n lvl) (lk : LkV own idx y cc' n' ret' 4) (d : decode cc pc = .ok (.invokevirtual idx, 3)) (hk : okd k0 = c0) (hc : ∃ q : vw_C, vwCl[c0]? = some q ∧ q.1 = y.cls)
    (hC : Ct E.1.2.1 y cc' n' ret' lvl' V (vr V k0 :: [x0, x1, x2, x3]) μ (pI P)) (hlv : lvl' < lvl) (hn' : n' ≤ 21) (hLn : L.length = n) (hcat : (st.map fun v => v.category).sum ≤ 8) (k : ∀ z μ', P z μ' → G V E μ' (pc + 3) L (vi z :: st)) : G V E μ pc L (x3 :: x2 :: x1 :: x0 :: vr V k0 :: st) :=
  g_callV (as := [x0, x1, x2, x3]) hX lk d hk hc hC hlv hn' rfl hLn rfl hcat (fun r μ' hp => by obtain ⟨z, rfl, hp⟩ := hp; exact k z μ' hp)
theorem g_s4I {y : MethodName} {cc' : ByteArray} {n' lvl' idx : Nat} {ret' : Option FieldType} {P : Int → Mem → Prop} {x0 x1 x2 x3 : Value} (hX : OkX V E own cc n lvl) (lk : LkS own idx y cc' n' ret' 4) (d : decode cc pc = .ok (.invokestatic idx, 3))
    (hC : Ct E.1.2.1 y cc' n' ret' lvl' V [x0, x1, x2, x3] μ (pI P)) (hlv : lvl' < lvl) (hn' : n' ≤ 21) (hLn : L.length = n) (hcat : (st.map fun v => v.category).sum ≤ 8) (k : ∀ z μ', P z μ' → G V E μ' (pc + 3) L (vi z :: st)) : G V E μ pc L (x3 :: x2 :: x1 :: x0 :: st) :=
  g_callS (as := [x0, x1, x2, x3]) hX lk d hC hlv hn' rfl hLn rfl hcat (fun r μ' hp => by obtain ⟨z, rfl, hp⟩ := hp; exact k z μ' hp)
theorem g_v4V {y : MethodName} {cc' : ByteArray} {n' lvl' idx : Nat} {ret' : Option FieldType} {P : Mem → Prop} {x0 x1 x2 x3 : Value} {k0 c0 : Nat} (hX : OkX V E own cc n lvl) (lk : LkV own idx y cc' n' ret' 4) (d : decode cc pc = .ok (.invokevirtual idx, 3)) (hk : okd k0 = c0) (hc : ∃ q : vw_C, vwCl[c0]? = some q ∧ q.1 = y.cls)
    (hC : Ct E.1.2.1 y cc' n' ret' lvl' V (vr V k0 :: [x0, x1, x2, x3]) μ (pV P)) (hlv : lvl' < lvl) (hn' : n' ≤ 21) (hLn : L.length = n) (hcat : (st.map fun v => v.category).sum ≤ 8) (k : ∀ μ', P μ' → G V E μ' (pc + 3) L (st)) : G V E μ pc L (x3 :: x2 :: x1 :: x0 :: vr V k0 :: st) :=
  g_callV (as := [x0, x1, x2, x3]) hX lk d hk hc hC hlv hn' rfl hLn rfl hcat (fun r μ' hp => by obtain ⟨rfl, hp⟩ := hp; exact k μ' hp)
theorem g_s4V {y : MethodName} {cc' : ByteArray} {n' lvl' idx : Nat} {ret' : Option FieldType} {P : Mem → Prop} {x0 x1 x2 x3 : Value} (hX : OkX V E own cc n lvl) (lk : LkS own idx y cc' n' ret' 4) (d : decode cc pc = .ok (.invokestatic idx, 3))
    (hC : Ct E.1.2.1 y cc' n' ret' lvl' V [x0, x1, x2, x3] μ (pV P)) (hlv : lvl' < lvl) (hn' : n' ≤ 21) (hLn : L.length = n) (hcat : (st.map fun v => v.category).sum ≤ 8) (k : ∀ μ', P μ' → G V E μ' (pc + 3) L (st)) : G V E μ pc L (x3 :: x2 :: x1 :: x0 :: st) :=
  g_callS (as := [x0, x1, x2, x3]) hX lk d hC hlv hn' rfl hLn rfl hcat (fun r μ' hp => by obtain ⟨rfl, hp⟩ := hp; exact k μ' hp)
theorem g_v4R {y : MethodName} {cc' : ByteArray} {n' lvl' idx : Nat} {ret' : Option FieldType} {P : Option Nat → Mem → Prop} {x0 x1 x2 x3 : Value} {k0 c0 : Nat} (hX : OkX V E own cc n lvl) (lk : LkV own idx y cc' n' ret' 4) (d : decode cc pc = .ok (.invokevirtual idx, 3)) (hk : okd k0 = c0) (hc : ∃ q : vw_C, vwCl[c0]? = some q ∧ q.1 = y.cls)
    (hC : Ct E.1.2.1 y cc' n' ret' lvl' V (vr V k0 :: [x0, x1, x2, x3]) μ (pR V P)) (hlv : lvl' < lvl) (hn' : n' ≤ 21) (hLn : L.length = n) (hcat : (st.map fun v => v.category).sum ≤ 8) (k : ∀ r μ', P r μ' → G V E μ' (pc + 3) L (vrf V r :: st)) : G V E μ pc L (x3 :: x2 :: x1 :: x0 :: vr V k0 :: st) :=
  g_callV (as := [x0, x1, x2, x3]) hX lk d hk hc hC hlv hn' rfl hLn rfl hcat (fun r μ' hp => by obtain ⟨z, rfl, hp⟩ := hp; exact k z μ' hp)
theorem g_s4R {y : MethodName} {cc' : ByteArray} {n' lvl' idx : Nat} {ret' : Option FieldType} {P : Option Nat → Mem → Prop} {x0 x1 x2 x3 : Value} (hX : OkX V E own cc n lvl) (lk : LkS own idx y cc' n' ret' 4) (d : decode cc pc = .ok (.invokestatic idx, 3))
    (hC : Ct E.1.2.1 y cc' n' ret' lvl' V [x0, x1, x2, x3] μ (pR V P)) (hlv : lvl' < lvl) (hn' : n' ≤ 21) (hLn : L.length = n) (hcat : (st.map fun v => v.category).sum ≤ 8) (k : ∀ r μ', P r μ' → G V E μ' (pc + 3) L (vrf V r :: st)) : G V E μ pc L (x3 :: x2 :: x1 :: x0 :: st) :=
  g_callS (as := [x0, x1, x2, x3]) hX lk d hC hlv hn' rfl hLn rfl hcat (fun r μ' hp => by obtain ⟨z, rfl, hp⟩ := hp; exact k z μ' hp)
end GN
end
section
section ST
variable {V : VX} {E : EX} {own : String} {cc : ByteArray} {n lvl pc : Nat} {μ : Mem} {st : List Value}
theorem st_astore_5_4 (hX : OkX V E own cc n lvl) (d : decode cc pc = .ok (.astore 4, 2)) {a0 a1 a2 a3 a4 : Option Value} {a : Nat} (hc : ckV a3) (k : G V E μ (pc + 2) [a0, a1, a2, a3, some (vr V a)] st) : G V E μ pc [a0, a1, a2, a3, a4] (vr V a :: st) := g_astore hX d (L := [a0, a1, a2, a3, a4]) (Nat.le_of_ble_eq_true rfl) rfl (fun j v h e => by obtain rfl : j = 3 := (by omega); exact hc v (Option.some.inj h)) k
theorem st_astore_6_5 (hX : OkX V E own cc n lvl) (d : decode cc pc = .ok (.astore 5, 2)) {a0 a1 a2 a3 a4 a5 : Option Value} {a : Nat} (hc : ckV a4) (k : G V E μ (pc + 2) [a0, a1, a2, a3, a4, some (vr V a)] st) : G V E μ pc [a0, a1, a2, a3, a4, a5] (vr V a :: st) := g_astore hX d (L := [a0, a1, a2, a3, a4, a5]) (Nat.le_of_ble_eq_true rfl) rfl (fun j v h e => by obtain rfl : j = 4 := (by omega); exact hc v (Option.some.inj h)) k
theorem st_astore_7_4 (hX : OkX V E own cc n lvl) (d : decode cc pc = .ok (.astore 4, 2)) {a0 a1 a2 a3 a4 a5 a6 : Option Value} {a : Nat} (hc : ckV a3) (k : G V E μ (pc + 2) [a0, a1, a2, a3, some (vr V a), a5, a6] st) : G V E μ pc [a0, a1, a2, a3, a4, a5, a6] (vr V a :: st) := g_astore hX d (L := [a0, a1, a2, a3, a4, a5, a6]) (Nat.le_of_ble_eq_true rfl) rfl (fun j v h e => by obtain rfl : j = 3 := (by omega); exact hc v (Option.some.inj h)) k
theorem st_astore_7_5 (hX : OkX V E own cc n lvl) (d : decode cc pc = .ok (.astore 5, 2)) {a0 a1 a2 a3 a4 a5 a6 : Option Value} {a : Nat} (hc : ckV a4) (k : G V E μ (pc + 2) [a0, a1, a2, a3, a4, some (vr V a), a6] st) : G V E μ pc [a0, a1, a2, a3, a4, a5, a6] (vr V a :: st) := g_astore hX d (L := [a0, a1, a2, a3, a4, a5, a6]) (Nat.le_of_ble_eq_true rfl) rfl (fun j v h e => by obtain rfl : j = 4 := (by omega); exact hc v (Option.some.inj h)) k
theorem st_astore_7_6 (hX : OkX V E own cc n lvl) (d : decode cc pc = .ok (.astore 6, 2)) {a0 a1 a2 a3 a4 a5 a6 : Option Value} {a : Nat} (hc : ckV a5) (k : G V E μ (pc + 2) [a0, a1, a2, a3, a4, a5, some (vr V a)] st) : G V E μ pc [a0, a1, a2, a3, a4, a5, a6] (vr V a :: st) := g_astore hX d (L := [a0, a1, a2, a3, a4, a5, a6]) (Nat.le_of_ble_eq_true rfl) rfl (fun j v h e => by obtain rfl : j = 5 := (by omega); exact hc v (Option.some.inj h)) k
theorem st_astore_9_4 (hX : OkX V E own cc n lvl) (d : decode cc pc = .ok (.astore 4, 2)) {a0 a1 a2 a3 a4 a5 a6 a7 a8 : Option Value} {a : Nat} (hc : ckV a3) (k : G V E μ (pc + 2) [a0, a1, a2, a3, some (vr V a), a5, a6, a7, a8] st) : G V E μ pc [a0, a1, a2, a3, a4, a5, a6, a7, a8] (vr V a :: st) := g_astore hX d (L := [a0, a1, a2, a3, a4, a5, a6, a7, a8]) (Nat.le_of_ble_eq_true rfl) rfl (fun j v h e => by obtain rfl : j = 3 := (by omega); exact hc v (Option.some.inj h)) k
theorem st_astore_9_8 (hX : OkX V E own cc n lvl) (d : decode cc pc = .ok (.astore 8, 2)) {a0 a1 a2 a3 a4 a5 a6 a7 a8 : Option Value} {a : Nat} (hc : ckV a7) (k : G V E μ (pc + 2) [a0, a1, a2, a3, a4, a5, a6, a7, some (vr V a)] st) : G V E μ pc [a0, a1, a2, a3, a4, a5, a6, a7, a8] (vr V a :: st) := g_astore hX d (L := [a0, a1, a2, a3, a4, a5, a6, a7, a8]) (Nat.le_of_ble_eq_true rfl) rfl (fun j v h e => by obtain rfl : j = 7 := (by omega); exact hc v (Option.some.inj h)) k
theorem st_astoreN_5_4 (hX : OkX V E own cc n lvl) (d : decode cc pc = .ok (.astore 4, 2)) {a0 a1 a2 a3 a4 : Option Value}  (hc : ckV a3) (k : G V E μ (pc + 2) [a0, a1, a2, a3, some (.null)] st) : G V E μ pc [a0, a1, a2, a3, a4] (.null :: st) := g_astoreN hX d (L := [a0, a1, a2, a3, a4]) (Nat.le_of_ble_eq_true rfl) rfl (fun j v h e => by obtain rfl : j = 3 := (by omega); exact hc v (Option.some.inj h)) k
theorem st_astoreN_6_5 (hX : OkX V E own cc n lvl) (d : decode cc pc = .ok (.astore 5, 2)) {a0 a1 a2 a3 a4 a5 : Option Value}  (hc : ckV a4) (k : G V E μ (pc + 2) [a0, a1, a2, a3, a4, some (.null)] st) : G V E μ pc [a0, a1, a2, a3, a4, a5] (.null :: st) := g_astoreN hX d (L := [a0, a1, a2, a3, a4, a5]) (Nat.le_of_ble_eq_true rfl) rfl (fun j v h e => by obtain rfl : j = 4 := (by omega); exact hc v (Option.some.inj h)) k
theorem st_astoreN_7_4 (hX : OkX V E own cc n lvl) (d : decode cc pc = .ok (.astore 4, 2)) {a0 a1 a2 a3 a4 a5 a6 : Option Value}  (hc : ckV a3) (k : G V E μ (pc + 2) [a0, a1, a2, a3, some (.null), a5, a6] st) : G V E μ pc [a0, a1, a2, a3, a4, a5, a6] (.null :: st) := g_astoreN hX d (L := [a0, a1, a2, a3, a4, a5, a6]) (Nat.le_of_ble_eq_true rfl) rfl (fun j v h e => by obtain rfl : j = 3 := (by omega); exact hc v (Option.some.inj h)) k
theorem st_astoreN_7_5 (hX : OkX V E own cc n lvl) (d : decode cc pc = .ok (.astore 5, 2)) {a0 a1 a2 a3 a4 a5 a6 : Option Value}  (hc : ckV a4) (k : G V E μ (pc + 2) [a0, a1, a2, a3, a4, some (.null), a6] st) : G V E μ pc [a0, a1, a2, a3, a4, a5, a6] (.null :: st) := g_astoreN hX d (L := [a0, a1, a2, a3, a4, a5, a6]) (Nat.le_of_ble_eq_true rfl) rfl (fun j v h e => by obtain rfl : j = 4 := (by omega); exact hc v (Option.some.inj h)) k
theorem st_astoreN_7_6 (hX : OkX V E own cc n lvl) (d : decode cc pc = .ok (.astore 6, 2)) {a0 a1 a2 a3 a4 a5 a6 : Option Value}  (hc : ckV a5) (k : G V E μ (pc + 2) [a0, a1, a2, a3, a4, a5, some (.null)] st) : G V E μ pc [a0, a1, a2, a3, a4, a5, a6] (.null :: st) := g_astoreN hX d (L := [a0, a1, a2, a3, a4, a5, a6]) (Nat.le_of_ble_eq_true rfl) rfl (fun j v h e => by obtain rfl : j = 5 := (by omega); exact hc v (Option.some.inj h)) k
theorem st_astoreN_9_4 (hX : OkX V E own cc n lvl) (d : decode cc pc = .ok (.astore 4, 2)) {a0 a1 a2 a3 a4 a5 a6 a7 a8 : Option Value}  (hc : ckV a3) (k : G V E μ (pc + 2) [a0, a1, a2, a3, some (.null), a5, a6, a7, a8] st) : G V E μ pc [a0, a1, a2, a3, a4, a5, a6, a7, a8] (.null :: st) := g_astoreN hX d (L := [a0, a1, a2, a3, a4, a5, a6, a7, a8]) (Nat.le_of_ble_eq_true rfl) rfl (fun j v h e => by obtain rfl : j = 3 := (by omega); exact hc v (Option.some.inj h)) k
theorem st_astoreN_9_8 (hX : OkX V E own cc n lvl) (d : decode cc pc = .ok (.astore 8, 2)) {a0 a1 a2 a3 a4 a5 a6 a7 a8 : Option Value}  (hc : ckV a7) (k : G V E μ (pc + 2) [a0, a1, a2, a3, a4, a5, a6, a7, some (.null)] st) : G V E μ pc [a0, a1, a2, a3, a4, a5, a6, a7, a8] (.null :: st) := g_astoreN hX d (L := [a0, a1, a2, a3, a4, a5, a6, a7, a8]) (Nat.le_of_ble_eq_true rfl) rfl (fun j v h e => by obtain rfl : j = 7 := (by omega); exact hc v (Option.some.inj h)) k
theorem st_astore_n_4_1 (hX : OkX V E own cc n lvl) (d : decode cc pc = .ok (.astore_n 1, 1)) {a0 a1 a2 a3 : Option Value} {a : Nat} (hc : ckV a0) (k : G V E μ (pc + 1) [a0, some (vr V a), a2, a3] st) : G V E μ pc [a0, a1, a2, a3] (vr V a :: st) := g_astore_n hX d (L := [a0, a1, a2, a3]) (Nat.le_of_ble_eq_true rfl) rfl (fun j v h e => by obtain rfl : j = 0 := (by omega); exact hc v (Option.some.inj h)) k
theorem st_astore_n_4_2 (hX : OkX V E own cc n lvl) (d : decode cc pc = .ok (.astore_n 2, 1)) {a0 a1 a2 a3 : Option Value} {a : Nat} (hc : ckV a1) (k : G V E μ (pc + 1) [a0, a1, some (vr V a), a3] st) : G V E μ pc [a0, a1, a2, a3] (vr V a :: st) := g_astore_n hX d (L := [a0, a1, a2, a3]) (Nat.le_of_ble_eq_true rfl) rfl (fun j v h e => by obtain rfl : j = 1 := (by omega); exact hc v (Option.some.inj h)) k
theorem st_astore_n_4_3 (hX : OkX V E own cc n lvl) (d : decode cc pc = .ok (.astore_n 3, 1)) {a0 a1 a2 a3 : Option Value} {a : Nat} (hc : ckV a2) (k : G V E μ (pc + 1) [a0, a1, a2, some (vr V a)] st) : G V E μ pc [a0, a1, a2, a3] (vr V a :: st) := g_astore_n hX d (L := [a0, a1, a2, a3]) (Nat.le_of_ble_eq_true rfl) rfl (fun j v h e => by obtain rfl : j = 2 := (by omega); exact hc v (Option.some.inj h)) k
theorem st_astore_n_5_2 (hX : OkX V E own cc n lvl) (d : decode cc pc = .ok (.astore_n 2, 1)) {a0 a1 a2 a3 a4 : Option Value} {a : Nat} (hc : ckV a1) (k : G V E μ (pc + 1) [a0, a1, some (vr V a), a3, a4] st) : G V E μ pc [a0, a1, a2, a3, a4] (vr V a :: st) := g_astore_n hX d (L := [a0, a1, a2, a3, a4]) (Nat.le_of_ble_eq_true rfl) rfl (fun j v h e => by obtain rfl : j = 1 := (by omega); exact hc v (Option.some.inj h)) k
theorem st_astore_n_5_3 (hX : OkX V E own cc n lvl) (d : decode cc pc = .ok (.astore_n 3, 1)) {a0 a1 a2 a3 a4 : Option Value} {a : Nat} (hc : ckV a2) (k : G V E μ (pc + 1) [a0, a1, a2, some (vr V a), a4] st) : G V E μ pc [a0, a1, a2, a3, a4] (vr V a :: st) := g_astore_n hX d (L := [a0, a1, a2, a3, a4]) (Nat.le_of_ble_eq_true rfl) rfl (fun j v h e => by obtain rfl : j = 2 := (by omega); exact hc v (Option.some.inj h)) k
theorem st_astore_n_6_2 (hX : OkX V E own cc n lvl) (d : decode cc pc = .ok (.astore_n 2, 1)) {a0 a1 a2 a3 a4 a5 : Option Value} {a : Nat} (hc : ckV a1) (k : G V E μ (pc + 1) [a0, a1, some (vr V a), a3, a4, a5] st) : G V E μ pc [a0, a1, a2, a3, a4, a5] (vr V a :: st) := g_astore_n hX d (L := [a0, a1, a2, a3, a4, a5]) (Nat.le_of_ble_eq_true rfl) rfl (fun j v h e => by obtain rfl : j = 1 := (by omega); exact hc v (Option.some.inj h)) k
theorem st_astore_n_6_3 (hX : OkX V E own cc n lvl) (d : decode cc pc = .ok (.astore_n 3, 1)) {a0 a1 a2 a3 a4 a5 : Option Value} {a : Nat} (hc : ckV a2) (k : G V E μ (pc + 1) [a0, a1, a2, some (vr V a), a4, a5] st) : G V E μ pc [a0, a1, a2, a3, a4, a5] (vr V a :: st) := g_astore_n hX d (L := [a0, a1, a2, a3, a4, a5]) (Nat.le_of_ble_eq_true rfl) rfl (fun j v h e => by obtain rfl : j = 2 := (by omega); exact hc v (Option.some.inj h)) k
theorem st_astore_n_7_3 (hX : OkX V E own cc n lvl) (d : decode cc pc = .ok (.astore_n 3, 1)) {a0 a1 a2 a3 a4 a5 a6 : Option Value} {a : Nat} (hc : ckV a2) (k : G V E μ (pc + 1) [a0, a1, a2, some (vr V a), a4, a5, a6] st) : G V E μ pc [a0, a1, a2, a3, a4, a5, a6] (vr V a :: st) := g_astore_n hX d (L := [a0, a1, a2, a3, a4, a5, a6]) (Nat.le_of_ble_eq_true rfl) rfl (fun j v h e => by obtain rfl : j = 2 := (by omega); exact hc v (Option.some.inj h)) k
theorem st_astore_nN_4_1 (hX : OkX V E own cc n lvl) (d : decode cc pc = .ok (.astore_n 1, 1)) {a0 a1 a2 a3 : Option Value}  (hc : ckV a0) (k : G V E μ (pc + 1) [a0, some (.null), a2, a3] st) : G V E μ pc [a0, a1, a2, a3] (.null :: st) := g_astore_nN hX d (L := [a0, a1, a2, a3]) (Nat.le_of_ble_eq_true rfl) rfl (fun j v h e => by obtain rfl : j = 0 := (by omega); exact hc v (Option.some.inj h)) k
theorem st_astore_nN_4_2 (hX : OkX V E own cc n lvl) (d : decode cc pc = .ok (.astore_n 2, 1)) {a0 a1 a2 a3 : Option Value}  (hc : ckV a1) (k : G V E μ (pc + 1) [a0, a1, some (.null), a3] st) : G V E μ pc [a0, a1, a2, a3] (.null :: st) := g_astore_nN hX d (L := [a0, a1, a2, a3]) (Nat.le_of_ble_eq_true rfl) rfl (fun j v h e => by obtain rfl : j = 1 := (by omega); exact hc v (Option.some.inj h)) k
theorem st_astore_nN_4_3 (hX : OkX V E own cc n lvl) (d : decode cc pc = .ok (.astore_n 3, 1)) {a0 a1 a2 a3 : Option Value}  (hc : ckV a2) (k : G V E μ (pc + 1) [a0, a1, a2, some (.null)] st) : G V E μ pc [a0, a1, a2, a3] (.null :: st) := g_astore_nN hX d (L := [a0, a1, a2, a3]) (Nat.le_of_ble_eq_true rfl) rfl (fun j v h e => by obtain rfl : j = 2 := (by omega); exact hc v (Option.some.inj h)) k
theorem st_astore_nN_5_2 (hX : OkX V E own cc n lvl) (d : decode cc pc = .ok (.astore_n 2, 1)) {a0 a1 a2 a3 a4 : Option Value}  (hc : ckV a1) (k : G V E μ (pc + 1) [a0, a1, some (.null), a3, a4] st) : G V E μ pc [a0, a1, a2, a3, a4] (.null :: st) := g_astore_nN hX d (L := [a0, a1, a2, a3, a4]) (Nat.le_of_ble_eq_true rfl) rfl (fun j v h e => by obtain rfl : j = 1 := (by omega); exact hc v (Option.some.inj h)) k
theorem st_astore_nN_5_3 (hX : OkX V E own cc n lvl) (d : decode cc pc = .ok (.astore_n 3, 1)) {a0 a1 a2 a3 a4 : Option Value}  (hc : ckV a2) (k : G V E μ (pc + 1) [a0, a1, a2, some (.null), a4] st) : G V E μ pc [a0, a1, a2, a3, a4] (.null :: st) := g_astore_nN hX d (L := [a0, a1, a2, a3, a4]) (Nat.le_of_ble_eq_true rfl) rfl (fun j v h e => by obtain rfl : j = 2 := (by omega); exact hc v (Option.some.inj h)) k
theorem st_astore_nN_6_2 (hX : OkX V E own cc n lvl) (d : decode cc pc = .ok (.astore_n 2, 1)) {a0 a1 a2 a3 a4 a5 : Option Value}  (hc : ckV a1) (k : G V E μ (pc + 1) [a0, a1, some (.null), a3, a4, a5] st) : G V E μ pc [a0, a1, a2, a3, a4, a5] (.null :: st) := g_astore_nN hX d (L := [a0, a1, a2, a3, a4, a5]) (Nat.le_of_ble_eq_true rfl) rfl (fun j v h e => by obtain rfl : j = 1 := (by omega); exact hc v (Option.some.inj h)) k
theorem st_astore_nN_6_3 (hX : OkX V E own cc n lvl) (d : decode cc pc = .ok (.astore_n 3, 1)) {a0 a1 a2 a3 a4 a5 : Option Value}  (hc : ckV a2) (k : G V E μ (pc + 1) [a0, a1, a2, some (.null), a4, a5] st) : G V E μ pc [a0, a1, a2, a3, a4, a5] (.null :: st) := g_astore_nN hX d (L := [a0, a1, a2, a3, a4, a5]) (Nat.le_of_ble_eq_true rfl) rfl (fun j v h e => by obtain rfl : j = 2 := (by omega); exact hc v (Option.some.inj h)) k
theorem st_astore_nN_7_3 (hX : OkX V E own cc n lvl) (d : decode cc pc = .ok (.astore_n 3, 1)) {a0 a1 a2 a3 a4 a5 a6 : Option Value}  (hc : ckV a2) (k : G V E μ (pc + 1) [a0, a1, a2, some (.null), a4, a5, a6] st) : G V E μ pc [a0, a1, a2, a3, a4, a5, a6] (.null :: st) := g_astore_nN hX d (L := [a0, a1, a2, a3, a4, a5, a6]) (Nat.le_of_ble_eq_true rfl) rfl (fun j v h e => by obtain rfl : j = 2 := (by omega); exact hc v (Option.some.inj h)) k
theorem st_iinc_2_1 (hX : OkX V E own cc n lvl) {z a : Int} (d : decode cc pc = .ok (.iinc 1 z, 3)) {a0 : Option Value} (hc : ckV a0) (k : G V E μ (pc + 3) [a0, some (vi (a + z))] st) : G V E μ pc [a0, some (vi a)] st := g_iinc hX d (L := [a0, some (vi a)]) rfl rfl (fun j v h e => by obtain rfl : j = 0 := (by omega); exact hc v (Option.some.inj h)) k
theorem st_iinc_3_2 (hX : OkX V E own cc n lvl) {z a : Int} (d : decode cc pc = .ok (.iinc 2 z, 3)) {a0 a1 : Option Value} (hc : ckV a1) (k : G V E μ (pc + 3) [a0, a1, some (vi (a + z))] st) : G V E μ pc [a0, a1, some (vi a)] st := g_iinc hX d (L := [a0, a1, some (vi a)]) rfl rfl (fun j v h e => by obtain rfl : j = 1 := (by omega); exact hc v (Option.some.inj h)) k
theorem st_iinc_4_1 (hX : OkX V E own cc n lvl) {z a : Int} (d : decode cc pc = .ok (.iinc 1 z, 3)) {a0 a2 a3 : Option Value} (hc : ckV a0) (k : G V E μ (pc + 3) [a0, some (vi (a + z)), a2, a3] st) : G V E μ pc [a0, some (vi a), a2, a3] st := g_iinc hX d (L := [a0, some (vi a), a2, a3]) rfl rfl (fun j v h e => by obtain rfl : j = 0 := (by omega); exact hc v (Option.some.inj h)) k
theorem st_iinc_4_2 (hX : OkX V E own cc n lvl) {z a : Int} (d : decode cc pc = .ok (.iinc 2 z, 3)) {a0 a1 a3 : Option Value} (hc : ckV a1) (k : G V E μ (pc + 3) [a0, a1, some (vi (a + z)), a3] st) : G V E μ pc [a0, a1, some (vi a), a3] st := g_iinc hX d (L := [a0, a1, some (vi a), a3]) rfl rfl (fun j v h e => by obtain rfl : j = 1 := (by omega); exact hc v (Option.some.inj h)) k
theorem st_iinc_4_3 (hX : OkX V E own cc n lvl) {z a : Int} (d : decode cc pc = .ok (.iinc 3 z, 3)) {a0 a1 a2 : Option Value} (hc : ckV a2) (k : G V E μ (pc + 3) [a0, a1, a2, some (vi (a + z))] st) : G V E μ pc [a0, a1, a2, some (vi a)] st := g_iinc hX d (L := [a0, a1, a2, some (vi a)]) rfl rfl (fun j v h e => by obtain rfl : j = 2 := (by omega); exact hc v (Option.some.inj h)) k
theorem st_iinc_5_1 (hX : OkX V E own cc n lvl) {z a : Int} (d : decode cc pc = .ok (.iinc 1 z, 3)) {a0 a2 a3 a4 : Option Value} (hc : ckV a0) (k : G V E μ (pc + 3) [a0, some (vi (a + z)), a2, a3, a4] st) : G V E μ pc [a0, some (vi a), a2, a3, a4] st := g_iinc hX d (L := [a0, some (vi a), a2, a3, a4]) rfl rfl (fun j v h e => by obtain rfl : j = 0 := (by omega); exact hc v (Option.some.inj h)) k
theorem st_iinc_5_2 (hX : OkX V E own cc n lvl) {z a : Int} (d : decode cc pc = .ok (.iinc 2 z, 3)) {a0 a1 a3 a4 : Option Value} (hc : ckV a1) (k : G V E μ (pc + 3) [a0, a1, some (vi (a + z)), a3, a4] st) : G V E μ pc [a0, a1, some (vi a), a3, a4] st := g_iinc hX d (L := [a0, a1, some (vi a), a3, a4]) rfl rfl (fun j v h e => by obtain rfl : j = 1 := (by omega); exact hc v (Option.some.inj h)) k
theorem st_iinc_5_3 (hX : OkX V E own cc n lvl) {z a : Int} (d : decode cc pc = .ok (.iinc 3 z, 3)) {a0 a1 a2 a4 : Option Value} (hc : ckV a2) (k : G V E μ (pc + 3) [a0, a1, a2, some (vi (a + z)), a4] st) : G V E μ pc [a0, a1, a2, some (vi a), a4] st := g_iinc hX d (L := [a0, a1, a2, some (vi a), a4]) rfl rfl (fun j v h e => by obtain rfl : j = 2 := (by omega); exact hc v (Option.some.inj h)) k
theorem st_iinc_5_4 (hX : OkX V E own cc n lvl) {z a : Int} (d : decode cc pc = .ok (.iinc 4 z, 3)) {a0 a1 a2 a3 : Option Value} (hc : ckV a3) (k : G V E μ (pc + 3) [a0, a1, a2, a3, some (vi (a + z))] st) : G V E μ pc [a0, a1, a2, a3, some (vi a)] st := g_iinc hX d (L := [a0, a1, a2, a3, some (vi a)]) rfl rfl (fun j v h e => by obtain rfl : j = 3 := (by omega); exact hc v (Option.some.inj h)) k
theorem st_iinc_6_1 (hX : OkX V E own cc n lvl) {z a : Int} (d : decode cc pc = .ok (.iinc 1 z, 3)) {a0 a2 a3 a4 a5 : Option Value} (hc : ckV a0) (k : G V E μ (pc + 3) [a0, some (vi (a + z)), a2, a3, a4, a5] st) : G V E μ pc [a0, some (vi a), a2, a3, a4, a5] st := g_iinc hX d (L := [a0, some (vi a), a2, a3, a4, a5]) rfl rfl (fun j v h e => by obtain rfl : j = 0 := (by omega); exact hc v (Option.some.inj h)) k
theorem st_iinc_6_2 (hX : OkX V E own cc n lvl) {z a : Int} (d : decode cc pc = .ok (.iinc 2 z, 3)) {a0 a1 a3 a4 a5 : Option Value} (hc : ckV a1) (k : G V E μ (pc + 3) [a0, a1, some (vi (a + z)), a3, a4, a5] st) : G V E μ pc [a0, a1, some (vi a), a3, a4, a5] st := g_iinc hX d (L := [a0, a1, some (vi a), a3, a4, a5]) rfl rfl (fun j v h e => by obtain rfl : j = 1 := (by omega); exact hc v (Option.some.inj h)) k
theorem st_iinc_6_3 (hX : OkX V E own cc n lvl) {z a : Int} (d : decode cc pc = .ok (.iinc 3 z, 3)) {a0 a1 a2 a4 a5 : Option Value} (hc : ckV a2) (k : G V E μ (pc + 3) [a0, a1, a2, some (vi (a + z)), a4, a5] st) : G V E μ pc [a0, a1, a2, some (vi a), a4, a5] st := g_iinc hX d (L := [a0, a1, a2, some (vi a), a4, a5]) rfl rfl (fun j v h e => by obtain rfl : j = 2 := (by omega); exact hc v (Option.some.inj h)) k
theorem st_iinc_6_4 (hX : OkX V E own cc n lvl) {z a : Int} (d : decode cc pc = .ok (.iinc 4 z, 3)) {a0 a1 a2 a3 a5 : Option Value} (hc : ckV a3) (k : G V E μ (pc + 3) [a0, a1, a2, a3, some (vi (a + z)), a5] st) : G V E μ pc [a0, a1, a2, a3, some (vi a), a5] st := g_iinc hX d (L := [a0, a1, a2, a3, some (vi a), a5]) rfl rfl (fun j v h e => by obtain rfl : j = 3 := (by omega); exact hc v (Option.some.inj h)) k
theorem st_iinc_6_5 (hX : OkX V E own cc n lvl) {z a : Int} (d : decode cc pc = .ok (.iinc 5 z, 3)) {a0 a1 a2 a3 a4 : Option Value} (hc : ckV a4) (k : G V E μ (pc + 3) [a0, a1, a2, a3, a4, some (vi (a + z))] st) : G V E μ pc [a0, a1, a2, a3, a4, some (vi a)] st := g_iinc hX d (L := [a0, a1, a2, a3, a4, some (vi a)]) rfl rfl (fun j v h e => by obtain rfl : j = 4 := (by omega); exact hc v (Option.some.inj h)) k
theorem st_iinc_7_4 (hX : OkX V E own cc n lvl) {z a : Int} (d : decode cc pc = .ok (.iinc 4 z, 3)) {a0 a1 a2 a3 a5 a6 : Option Value} (hc : ckV a3) (k : G V E μ (pc + 3) [a0, a1, a2, a3, some (vi (a + z)), a5, a6] st) : G V E μ pc [a0, a1, a2, a3, some (vi a), a5, a6] st := g_iinc hX d (L := [a0, a1, a2, a3, some (vi a), a5, a6]) rfl rfl (fun j v h e => by obtain rfl : j = 3 := (by omega); exact hc v (Option.some.inj h)) k
theorem st_iinc_7_5 (hX : OkX V E own cc n lvl) {z a : Int} (d : decode cc pc = .ok (.iinc 5 z, 3)) {a0 a1 a2 a3 a4 a6 : Option Value} (hc : ckV a4) (k : G V E μ (pc + 3) [a0, a1, a2, a3, a4, some (vi (a + z)), a6] st) : G V E μ pc [a0, a1, a2, a3, a4, some (vi a), a6] st := g_iinc hX d (L := [a0, a1, a2, a3, a4, some (vi a), a6]) rfl rfl (fun j v h e => by obtain rfl : j = 4 := (by omega); exact hc v (Option.some.inj h)) k
theorem st_iinc_7_6 (hX : OkX V E own cc n lvl) {z a : Int} (d : decode cc pc = .ok (.iinc 6 z, 3)) {a0 a1 a2 a3 a4 a5 : Option Value} (hc : ckV a5) (k : G V E μ (pc + 3) [a0, a1, a2, a3, a4, a5, some (vi (a + z))] st) : G V E μ pc [a0, a1, a2, a3, a4, a5, some (vi a)] st := g_iinc hX d (L := [a0, a1, a2, a3, a4, a5, some (vi a)]) rfl rfl (fun j v h e => by obtain rfl : j = 5 := (by omega); exact hc v (Option.some.inj h)) k
theorem st_iinc_8_6 (hX : OkX V E own cc n lvl) {z a : Int} (d : decode cc pc = .ok (.iinc 6 z, 3)) {a0 a1 a2 a3 a4 a5 a7 : Option Value} (hc : ckV a5) (k : G V E μ (pc + 3) [a0, a1, a2, a3, a4, a5, some (vi (a + z)), a7] st) : G V E μ pc [a0, a1, a2, a3, a4, a5, some (vi a), a7] st := g_iinc hX d (L := [a0, a1, a2, a3, a4, a5, some (vi a), a7]) rfl rfl (fun j v h e => by obtain rfl : j = 5 := (by omega); exact hc v (Option.some.inj h)) k
theorem st_iinc_9_2 (hX : OkX V E own cc n lvl) {z a : Int} (d : decode cc pc = .ok (.iinc 2 z, 3)) {a0 a1 a3 a4 a5 a6 a7 a8 : Option Value} (hc : ckV a1) (k : G V E μ (pc + 3) [a0, a1, some (vi (a + z)), a3, a4, a5, a6, a7, a8] st) : G V E μ pc [a0, a1, some (vi a), a3, a4, a5, a6, a7, a8] st := g_iinc hX d (L := [a0, a1, some (vi a), a3, a4, a5, a6, a7, a8]) rfl rfl (fun j v h e => by obtain rfl : j = 1 := (by omega); exact hc v (Option.some.inj h)) k
theorem st_iinc_9_7 (hX : OkX V E own cc n lvl) {z a : Int} (d : decode cc pc = .ok (.iinc 7 z, 3)) {a0 a1 a2 a3 a4 a5 a6 a8 : Option Value} (hc : ckV a6) (k : G V E μ (pc + 3) [a0, a1, a2, a3, a4, a5, a6, some (vi (a + z)), a8] st) : G V E μ pc [a0, a1, a2, a3, a4, a5, a6, some (vi a), a8] st := g_iinc hX d (L := [a0, a1, a2, a3, a4, a5, a6, some (vi a), a8]) rfl rfl (fun j v h e => by obtain rfl : j = 6 := (by omega); exact hc v (Option.some.inj h)) k
theorem st_iinc_10_4 (hX : OkX V E own cc n lvl) {z a : Int} (d : decode cc pc = .ok (.iinc 4 z, 3)) {a0 a1 a2 a3 a5 a6 a7 a8 a9 : Option Value} (hc : ckV a3) (k : G V E μ (pc + 3) [a0, a1, a2, a3, some (vi (a + z)), a5, a6, a7, a8, a9] st) : G V E μ pc [a0, a1, a2, a3, some (vi a), a5, a6, a7, a8, a9] st := g_iinc hX d (L := [a0, a1, a2, a3, some (vi a), a5, a6, a7, a8, a9]) rfl rfl (fun j v h e => by obtain rfl : j = 3 := (by omega); exact hc v (Option.some.inj h)) k
theorem st_iinc_10_7 (hX : OkX V E own cc n lvl) {z a : Int} (d : decode cc pc = .ok (.iinc 7 z, 3)) {a0 a1 a2 a3 a4 a5 a6 a8 a9 : Option Value} (hc : ckV a6) (k : G V E μ (pc + 3) [a0, a1, a2, a3, a4, a5, a6, some (vi (a + z)), a8, a9] st) : G V E μ pc [a0, a1, a2, a3, a4, a5, a6, some (vi a), a8, a9] st := g_iinc hX d (L := [a0, a1, a2, a3, a4, a5, a6, some (vi a), a8, a9]) rfl rfl (fun j v h e => by obtain rfl : j = 6 := (by omega); exact hc v (Option.some.inj h)) k
theorem st_iinc_10_8 (hX : OkX V E own cc n lvl) {z a : Int} (d : decode cc pc = .ok (.iinc 8 z, 3)) {a0 a1 a2 a3 a4 a5 a6 a7 a9 : Option Value} (hc : ckV a7) (k : G V E μ (pc + 3) [a0, a1, a2, a3, a4, a5, a6, a7, some (vi (a + z)), a9] st) : G V E μ pc [a0, a1, a2, a3, a4, a5, a6, a7, some (vi a), a9] st := g_iinc hX d (L := [a0, a1, a2, a3, a4, a5, a6, a7, some (vi a), a9]) rfl rfl (fun j v h e => by obtain rfl : j = 7 := (by omega); exact hc v (Option.some.inj h)) k
theorem st_istore_5_4 (hX : OkX V E own cc n lvl) (d : decode cc pc = .ok (.istore 4, 2)) {a0 a1 a2 a3 a4 : Option Value} {a : Int} (hc : ckV a3) (k : G V E μ (pc + 2) [a0, a1, a2, a3, some (vi a)] st) : G V E μ pc [a0, a1, a2, a3, a4] (vi a :: st) := g_istore hX d (L := [a0, a1, a2, a3, a4]) (Nat.le_of_ble_eq_true rfl) rfl (fun j v h e => by obtain rfl : j = 3 := (by omega); exact hc v (Option.some.inj h)) k
theorem st_istore_6_4 (hX : OkX V E own cc n lvl) (d : decode cc pc = .ok (.istore 4, 2)) {a0 a1 a2 a3 a4 a5 : Option Value} {a : Int} (hc : ckV a3) (k : G V E μ (pc + 2) [a0, a1, a2, a3, some (vi a), a5] st) : G V E μ pc [a0, a1, a2, a3, a4, a5] (vi a :: st) := g_istore hX d (L := [a0, a1, a2, a3, a4, a5]) (Nat.le_of_ble_eq_true rfl) rfl (fun j v h e => by obtain rfl : j = 3 := (by omega); exact hc v (Option.some.inj h)) k
theorem st_istore_6_5 (hX : OkX V E own cc n lvl) (d : decode cc pc = .ok (.istore 5, 2)) {a0 a1 a2 a3 a4 a5 : Option Value} {a : Int} (hc : ckV a4) (k : G V E μ (pc + 2) [a0, a1, a2, a3, a4, some (vi a)] st) : G V E μ pc [a0, a1, a2, a3, a4, a5] (vi a :: st) := g_istore hX d (L := [a0, a1, a2, a3, a4, a5]) (Nat.le_of_ble_eq_true rfl) rfl (fun j v h e => by obtain rfl : j = 4 := (by omega); exact hc v (Option.some.inj h)) k
theorem st_istore_7_4 (hX : OkX V E own cc n lvl) (d : decode cc pc = .ok (.istore 4, 2)) {a0 a1 a2 a3 a4 a5 a6 : Option Value} {a : Int} (hc : ckV a3) (k : G V E μ (pc + 2) [a0, a1, a2, a3, some (vi a), a5, a6] st) : G V E μ pc [a0, a1, a2, a3, a4, a5, a6] (vi a :: st) := g_istore hX d (L := [a0, a1, a2, a3, a4, a5, a6]) (Nat.le_of_ble_eq_true rfl) rfl (fun j v h e => by obtain rfl : j = 3 := (by omega); exact hc v (Option.some.inj h)) k
theorem st_istore_7_5 (hX : OkX V E own cc n lvl) (d : decode cc pc = .ok (.istore 5, 2)) {a0 a1 a2 a3 a4 a5 a6 : Option Value} {a : Int} (hc : ckV a4) (k : G V E μ (pc + 2) [a0, a1, a2, a3, a4, some (vi a), a6] st) : G V E μ pc [a0, a1, a2, a3, a4, a5, a6] (vi a :: st) := g_istore hX d (L := [a0, a1, a2, a3, a4, a5, a6]) (Nat.le_of_ble_eq_true rfl) rfl (fun j v h e => by obtain rfl : j = 4 := (by omega); exact hc v (Option.some.inj h)) k
theorem st_istore_7_6 (hX : OkX V E own cc n lvl) (d : decode cc pc = .ok (.istore 6, 2)) {a0 a1 a2 a3 a4 a5 a6 : Option Value} {a : Int} (hc : ckV a5) (k : G V E μ (pc + 2) [a0, a1, a2, a3, a4, a5, some (vi a)] st) : G V E μ pc [a0, a1, a2, a3, a4, a5, a6] (vi a :: st) := g_istore hX d (L := [a0, a1, a2, a3, a4, a5, a6]) (Nat.le_of_ble_eq_true rfl) rfl (fun j v h e => by obtain rfl : j = 5 := (by omega); exact hc v (Option.some.inj h)) k
theorem st_istore_8_4 (hX : OkX V E own cc n lvl) (d : decode cc pc = .ok (.istore 4, 2)) {a0 a1 a2 a3 a4 a5 a6 a7 : Option Value} {a : Int} (hc : ckV a3) (k : G V E μ (pc + 2) [a0, a1, a2, a3, some (vi a), a5, a6, a7] st) : G V E μ pc [a0, a1, a2, a3, a4, a5, a6, a7] (vi a :: st) := g_istore hX d (L := [a0, a1, a2, a3, a4, a5, a6, a7]) (Nat.le_of_ble_eq_true rfl) rfl (fun j v h e => by obtain rfl : j = 3 := (by omega); exact hc v (Option.some.inj h)) k
theorem st_istore_8_5 (hX : OkX V E own cc n lvl) (d : decode cc pc = .ok (.istore 5, 2)) {a0 a1 a2 a3 a4 a5 a6 a7 : Option Value} {a : Int} (hc : ckV a4) (k : G V E μ (pc + 2) [a0, a1, a2, a3, a4, some (vi a), a6, a7] st) : G V E μ pc [a0, a1, a2, a3, a4, a5, a6, a7] (vi a :: st) := g_istore hX d (L := [a0, a1, a2, a3, a4, a5, a6, a7]) (Nat.le_of_ble_eq_true rfl) rfl (fun j v h e => by obtain rfl : j = 4 := (by omega); exact hc v (Option.some.inj h)) k
theorem st_istore_8_6 (hX : OkX V E own cc n lvl) (d : decode cc pc = .ok (.istore 6, 2)) {a0 a1 a2 a3 a4 a5 a6 a7 : Option Value} {a : Int} (hc : ckV a5) (k : G V E μ (pc + 2) [a0, a1, a2, a3, a4, a5, some (vi a), a7] st) : G V E μ pc [a0, a1, a2, a3, a4, a5, a6, a7] (vi a :: st) := g_istore hX d (L := [a0, a1, a2, a3, a4, a5, a6, a7]) (Nat.le_of_ble_eq_true rfl) rfl (fun j v h e => by obtain rfl : j = 5 := (by omega); exact hc v (Option.some.inj h)) k
theorem st_istore_8_7 (hX : OkX V E own cc n lvl) (d : decode cc pc = .ok (.istore 7, 2)) {a0 a1 a2 a3 a4 a5 a6 a7 : Option Value} {a : Int} (hc : ckV a6) (k : G V E μ (pc + 2) [a0, a1, a2, a3, a4, a5, a6, some (vi a)] st) : G V E μ pc [a0, a1, a2, a3, a4, a5, a6, a7] (vi a :: st) := g_istore hX d (L := [a0, a1, a2, a3, a4, a5, a6, a7]) (Nat.le_of_ble_eq_true rfl) rfl (fun j v h e => by obtain rfl : j = 6 := (by omega); exact hc v (Option.some.inj h)) k
theorem st_istore_9_4 (hX : OkX V E own cc n lvl) (d : decode cc pc = .ok (.istore 4, 2)) {a0 a1 a2 a3 a4 a5 a6 a7 a8 : Option Value} {a : Int} (hc : ckV a3) (k : G V E μ (pc + 2) [a0, a1, a2, a3, some (vi a), a5, a6, a7, a8] st) : G V E μ pc [a0, a1, a2, a3, a4, a5, a6, a7, a8] (vi a :: st) := g_istore hX d (L := [a0, a1, a2, a3, a4, a5, a6, a7, a8]) (Nat.le_of_ble_eq_true rfl) rfl (fun j v h e => by obtain rfl : j = 3 := (by omega); exact hc v (Option.some.inj h)) k
theorem st_istore_9_5 (hX : OkX V E own cc n lvl) (d : decode cc pc = .ok (.istore 5, 2)) {a0 a1 a2 a3 a4 a5 a6 a7 a8 : Option Value} {a : Int} (hc : ckV a4) (k : G V E μ (pc + 2) [a0, a1, a2, a3, a4, some (vi a), a6, a7, a8] st) : G V E μ pc [a0, a1, a2, a3, a4, a5, a6, a7, a8] (vi a :: st) := g_istore hX d (L := [a0, a1, a2, a3, a4, a5, a6, a7, a8]) (Nat.le_of_ble_eq_true rfl) rfl (fun j v h e => by obtain rfl : j = 4 := (by omega); exact hc v (Option.some.inj h)) k
theorem st_istore_9_6 (hX : OkX V E own cc n lvl) (d : decode cc pc = .ok (.istore 6, 2)) {a0 a1 a2 a3 a4 a5 a6 a7 a8 : Option Value} {a : Int} (hc : ckV a5) (k : G V E μ (pc + 2) [a0, a1, a2, a3, a4, a5, some (vi a), a7, a8] st) : G V E μ pc [a0, a1, a2, a3, a4, a5, a6, a7, a8] (vi a :: st) := g_istore hX d (L := [a0, a1, a2, a3, a4, a5, a6, a7, a8]) (Nat.le_of_ble_eq_true rfl) rfl (fun j v h e => by obtain rfl : j = 5 := (by omega); exact hc v (Option.some.inj h)) k
theorem st_istore_9_7 (hX : OkX V E own cc n lvl) (d : decode cc pc = .ok (.istore 7, 2)) {a0 a1 a2 a3 a4 a5 a6 a7 a8 : Option Value} {a : Int} (hc : ckV a6) (k : G V E μ (pc + 2) [a0, a1, a2, a3, a4, a5, a6, some (vi a), a8] st) : G V E μ pc [a0, a1, a2, a3, a4, a5, a6, a7, a8] (vi a :: st) := g_istore hX d (L := [a0, a1, a2, a3, a4, a5, a6, a7, a8]) (Nat.le_of_ble_eq_true rfl) rfl (fun j v h e => by obtain rfl : j = 6 := (by omega); exact hc v (Option.some.inj h)) k
theorem st_istore_9_8 (hX : OkX V E own cc n lvl) (d : decode cc pc = .ok (.istore 8, 2)) {a0 a1 a2 a3 a4 a5 a6 a7 a8 : Option Value} {a : Int} (hc : ckV a7) (k : G V E μ (pc + 2) [a0, a1, a2, a3, a4, a5, a6, a7, some (vi a)] st) : G V E μ pc [a0, a1, a2, a3, a4, a5, a6, a7, a8] (vi a :: st) := g_istore hX d (L := [a0, a1, a2, a3, a4, a5, a6, a7, a8]) (Nat.le_of_ble_eq_true rfl) rfl (fun j v h e => by obtain rfl : j = 7 := (by omega); exact hc v (Option.some.inj h)) k
theorem st_istore_10_4 (hX : OkX V E own cc n lvl) (d : decode cc pc = .ok (.istore 4, 2)) {a0 a1 a2 a3 a4 a5 a6 a7 a8 a9 : Option Value} {a : Int} (hc : ckV a3) (k : G V E μ (pc + 2) [a0, a1, a2, a3, some (vi a), a5, a6, a7, a8, a9] st) : G V E μ pc [a0, a1, a2, a3, a4, a5, a6, a7, a8, a9] (vi a :: st) := g_istore hX d (L := [a0, a1, a2, a3, a4, a5, a6, a7, a8, a9]) (Nat.le_of_ble_eq_true rfl) rfl (fun j v h e => by obtain rfl : j = 3 := (by omega); exact hc v (Option.some.inj h)) k
theorem st_istore_10_5 (hX : OkX V E own cc n lvl) (d : decode cc pc = .ok (.istore 5, 2)) {a0 a1 a2 a3 a4 a5 a6 a7 a8 a9 : Option Value} {a : Int} (hc : ckV a4) (k : G V E μ (pc + 2) [a0, a1, a2, a3, a4, some (vi a), a6, a7, a8, a9] st) : G V E μ pc [a0, a1, a2, a3, a4, a5, a6, a7, a8, a9] (vi a :: st) := g_istore hX d (L := [a0, a1, a2, a3, a4, a5, a6, a7, a8, a9]) (Nat.le_of_ble_eq_true rfl) rfl (fun j v h e => by obtain rfl : j = 4 := (by omega); exact hc v (Option.some.inj h)) k
theorem st_istore_10_6 (hX : OkX V E own cc n lvl) (d : decode cc pc = .ok (.istore 6, 2)) {a0 a1 a2 a3 a4 a5 a6 a7 a8 a9 : Option Value} {a : Int} (hc : ckV a5) (k : G V E μ (pc + 2) [a0, a1, a2, a3, a4, a5, some (vi a), a7, a8, a9] st) : G V E μ pc [a0, a1, a2, a3, a4, a5, a6, a7, a8, a9] (vi a :: st) := g_istore hX d (L := [a0, a1, a2, a3, a4, a5, a6, a7, a8, a9]) (Nat.le_of_ble_eq_true rfl) rfl (fun j v h e => by obtain rfl : j = 5 := (by omega); exact hc v (Option.some.inj h)) k
theorem st_istore_10_7 (hX : OkX V E own cc n lvl) (d : decode cc pc = .ok (.istore 7, 2)) {a0 a1 a2 a3 a4 a5 a6 a7 a8 a9 : Option Value} {a : Int} (hc : ckV a6) (k : G V E μ (pc + 2) [a0, a1, a2, a3, a4, a5, a6, some (vi a), a8, a9] st) : G V E μ pc [a0, a1, a2, a3, a4, a5, a6, a7, a8, a9] (vi a :: st) := g_istore hX d (L := [a0, a1, a2, a3, a4, a5, a6, a7, a8, a9]) (Nat.le_of_ble_eq_true rfl) rfl (fun j v h e => by obtain rfl : j = 6 := (by omega); exact hc v (Option.some.inj h)) k
theorem st_istore_10_8 (hX : OkX V E own cc n lvl) (d : decode cc pc = .ok (.istore 8, 2)) {a0 a1 a2 a3 a4 a5 a6 a7 a8 a9 : Option Value} {a : Int} (hc : ckV a7) (k : G V E μ (pc + 2) [a0, a1, a2, a3, a4, a5, a6, a7, some (vi a), a9] st) : G V E μ pc [a0, a1, a2, a3, a4, a5, a6, a7, a8, a9] (vi a :: st) := g_istore hX d (L := [a0, a1, a2, a3, a4, a5, a6, a7, a8, a9]) (Nat.le_of_ble_eq_true rfl) rfl (fun j v h e => by obtain rfl : j = 7 := (by omega); exact hc v (Option.some.inj h)) k
theorem st_istore_10_9 (hX : OkX V E own cc n lvl) (d : decode cc pc = .ok (.istore 9, 2)) {a0 a1 a2 a3 a4 a5 a6 a7 a8 a9 : Option Value} {a : Int} (hc : ckV a8) (k : G V E μ (pc + 2) [a0, a1, a2, a3, a4, a5, a6, a7, a8, some (vi a)] st) : G V E μ pc [a0, a1, a2, a3, a4, a5, a6, a7, a8, a9] (vi a :: st) := g_istore hX d (L := [a0, a1, a2, a3, a4, a5, a6, a7, a8, a9]) (Nat.le_of_ble_eq_true rfl) rfl (fun j v h e => by obtain rfl : j = 8 := (by omega); exact hc v (Option.some.inj h)) k
theorem st_istore_n_2_1 (hX : OkX V E own cc n lvl) (d : decode cc pc = .ok (.istore_n 1, 1)) {a0 a1 : Option Value} {a : Int} (hc : ckV a0) (k : G V E μ (pc + 1) [a0, some (vi a)] st) : G V E μ pc [a0, a1] (vi a :: st) := g_istore_n hX d (L := [a0, a1]) (Nat.le_of_ble_eq_true rfl) rfl (fun j v h e => by obtain rfl : j = 0 := (by omega); exact hc v (Option.some.inj h)) k
theorem st_istore_n_3_1 (hX : OkX V E own cc n lvl) (d : decode cc pc = .ok (.istore_n 1, 1)) {a0 a1 a2 : Option Value} {a : Int} (hc : ckV a0) (k : G V E μ (pc + 1) [a0, some (vi a), a2] st) : G V E μ pc [a0, a1, a2] (vi a :: st) := g_istore_n hX d (L := [a0, a1, a2]) (Nat.le_of_ble_eq_true rfl) rfl (fun j v h e => by obtain rfl : j = 0 := (by omega); exact hc v (Option.some.inj h)) k
theorem st_istore_n_3_2 (hX : OkX V E own cc n lvl) (d : decode cc pc = .ok (.istore_n 2, 1)) {a0 a1 a2 : Option Value} {a : Int} (hc : ckV a1) (k : G V E μ (pc + 1) [a0, a1, some (vi a)] st) : G V E μ pc [a0, a1, a2] (vi a :: st) := g_istore_n hX d (L := [a0, a1, a2]) (Nat.le_of_ble_eq_true rfl) rfl (fun j v h e => by obtain rfl : j = 1 := (by omega); exact hc v (Option.some.inj h)) k
theorem st_istore_n_4_1 (hX : OkX V E own cc n lvl) (d : decode cc pc = .ok (.istore_n 1, 1)) {a0 a1 a2 a3 : Option Value} {a : Int} (hc : ckV a0) (k : G V E μ (pc + 1) [a0, some (vi a), a2, a3] st) : G V E μ pc [a0, a1, a2, a3] (vi a :: st) := g_istore_n hX d (L := [a0, a1, a2, a3]) (Nat.le_of_ble_eq_true rfl) rfl (fun j v h e => by obtain rfl : j = 0 := (by omega); exact hc v (Option.some.inj h)) k
theorem st_istore_n_4_2 (hX : OkX V E own cc n lvl) (d : decode cc pc = .ok (.istore_n 2, 1)) {a0 a1 a2 a3 : Option Value} {a : Int} (hc : ckV a1) (k : G V E μ (pc + 1) [a0, a1, some (vi a), a3] st) : G V E μ pc [a0, a1, a2, a3] (vi a :: st) := g_istore_n hX d (L := [a0, a1, a2, a3]) (Nat.le_of_ble_eq_true rfl) rfl (fun j v h e => by obtain rfl : j = 1 := (by omega); exact hc v (Option.some.inj h)) k
theorem st_istore_n_4_3 (hX : OkX V E own cc n lvl) (d : decode cc pc = .ok (.istore_n 3, 1)) {a0 a1 a2 a3 : Option Value} {a : Int} (hc : ckV a2) (k : G V E μ (pc + 1) [a0, a1, a2, some (vi a)] st) : G V E μ pc [a0, a1, a2, a3] (vi a :: st) := g_istore_n hX d (L := [a0, a1, a2, a3]) (Nat.le_of_ble_eq_true rfl) rfl (fun j v h e => by obtain rfl : j = 2 := (by omega); exact hc v (Option.some.inj h)) k
theorem st_istore_n_5_1 (hX : OkX V E own cc n lvl) (d : decode cc pc = .ok (.istore_n 1, 1)) {a0 a1 a2 a3 a4 : Option Value} {a : Int} (hc : ckV a0) (k : G V E μ (pc + 1) [a0, some (vi a), a2, a3, a4] st) : G V E μ pc [a0, a1, a2, a3, a4] (vi a :: st) := g_istore_n hX d (L := [a0, a1, a2, a3, a4]) (Nat.le_of_ble_eq_true rfl) rfl (fun j v h e => by obtain rfl : j = 0 := (by omega); exact hc v (Option.some.inj h)) k
theorem st_istore_n_5_2 (hX : OkX V E own cc n lvl) (d : decode cc pc = .ok (.istore_n 2, 1)) {a0 a1 a2 a3 a4 : Option Value} {a : Int} (hc : ckV a1) (k : G V E μ (pc + 1) [a0, a1, some (vi a), a3, a4] st) : G V E μ pc [a0, a1, a2, a3, a4] (vi a :: st) := g_istore_n hX d (L := [a0, a1, a2, a3, a4]) (Nat.le_of_ble_eq_true rfl) rfl (fun j v h e => by obtain rfl : j = 1 := (by omega); exact hc v (Option.some.inj h)) k
theorem st_istore_n_5_3 (hX : OkX V E own cc n lvl) (d : decode cc pc = .ok (.istore_n 3, 1)) {a0 a1 a2 a3 a4 : Option Value} {a : Int} (hc : ckV a2) (k : G V E μ (pc + 1) [a0, a1, a2, some (vi a), a4] st) : G V E μ pc [a0, a1, a2, a3, a4] (vi a :: st) := g_istore_n hX d (L := [a0, a1, a2, a3, a4]) (Nat.le_of_ble_eq_true rfl) rfl (fun j v h e => by obtain rfl : j = 2 := (by omega); exact hc v (Option.some.inj h)) k
theorem st_istore_n_6_1 (hX : OkX V E own cc n lvl) (d : decode cc pc = .ok (.istore_n 1, 1)) {a0 a1 a2 a3 a4 a5 : Option Value} {a : Int} (hc : ckV a0) (k : G V E μ (pc + 1) [a0, some (vi a), a2, a3, a4, a5] st) : G V E μ pc [a0, a1, a2, a3, a4, a5] (vi a :: st) := g_istore_n hX d (L := [a0, a1, a2, a3, a4, a5]) (Nat.le_of_ble_eq_true rfl) rfl (fun j v h e => by obtain rfl : j = 0 := (by omega); exact hc v (Option.some.inj h)) k
theorem st_istore_n_6_2 (hX : OkX V E own cc n lvl) (d : decode cc pc = .ok (.istore_n 2, 1)) {a0 a1 a2 a3 a4 a5 : Option Value} {a : Int} (hc : ckV a1) (k : G V E μ (pc + 1) [a0, a1, some (vi a), a3, a4, a5] st) : G V E μ pc [a0, a1, a2, a3, a4, a5] (vi a :: st) := g_istore_n hX d (L := [a0, a1, a2, a3, a4, a5]) (Nat.le_of_ble_eq_true rfl) rfl (fun j v h e => by obtain rfl : j = 1 := (by omega); exact hc v (Option.some.inj h)) k
theorem st_istore_n_6_3 (hX : OkX V E own cc n lvl) (d : decode cc pc = .ok (.istore_n 3, 1)) {a0 a1 a2 a3 a4 a5 : Option Value} {a : Int} (hc : ckV a2) (k : G V E μ (pc + 1) [a0, a1, a2, some (vi a), a4, a5] st) : G V E μ pc [a0, a1, a2, a3, a4, a5] (vi a :: st) := g_istore_n hX d (L := [a0, a1, a2, a3, a4, a5]) (Nat.le_of_ble_eq_true rfl) rfl (fun j v h e => by obtain rfl : j = 2 := (by omega); exact hc v (Option.some.inj h)) k
theorem st_istore_n_7_3 (hX : OkX V E own cc n lvl) (d : decode cc pc = .ok (.istore_n 3, 1)) {a0 a1 a2 a3 a4 a5 a6 : Option Value} {a : Int} (hc : ckV a2) (k : G V E μ (pc + 1) [a0, a1, a2, some (vi a), a4, a5, a6] st) : G V E μ pc [a0, a1, a2, a3, a4, a5, a6] (vi a :: st) := g_istore_n hX d (L := [a0, a1, a2, a3, a4, a5, a6]) (Nat.le_of_ble_eq_true rfl) rfl (fun j v h e => by obtain rfl : j = 2 := (by omega); exact hc v (Option.some.inj h)) k
theorem st_istore_n_9_1 (hX : OkX V E own cc n lvl) (d : decode cc pc = .ok (.istore_n 1, 1)) {a0 a1 a2 a3 a4 a5 a6 a7 a8 : Option Value} {a : Int} (hc : ckV a0) (k : G V E μ (pc + 1) [a0, some (vi a), a2, a3, a4, a5, a6, a7, a8] st) : G V E μ pc [a0, a1, a2, a3, a4, a5, a6, a7, a8] (vi a :: st) := g_istore_n hX d (L := [a0, a1, a2, a3, a4, a5, a6, a7, a8]) (Nat.le_of_ble_eq_true rfl) rfl (fun j v h e => by obtain rfl : j = 0 := (by omega); exact hc v (Option.some.inj h)) k
theorem st_istore_n_9_2 (hX : OkX V E own cc n lvl) (d : decode cc pc = .ok (.istore_n 2, 1)) {a0 a1 a2 a3 a4 a5 a6 a7 a8 : Option Value} {a : Int} (hc : ckV a1) (k : G V E μ (pc + 1) [a0, a1, some (vi a), a3, a4, a5, a6, a7, a8] st) : G V E μ pc [a0, a1, a2, a3, a4, a5, a6, a7, a8] (vi a :: st) := g_istore_n hX d (L := [a0, a1, a2, a3, a4, a5, a6, a7, a8]) (Nat.le_of_ble_eq_true rfl) rfl (fun j v h e => by obtain rfl : j = 1 := (by omega); exact hc v (Option.some.inj h)) k
theorem st_istore_n_9_3 (hX : OkX V E own cc n lvl) (d : decode cc pc = .ok (.istore_n 3, 1)) {a0 a1 a2 a3 a4 a5 a6 a7 a8 : Option Value} {a : Int} (hc : ckV a2) (k : G V E μ (pc + 1) [a0, a1, a2, some (vi a), a4, a5, a6, a7, a8] st) : G V E μ pc [a0, a1, a2, a3, a4, a5, a6, a7, a8] (vi a :: st) := g_istore_n hX d (L := [a0, a1, a2, a3, a4, a5, a6, a7, a8]) (Nat.le_of_ble_eq_true rfl) rfl (fun j v h e => by obtain rfl : j = 2 := (by omega); exact hc v (Option.some.inj h)) k
theorem fg_2_1 {a0 a1 : Option Value} (k : G V E μ pc [a0, none] st) : G V E μ pc [a0, a1] st := g_weak (L := [a0, a1]) (i := 1) k
theorem fg_3_1 {a0 a1 a2 : Option Value} (k : G V E μ pc [a0, none, a2] st) : G V E μ pc [a0, a1, a2] st := g_weak (L := [a0, a1, a2]) (i := 1) k
theorem fg_3_2 {a0 a1 a2 : Option Value} (k : G V E μ pc [a0, a1, none] st) : G V E μ pc [a0, a1, a2] st := g_weak (L := [a0, a1, a2]) (i := 2) k
theorem fg_4_1 {a0 a1 a2 a3 : Option Value} (k : G V E μ pc [a0, none, a2, a3] st) : G V E μ pc [a0, a1, a2, a3] st := g_weak (L := [a0, a1, a2, a3]) (i := 1) k
theorem fg_4_2 {a0 a1 a2 a3 : Option Value} (k : G V E μ pc [a0, a1, none, a3] st) : G V E μ pc [a0, a1, a2, a3] st := g_weak (L := [a0, a1, a2, a3]) (i := 2) k
theorem fg_4_3 {a0 a1 a2 a3 : Option Value} (k : G V E μ pc [a0, a1, a2, none] st) : G V E μ pc [a0, a1, a2, a3] st := g_weak (L := [a0, a1, a2, a3]) (i := 3) k
theorem fg_5_1 {a0 a1 a2 a3 a4 : Option Value} (k : G V E μ pc [a0, none, a2, a3, a4] st) : G V E μ pc [a0, a1, a2, a3, a4] st := g_weak (L := [a0, a1, a2, a3, a4]) (i := 1) k
theorem fg_5_2 {a0 a1 a2 a3 a4 : Option Value} (k : G V E μ pc [a0, a1, none, a3, a4] st) : G V E μ pc [a0, a1, a2, a3, a4] st := g_weak (L := [a0, a1, a2, a3, a4]) (i := 2) k
theorem fg_5_3 {a0 a1 a2 a3 a4 : Option Value} (k : G V E μ pc [a0, a1, a2, none, a4] st) : G V E μ pc [a0, a1, a2, a3, a4] st := g_weak (L := [a0, a1, a2, a3, a4]) (i := 3) k
theorem fg_5_4 {a0 a1 a2 a3 a4 : Option Value} (k : G V E μ pc [a0, a1, a2, a3, none] st) : G V E μ pc [a0, a1, a2, a3, a4] st := g_weak (L := [a0, a1, a2, a3, a4]) (i := 4) k
theorem fg_6_1 {a0 a1 a2 a3 a4 a5 : Option Value} (k : G V E μ pc [a0, none, a2, a3, a4, a5] st) : G V E μ pc [a0, a1, a2, a3, a4, a5] st := g_weak (L := [a0, a1, a2, a3, a4, a5]) (i := 1) k
theorem fg_6_2 {a0 a1 a2 a3 a4 a5 : Option Value} (k : G V E μ pc [a0, a1, none, a3, a4, a5] st) : G V E μ pc [a0, a1, a2, a3, a4, a5] st := g_weak (L := [a0, a1, a2, a3, a4, a5]) (i := 2) k
theorem fg_6_3 {a0 a1 a2 a3 a4 a5 : Option Value} (k : G V E μ pc [a0, a1, a2, none, a4, a5] st) : G V E μ pc [a0, a1, a2, a3, a4, a5] st := g_weak (L := [a0, a1, a2, a3, a4, a5]) (i := 3) k
theorem fg_6_4 {a0 a1 a2 a3 a4 a5 : Option Value} (k : G V E μ pc [a0, a1, a2, a3, none, a5] st) : G V E μ pc [a0, a1, a2, a3, a4, a5] st := g_weak (L := [a0, a1, a2, a3, a4, a5]) (i := 4) k
theorem fg_6_5 {a0 a1 a2 a3 a4 a5 : Option Value} (k : G V E μ pc [a0, a1, a2, a3, a4, none] st) : G V E μ pc [a0, a1, a2, a3, a4, a5] st := g_weak (L := [a0, a1, a2, a3, a4, a5]) (i := 5) k
theorem fg_7_1 {a0 a1 a2 a3 a4 a5 a6 : Option Value} (k : G V E μ pc [a0, none, a2, a3, a4, a5, a6] st) : G V E μ pc [a0, a1, a2, a3, a4, a5, a6] st := g_weak (L := [a0, a1, a2, a3, a4, a5, a6]) (i := 1) k
theorem fg_7_2 {a0 a1 a2 a3 a4 a5 a6 : Option Value} (k : G V E μ pc [a0, a1, none, a3, a4, a5, a6] st) : G V E μ pc [a0, a1, a2, a3, a4, a5, a6] st := g_weak (L := [a0, a1, a2, a3, a4, a5, a6]) (i := 2) k
theorem fg_7_3 {a0 a1 a2 a3 a4 a5 a6 : Option Value} (k : G V E μ pc [a0, a1, a2, none, a4, a5, a6] st) : G V E μ pc [a0, a1, a2, a3, a4, a5, a6] st := g_weak (L := [a0, a1, a2, a3, a4, a5, a6]) (i := 3) k
theorem fg_7_4 {a0 a1 a2 a3 a4 a5 a6 : Option Value} (k : G V E μ pc [a0, a1, a2, a3, none, a5, a6] st) : G V E μ pc [a0, a1, a2, a3, a4, a5, a6] st := g_weak (L := [a0, a1, a2, a3, a4, a5, a6]) (i := 4) k
theorem fg_7_5 {a0 a1 a2 a3 a4 a5 a6 : Option Value} (k : G V E μ pc [a0, a1, a2, a3, a4, none, a6] st) : G V E μ pc [a0, a1, a2, a3, a4, a5, a6] st := g_weak (L := [a0, a1, a2, a3, a4, a5, a6]) (i := 5) k
theorem fg_7_6 {a0 a1 a2 a3 a4 a5 a6 : Option Value} (k : G V E μ pc [a0, a1, a2, a3, a4, a5, none] st) : G V E μ pc [a0, a1, a2, a3, a4, a5, a6] st := g_weak (L := [a0, a1, a2, a3, a4, a5, a6]) (i := 6) k
theorem fg_8_1 {a0 a1 a2 a3 a4 a5 a6 a7 : Option Value} (k : G V E μ pc [a0, none, a2, a3, a4, a5, a6, a7] st) : G V E μ pc [a0, a1, a2, a3, a4, a5, a6, a7] st := g_weak (L := [a0, a1, a2, a3, a4, a5, a6, a7]) (i := 1) k
theorem fg_8_2 {a0 a1 a2 a3 a4 a5 a6 a7 : Option Value} (k : G V E μ pc [a0, a1, none, a3, a4, a5, a6, a7] st) : G V E μ pc [a0, a1, a2, a3, a4, a5, a6, a7] st := g_weak (L := [a0, a1, a2, a3, a4, a5, a6, a7]) (i := 2) k
theorem fg_8_3 {a0 a1 a2 a3 a4 a5 a6 a7 : Option Value} (k : G V E μ pc [a0, a1, a2, none, a4, a5, a6, a7] st) : G V E μ pc [a0, a1, a2, a3, a4, a5, a6, a7] st := g_weak (L := [a0, a1, a2, a3, a4, a5, a6, a7]) (i := 3) k
theorem fg_8_4 {a0 a1 a2 a3 a4 a5 a6 a7 : Option Value} (k : G V E μ pc [a0, a1, a2, a3, none, a5, a6, a7] st) : G V E μ pc [a0, a1, a2, a3, a4, a5, a6, a7] st := g_weak (L := [a0, a1, a2, a3, a4, a5, a6, a7]) (i := 4) k
theorem fg_8_5 {a0 a1 a2 a3 a4 a5 a6 a7 : Option Value} (k : G V E μ pc [a0, a1, a2, a3, a4, none, a6, a7] st) : G V E μ pc [a0, a1, a2, a3, a4, a5, a6, a7] st := g_weak (L := [a0, a1, a2, a3, a4, a5, a6, a7]) (i := 5) k
theorem fg_8_6 {a0 a1 a2 a3 a4 a5 a6 a7 : Option Value} (k : G V E μ pc [a0, a1, a2, a3, a4, a5, none, a7] st) : G V E μ pc [a0, a1, a2, a3, a4, a5, a6, a7] st := g_weak (L := [a0, a1, a2, a3, a4, a5, a6, a7]) (i := 6) k
theorem fg_8_7 {a0 a1 a2 a3 a4 a5 a6 a7 : Option Value} (k : G V E μ pc [a0, a1, a2, a3, a4, a5, a6, none] st) : G V E μ pc [a0, a1, a2, a3, a4, a5, a6, a7] st := g_weak (L := [a0, a1, a2, a3, a4, a5, a6, a7]) (i := 7) k
theorem fg_9_1 {a0 a1 a2 a3 a4 a5 a6 a7 a8 : Option Value} (k : G V E μ pc [a0, none, a2, a3, a4, a5, a6, a7, a8] st) : G V E μ pc [a0, a1, a2, a3, a4, a5, a6, a7, a8] st := g_weak (L := [a0, a1, a2, a3, a4, a5, a6, a7, a8]) (i := 1) k
theorem fg_9_2 {a0 a1 a2 a3 a4 a5 a6 a7 a8 : Option Value} (k : G V E μ pc [a0, a1, none, a3, a4, a5, a6, a7, a8] st) : G V E μ pc [a0, a1, a2, a3, a4, a5, a6, a7, a8] st := g_weak (L := [a0, a1, a2, a3, a4, a5, a6, a7, a8]) (i := 2) k
theorem fg_9_3 {a0 a1 a2 a3 a4 a5 a6 a7 a8 : Option Value} (k : G V E μ pc [a0, a1, a2, none, a4, a5, a6, a7, a8] st) : G V E μ pc [a0, a1, a2, a3, a4, a5, a6, a7, a8] st := g_weak (L := [a0, a1, a2, a3, a4, a5, a6, a7, a8]) (i := 3) k
theorem fg_9_4 {a0 a1 a2 a3 a4 a5 a6 a7 a8 : Option Value} (k : G V E μ pc [a0, a1, a2, a3, none, a5, a6, a7, a8] st) : G V E μ pc [a0, a1, a2, a3, a4, a5, a6, a7, a8] st := g_weak (L := [a0, a1, a2, a3, a4, a5, a6, a7, a8]) (i := 4) k
theorem fg_9_5 {a0 a1 a2 a3 a4 a5 a6 a7 a8 : Option Value} (k : G V E μ pc [a0, a1, a2, a3, a4, none, a6, a7, a8] st) : G V E μ pc [a0, a1, a2, a3, a4, a5, a6, a7, a8] st := g_weak (L := [a0, a1, a2, a3, a4, a5, a6, a7, a8]) (i := 5) k
theorem fg_9_6 {a0 a1 a2 a3 a4 a5 a6 a7 a8 : Option Value} (k : G V E μ pc [a0, a1, a2, a3, a4, a5, none, a7, a8] st) : G V E μ pc [a0, a1, a2, a3, a4, a5, a6, a7, a8] st := g_weak (L := [a0, a1, a2, a3, a4, a5, a6, a7, a8]) (i := 6) k
theorem fg_9_7 {a0 a1 a2 a3 a4 a5 a6 a7 a8 : Option Value} (k : G V E μ pc [a0, a1, a2, a3, a4, a5, a6, none, a8] st) : G V E μ pc [a0, a1, a2, a3, a4, a5, a6, a7, a8] st := g_weak (L := [a0, a1, a2, a3, a4, a5, a6, a7, a8]) (i := 7) k
theorem fg_9_8 {a0 a1 a2 a3 a4 a5 a6 a7 a8 : Option Value} (k : G V E μ pc [a0, a1, a2, a3, a4, a5, a6, a7, none] st) : G V E μ pc [a0, a1, a2, a3, a4, a5, a6, a7, a8] st := g_weak (L := [a0, a1, a2, a3, a4, a5, a6, a7, a8]) (i := 8) k
theorem fg_10_1 {a0 a1 a2 a3 a4 a5 a6 a7 a8 a9 : Option Value} (k : G V E μ pc [a0, none, a2, a3, a4, a5, a6, a7, a8, a9] st) : G V E μ pc [a0, a1, a2, a3, a4, a5, a6, a7, a8, a9] st := g_weak (L := [a0, a1, a2, a3, a4, a5, a6, a7, a8, a9]) (i := 1) k
theorem fg_10_2 {a0 a1 a2 a3 a4 a5 a6 a7 a8 a9 : Option Value} (k : G V E μ pc [a0, a1, none, a3, a4, a5, a6, a7, a8, a9] st) : G V E μ pc [a0, a1, a2, a3, a4, a5, a6, a7, a8, a9] st := g_weak (L := [a0, a1, a2, a3, a4, a5, a6, a7, a8, a9]) (i := 2) k
theorem fg_10_3 {a0 a1 a2 a3 a4 a5 a6 a7 a8 a9 : Option Value} (k : G V E μ pc [a0, a1, a2, none, a4, a5, a6, a7, a8, a9] st) : G V E μ pc [a0, a1, a2, a3, a4, a5, a6, a7, a8, a9] st := g_weak (L := [a0, a1, a2, a3, a4, a5, a6, a7, a8, a9]) (i := 3) k
theorem fg_10_4 {a0 a1 a2 a3 a4 a5 a6 a7 a8 a9 : Option Value} (k : G V E μ pc [a0, a1, a2, a3, none, a5, a6, a7, a8, a9] st) : G V E μ pc [a0, a1, a2, a3, a4, a5, a6, a7, a8, a9] st := g_weak (L := [a0, a1, a2, a3, a4, a5, a6, a7, a8, a9]) (i := 4) k
theorem fg_10_5 {a0 a1 a2 a3 a4 a5 a6 a7 a8 a9 : Option Value} (k : G V E μ pc [a0, a1, a2, a3, a4, none, a6, a7, a8, a9] st) : G V E μ pc [a0, a1, a2, a3, a4, a5, a6, a7, a8, a9] st := g_weak (L := [a0, a1, a2, a3, a4, a5, a6, a7, a8, a9]) (i := 5) k
theorem fg_10_6 {a0 a1 a2 a3 a4 a5 a6 a7 a8 a9 : Option Value} (k : G V E μ pc [a0, a1, a2, a3, a4, a5, none, a7, a8, a9] st) : G V E μ pc [a0, a1, a2, a3, a4, a5, a6, a7, a8, a9] st := g_weak (L := [a0, a1, a2, a3, a4, a5, a6, a7, a8, a9]) (i := 6) k
theorem fg_10_7 {a0 a1 a2 a3 a4 a5 a6 a7 a8 a9 : Option Value} (k : G V E μ pc [a0, a1, a2, a3, a4, a5, a6, none, a8, a9] st) : G V E μ pc [a0, a1, a2, a3, a4, a5, a6, a7, a8, a9] st := g_weak (L := [a0, a1, a2, a3, a4, a5, a6, a7, a8, a9]) (i := 7) k
theorem fg_10_8 {a0 a1 a2 a3 a4 a5 a6 a7 a8 a9 : Option Value} (k : G V E μ pc [a0, a1, a2, a3, a4, a5, a6, a7, none, a9] st) : G V E μ pc [a0, a1, a2, a3, a4, a5, a6, a7, a8, a9] st := g_weak (L := [a0, a1, a2, a3, a4, a5, a6, a7, a8, a9]) (i := 8) k
theorem fg_10_9 {a0 a1 a2 a3 a4 a5 a6 a7 a8 a9 : Option Value} (k : G V E μ pc [a0, a1, a2, a3, a4, a5, a6, a7, a8, none] st) : G V E μ pc [a0, a1, a2, a3, a4, a5, a6, a7, a8, a9] st := g_weak (L := [a0, a1, a2, a3, a4, a5, a6, a7, a8, a9]) (i := 9) k
theorem fg_11_1 {a0 a1 a2 a3 a4 a5 a6 a7 a8 a9 a10 : Option Value} (k : G V E μ pc [a0, none, a2, a3, a4, a5, a6, a7, a8, a9, a10] st) : G V E μ pc [a0, a1, a2, a3, a4, a5, a6, a7, a8, a9, a10] st := g_weak (L := [a0, a1, a2, a3, a4, a5, a6, a7, a8, a9, a10]) (i := 1) k
theorem fg_11_2 {a0 a1 a2 a3 a4 a5 a6 a7 a8 a9 a10 : Option Value} (k : G V E μ pc [a0, a1, none, a3, a4, a5, a6, a7, a8, a9, a10] st) : G V E μ pc [a0, a1, a2, a3, a4, a5, a6, a7, a8, a9, a10] st := g_weak (L := [a0, a1, a2, a3, a4, a5, a6, a7, a8, a9, a10]) (i := 2) k
theorem fg_11_3 {a0 a1 a2 a3 a4 a5 a6 a7 a8 a9 a10 : Option Value} (k : G V E μ pc [a0, a1, a2, none, a4, a5, a6, a7, a8, a9, a10] st) : G V E μ pc [a0, a1, a2, a3, a4, a5, a6, a7, a8, a9, a10] st := g_weak (L := [a0, a1, a2, a3, a4, a5, a6, a7, a8, a9, a10]) (i := 3) k
theorem fg_11_4 {a0 a1 a2 a3 a4 a5 a6 a7 a8 a9 a10 : Option Value} (k : G V E μ pc [a0, a1, a2, a3, none, a5, a6, a7, a8, a9, a10] st) : G V E μ pc [a0, a1, a2, a3, a4, a5, a6, a7, a8, a9, a10] st := g_weak (L := [a0, a1, a2, a3, a4, a5, a6, a7, a8, a9, a10]) (i := 4) k
theorem fg_11_5 {a0 a1 a2 a3 a4 a5 a6 a7 a8 a9 a10 : Option Value} (k : G V E μ pc [a0, a1, a2, a3, a4, none, a6, a7, a8, a9, a10] st) : G V E μ pc [a0, a1, a2, a3, a4, a5, a6, a7, a8, a9, a10] st := g_weak (L := [a0, a1, a2, a3, a4, a5, a6, a7, a8, a9, a10]) (i := 5) k
theorem fg_11_6 {a0 a1 a2 a3 a4 a5 a6 a7 a8 a9 a10 : Option Value} (k : G V E μ pc [a0, a1, a2, a3, a4, a5, none, a7, a8, a9, a10] st) : G V E μ pc [a0, a1, a2, a3, a4, a5, a6, a7, a8, a9, a10] st := g_weak (L := [a0, a1, a2, a3, a4, a5, a6, a7, a8, a9, a10]) (i := 6) k
theorem fg_11_7 {a0 a1 a2 a3 a4 a5 a6 a7 a8 a9 a10 : Option Value} (k : G V E μ pc [a0, a1, a2, a3, a4, a5, a6, none, a8, a9, a10] st) : G V E μ pc [a0, a1, a2, a3, a4, a5, a6, a7, a8, a9, a10] st := g_weak (L := [a0, a1, a2, a3, a4, a5, a6, a7, a8, a9, a10]) (i := 7) k
theorem fg_11_8 {a0 a1 a2 a3 a4 a5 a6 a7 a8 a9 a10 : Option Value} (k : G V E μ pc [a0, a1, a2, a3, a4, a5, a6, a7, none, a9, a10] st) : G V E μ pc [a0, a1, a2, a3, a4, a5, a6, a7, a8, a9, a10] st := g_weak (L := [a0, a1, a2, a3, a4, a5, a6, a7, a8, a9, a10]) (i := 8) k
theorem fg_11_9 {a0 a1 a2 a3 a4 a5 a6 a7 a8 a9 a10 : Option Value} (k : G V E μ pc [a0, a1, a2, a3, a4, a5, a6, a7, a8, none, a10] st) : G V E μ pc [a0, a1, a2, a3, a4, a5, a6, a7, a8, a9, a10] st := g_weak (L := [a0, a1, a2, a3, a4, a5, a6, a7, a8, a9, a10]) (i := 9) k
theorem fg_11_10 {a0 a1 a2 a3 a4 a5 a6 a7 a8 a9 a10 : Option Value} (k : G V E μ pc [a0, a1, a2, a3, a4, a5, a6, a7, a8, a9, none] st) : G V E μ pc [a0, a1, a2, a3, a4, a5, a6, a7, a8, a9, a10] st := g_weak (L := [a0, a1, a2, a3, a4, a5, a6, a7, a8, a9, a10]) (i := 10) k
theorem fg_12_1 {a0 a1 a2 a3 a4 a5 a6 a7 a8 a9 a10 a11 : Option Value} (k : G V E μ pc [a0, none, a2, a3, a4, a5, a6, a7, a8, a9, a10, a11] st) : G V E μ pc [a0, a1, a2, a3, a4, a5, a6, a7, a8, a9, a10, a11] st := g_weak (L := [a0, a1, a2, a3, a4, a5, a6, a7, a8, a9, a10, a11]) (i := 1) k
theorem fg_12_2 {a0 a1 a2 a3 a4 a5 a6 a7 a8 a9 a10 a11 : Option Value} (k : G V E μ pc [a0, a1, none, a3, a4, a5, a6, a7, a8, a9, a10, a11] st) : G V E μ pc [a0, a1, a2, a3, a4, a5, a6, a7, a8, a9, a10, a11] st := g_weak (L := [a0, a1, a2, a3, a4, a5, a6, a7, a8, a9, a10, a11]) (i := 2) k
theorem fg_12_3 {a0 a1 a2 a3 a4 a5 a6 a7 a8 a9 a10 a11 : Option Value} (k : G V E μ pc [a0, a1, a2, none, a4, a5, a6, a7, a8, a9, a10, a11] st) : G V E μ pc [a0, a1, a2, a3, a4, a5, a6, a7, a8, a9, a10, a11] st := g_weak (L := [a0, a1, a2, a3, a4, a5, a6, a7, a8, a9, a10, a11]) (i := 3) k
theorem fg_12_4 {a0 a1 a2 a3 a4 a5 a6 a7 a8 a9 a10 a11 : Option Value} (k : G V E μ pc [a0, a1, a2, a3, none, a5, a6, a7, a8, a9, a10, a11] st) : G V E μ pc [a0, a1, a2, a3, a4, a5, a6, a7, a8, a9, a10, a11] st := g_weak (L := [a0, a1, a2, a3, a4, a5, a6, a7, a8, a9, a10, a11]) (i := 4) k
theorem fg_12_5 {a0 a1 a2 a3 a4 a5 a6 a7 a8 a9 a10 a11 : Option Value} (k : G V E μ pc [a0, a1, a2, a3, a4, none, a6, a7, a8, a9, a10, a11] st) : G V E μ pc [a0, a1, a2, a3, a4, a5, a6, a7, a8, a9, a10, a11] st := g_weak (L := [a0, a1, a2, a3, a4, a5, a6, a7, a8, a9, a10, a11]) (i := 5) k
theorem fg_12_6 {a0 a1 a2 a3 a4 a5 a6 a7 a8 a9 a10 a11 : Option Value} (k : G V E μ pc [a0, a1, a2, a3, a4, a5, none, a7, a8, a9, a10, a11] st) : G V E μ pc [a0, a1, a2, a3, a4, a5, a6, a7, a8, a9, a10, a11] st := g_weak (L := [a0, a1, a2, a3, a4, a5, a6, a7, a8, a9, a10, a11]) (i := 6) k
theorem fg_12_7 {a0 a1 a2 a3 a4 a5 a6 a7 a8 a9 a10 a11 : Option Value} (k : G V E μ pc [a0, a1, a2, a3, a4, a5, a6, none, a8, a9, a10, a11] st) : G V E μ pc [a0, a1, a2, a3, a4, a5, a6, a7, a8, a9, a10, a11] st := g_weak (L := [a0, a1, a2, a3, a4, a5, a6, a7, a8, a9, a10, a11]) (i := 7) k
theorem fg_12_8 {a0 a1 a2 a3 a4 a5 a6 a7 a8 a9 a10 a11 : Option Value} (k : G V E μ pc [a0, a1, a2, a3, a4, a5, a6, a7, none, a9, a10, a11] st) : G V E μ pc [a0, a1, a2, a3, a4, a5, a6, a7, a8, a9, a10, a11] st := g_weak (L := [a0, a1, a2, a3, a4, a5, a6, a7, a8, a9, a10, a11]) (i := 8) k
theorem fg_12_9 {a0 a1 a2 a3 a4 a5 a6 a7 a8 a9 a10 a11 : Option Value} (k : G V E μ pc [a0, a1, a2, a3, a4, a5, a6, a7, a8, none, a10, a11] st) : G V E μ pc [a0, a1, a2, a3, a4, a5, a6, a7, a8, a9, a10, a11] st := g_weak (L := [a0, a1, a2, a3, a4, a5, a6, a7, a8, a9, a10, a11]) (i := 9) k
theorem fg_12_10 {a0 a1 a2 a3 a4 a5 a6 a7 a8 a9 a10 a11 : Option Value} (k : G V E μ pc [a0, a1, a2, a3, a4, a5, a6, a7, a8, a9, none, a11] st) : G V E μ pc [a0, a1, a2, a3, a4, a5, a6, a7, a8, a9, a10, a11] st := g_weak (L := [a0, a1, a2, a3, a4, a5, a6, a7, a8, a9, a10, a11]) (i := 10) k
theorem fg_12_11 {a0 a1 a2 a3 a4 a5 a6 a7 a8 a9 a10 a11 : Option Value} (k : G V E μ pc [a0, a1, a2, a3, a4, a5, a6, a7, a8, a9, a10, none] st) : G V E μ pc [a0, a1, a2, a3, a4, a5, a6, a7, a8, a9, a10, a11] st := g_weak (L := [a0, a1, a2, a3, a4, a5, a6, a7, a8, a9, a10, a11]) (i := 11) k
end ST
end
section
/-! the small objects: piles, parts, beds, the lorry -/
theorem mset_ne {μ : Mem} {k j k' j' : Nat} {v : Int} (h : k' ≠ k ∨ j' ≠ j) : mset μ k j v k' j' = μ k' j' := by
  unfold mset
  rw [if_neg]
  intro q
  rcases h with h | h
  · exact h q.1
  · exact h q.2
theorem mset_same {μ : Mem} {k j : Nat} {v : Int} : mset μ k j v k j = v := by unfold mset; rw [if_pos ⟨rfl, rfl⟩]
set_option maxHeartbeats 4000000 in
theorem c_hasRoom {l : Launch} {V : VX} (hI : InjV V) {μ : Mem} {k h : Nat} (hk : okd k = 5) (hh : μ k 1 = (h : Int)) (h4 : h ≤ 4) : Ct l yX5_hasRoom cX5_hasRoom 1 (some .boolean) 1 V [vr V k] μ (pI (fun z μ' => z = (if h < 4 then 1 else 0) ∧ μ' = μ)) := by
  refine Ct_of (by decide) hI (Nat.le_of_ble_eq_true rfl) (fun E hE hX hR => ?_)
  have hX : OkX V E RX5 cX5_hasRoom 1 1 := hX
  show G V E μ 0 [some (vr V k)] []
  refine g_aload_n hX dX5_hasRoom_0 rfl ?_
  refine gf_X5_15 hX dX5_hasRoom_1 (by first | assumption | exact okd_part (by omega) | exact okd_bed (by omega) | exact okd_pile (by omega) | exact okd_dpile (by omega)) ?_
  refine g_aload_n hX dX5_hasRoom_4 rfl ?_
  refine gf_X5_9 hX dX5_hasRoom_5 (by first | assumption | exact okd_part (by omega) | exact okd_bed (by omega) | exact okd_pile (by omega) | exact okd_dpile (by omega)) ?_
  refine g_alen hX dX5_hasRoom_8 (N := 4) (Or.inl ⟨(alen5 (by first | assumption | exact okd_part (by omega) | exact okd_bed (by omega) | exact okd_pile (by omega) | exact okd_dpile (by omega))), by decide⟩) ?_
  refine g_icmp_ge (tgt := 16) hX dX5_hasRoom_9 (by decide) ⟨by omega, by omega⟩ ⟨by omega, by omega⟩ (fun hc => ?_) (fun hc => ?_)
  · refine g_iconst hX dX5_hasRoom_16 ?_
    refine g_zret hX hR dX5_hasRoom_17 (Or.inl rfl) ⟨_, rfl, by rw [if_neg (by omega)], rfl⟩
  · refine g_iconst hX dX5_hasRoom_12 ?_
    refine g_goto (tgt := 17) hX dX5_hasRoom_13 (by decide) ?_
    refine g_zret hX hR dX5_hasRoom_17 (Or.inr rfl) ⟨_, rfl, by rw [if_pos (by omega)], rfl⟩
set_option maxHeartbeats 4000000 in
theorem c_put {l : Launch} {V : VX} (hI : InjV V) {μ : Mem} {k h : Nat} {p : Int} (hk : okd k = 5) (hh : μ k 1 = (h : Int)) (h4 : h < 4) : Ct l yX5_put cX5_put 2 none 1 V [vr V k, vi p] μ (pV (fun μ' => μ' = mset (mset μ (k + 5) h p) k 1 ((h : Int) + 1))) := by
  refine Ct_of (by decide) hI (Nat.le_of_ble_eq_true rfl) (fun E hE hX hR => ?_)
  have hX : OkX V E RX5 cX5_put 2 1 := hX
  show G V E μ 0 [some (vr V k), some (vi p)] []
  refine g_aload_n hX dX5_put_0 rfl ?_
  refine gf_X5_15 hX dX5_put_1 (by first | assumption | exact okd_part (by omega) | exact okd_bed (by omega) | exact okd_pile (by omega) | exact okd_dpile (by omega)) ?_
  refine g_if_lt (tgt := 39) hX dX5_put_4 (by decide) ⟨by omega, by omega⟩ (fun hc => absurd hc (by omega)) (fun _ => ?_)
  refine g_aload_n hX dX5_put_7 rfl ?_
  refine gf_X5_15 hX dX5_put_8 (by first | assumption | exact okd_part (by omega) | exact okd_bed (by omega) | exact okd_pile (by omega) | exact okd_dpile (by omega)) ?_
  refine g_aload_n hX dX5_put_11 rfl ?_
  refine gf_X5_9 hX dX5_put_12 (by first | assumption | exact okd_part (by omega) | exact okd_bed (by omega) | exact okd_pile (by omega) | exact okd_dpile (by omega)) ?_
  refine g_alen hX dX5_put_15 (N := 4) (Or.inl ⟨(alen5 (by first | assumption | exact okd_part (by omega) | exact okd_bed (by omega) | exact okd_pile (by omega) | exact okd_dpile (by omega))), by decide⟩) ?_
  refine g_icmp_ge (tgt := 39) hX dX5_put_16 (by decide) ⟨by omega, by omega⟩ ⟨by omega, by omega⟩ (fun hc => absurd hc (by omega)) (fun _ => ?_)
  refine g_aload_n hX dX5_put_19 rfl ?_
  refine gf_X5_9 hX dX5_put_20 (by first | assumption | exact okd_part (by omega) | exact okd_bed (by omega) | exact okd_pile (by omega) | exact okd_dpile (by omega)) ?_
  refine g_aload_n hX dX5_put_23 rfl ?_
  refine gf_X5_15 hX dX5_put_24 (by first | assumption | exact okd_part (by omega) | exact okd_bed (by omega) | exact okd_pile (by omega) | exact okd_dpile (by omega)) ?_
  refine g_iload_n hX dX5_put_27 rfl ?_
  refine g_iastN (i := h) hX dX5_put_28 (N := 4) (alen5 (by first | assumption | exact okd_part (by omega) | exact okd_bed (by omega) | exact okd_pile (by omega) | exact okd_dpile (by omega))) (by omega) (by omega) (by decide) ?_
  refine g_aload_n hX dX5_put_29 rfl ?_
  refine g_dup hX dX5_put_30 rfl ?_
  refine gf_X5_15 hX dX5_put_31 (by first | assumption | exact okd_part (by omega) | exact okd_bed (by omega) | exact okd_pile (by omega) | exact okd_dpile (by omega)) ?_
  simp (disch := omega) only [mset_ne, mset_same]
  refine g_iconst hX dX5_put_34 ?_
  refine g_iadd hX dX5_put_35 ?_
  refine pf_X5_15 hX dX5_put_36 (by first | assumption | exact okd_part (by omega) | exact okd_bed (by omega) | exact okd_pile (by omega) | exact okd_dpile (by omega)) ?_
  refine g_vret hX hR dX5_put_39 ⟨rfl, by rw [hh]⟩
set_option maxHeartbeats 4000000 in
theorem c_from {l : Launch} {V : VX} (hI : InjV V) {μ : Mem} {k h : Nat} {i : Int} (hk : okd k = 5) (hh : μ k 1 = (h : Int)) (h4 : h ≤ 4) (hi : in32 i) : Ct l yX5_from cX5_from 2 (some .int) 1 V [vr V k, vi i] μ (pI (fun z μ' => z = (if 0 ≤ i ∧ i < (h : Int) then μ (k + 5) i.toNat else -4) ∧ μ' = μ)) := by
  refine Ct_of (by decide) hI (Nat.le_of_ble_eq_true rfl) (fun E hE hX hR => ?_)
  have hX : OkX V E RX5 cX5_from 2 1 := hX
  show G V E μ 0 [some (vr V k), some (vi i)] []
  obtain ⟨hi1, hi2⟩ := hi
  refine g_iload_n hX dX5_from_0 rfl ?_
  refine g_if_lt (tgt := 21) hX dX5_from_1 (by decide) ⟨by omega, by omega⟩ (fun h1 => ?_) (fun h1 => ?_)
  · refine g_bipush hX dX5_from_21 rfl ?_
    refine g_goto (tgt := 32) hX dX5_from_23 (by decide) ?_
    refine g_iret hX hR dX5_from_32 ⟨_, rfl, by rw [if_neg (by omega)], rfl⟩
  · refine g_iload_n hX dX5_from_4 rfl ?_
    refine g_aload_n hX dX5_from_5 rfl ?_
    refine gf_X5_15 hX dX5_from_6 (by first | assumption | exact okd_part (by omega) | exact okd_bed (by omega) | exact okd_pile (by omega) | exact okd_dpile (by omega)) ?_
    refine g_icmp_ge (tgt := 21) hX dX5_from_9 (by decide) ⟨by omega, by omega⟩ ⟨by omega, by omega⟩ (fun h2 => ?_) (fun h2 => ?_)
    · refine g_bipush hX dX5_from_21 rfl ?_
      refine g_goto (tgt := 32) hX dX5_from_23 (by decide) ?_
      refine g_iret hX hR dX5_from_32 ⟨_, rfl, by rw [if_neg (by omega)], rfl⟩
    · refine g_iload_n hX dX5_from_12 rfl ?_
      refine g_aload_n hX dX5_from_13 rfl ?_
      refine gf_X5_9 hX dX5_from_14 (by first | assumption | exact okd_part (by omega) | exact okd_bed (by omega) | exact okd_pile (by omega) | exact okd_dpile (by omega)) ?_
      refine g_alen hX dX5_from_17 (N := 4) (Or.inl ⟨(alen5 (by first | assumption | exact okd_part (by omega) | exact okd_bed (by omega) | exact okd_pile (by omega) | exact okd_dpile (by omega))), by decide⟩) ?_
      refine g_icmp_lt (tgt := 26) hX dX5_from_18 (by decide) ⟨by omega, by omega⟩ ⟨by omega, by omega⟩ (fun _ => ?_) (fun hc => absurd hc (by omega))
      refine g_aload_n hX dX5_from_26 rfl ?_
      refine gf_X5_9 hX dX5_from_27 (by first | assumption | exact okd_part (by omega) | exact okd_bed (by omega) | exact okd_pile (by omega) | exact okd_dpile (by omega)) ?_
      refine g_iload_n hX dX5_from_30 rfl ?_
      refine g_ialdN (i := i.toNat) hX dX5_from_31 (N := 4) (alen5 (by first | assumption | exact okd_part (by omega) | exact okd_bed (by omega) | exact okd_pile (by omega) | exact okd_dpile (by omega))) (by omega) (by omega) (by decide) ?_
      refine g_iret hX hR dX5_from_32 ⟨_, rfl, by rw [if_pos (by omega)], rfl⟩
set_option maxHeartbeats 4000000 in
theorem c_top {l : Launch} {V : VX} (hI : InjV V) {μ : Mem} {k h : Nat} (hk : okd k = 5) (hh : μ k 1 = (h : Int)) (h4 : h ≤ 4) : Ct l yX5_top cX5_top 1 (some .int) 2 V [vr V k] μ (pI (fun z μ' => z = (if 0 < h then μ (k + 5) (h - 1) else -4) ∧ μ' = μ)) := by
  refine Ct_of (by decide) hI (Nat.le_of_ble_eq_true rfl) (fun E hE hX hR => ?_)
  have hX : OkX V E RX5 cX5_top 1 2 := hX
  show G V E μ 0 [some (vr V k)] []
  refine g_aload_n hX dX5_top_0 rfl ?_
  refine g_aload_n hX dX5_top_1 rfl ?_
  refine gf_X5_15 hX dX5_top_2 (by first | assumption | exact okd_part (by omega) | exact okd_bed (by omega) | exact okd_pile (by omega) | exact okd_dpile (by omega)) ?_
  refine g_iconst hX dX5_top_5 ?_
  refine g_isub hX dX5_top_6 ?_
  refine g_v1I hX lk_X5_19 dX5_top_7 (c0 := 5) (by first | assumption | exact okd_part (by omega) | exact okd_bed (by omega) | exact okd_pile (by omega) | exact okd_dpile (by omega)) ⟨_, rfl, rfl⟩ (c_from hI hk hh h4 ⟨by omega, by omega⟩) (by first | decide | omega) (by decide) rfl (Nat.le_of_ble_eq_true rfl) (fun z μ' hp => ?_)
  obtain ⟨rfl, rfl⟩ := hp
  refine g_iret hX hR dX5_top_10 ⟨_, rfl, ?_, rfl⟩
  rw [hh]
  by_cases h0 : 0 < h
  · rw [if_pos (by omega), if_pos h0, show ((h : Int) - 1).toNat = h - 1 by omega]
  · rw [if_neg (by omega), if_neg h0]
set_option maxHeartbeats 4000000 in
theorem c_takeOff {l : Launch} {V : VX} (hI : InjV V) {μ : Mem} {k h : Nat} (hk : okd k = 5) (hh : μ k 1 = (h : Int)) (h4 : h ≤ 4) (h0 : 0 < h) : Ct l yX5_takeOff cX5_takeOff 2 (some .int) 3 V [vr V k] μ (pI (fun z μ' => z = μ (k + 5) (h - 1) ∧ μ' = mset μ k 1 ((h : Int) - 1))) := by
  refine Ct_of (by decide) hI (Nat.le_of_ble_eq_true rfl) (fun E hE hX hR => ?_)
  have hX : OkX V E RX5 cX5_takeOff 2 3 := hX
  show G V E μ 0 [some (vr V k), none] []
  refine g_aload_n hX dX5_takeOff_0 rfl ?_
  refine g_v0I hX lk_X5_23 dX5_takeOff_1 (c0 := 5) (by first | assumption | exact okd_part (by omega) | exact okd_bed (by omega) | exact okd_pile (by omega) | exact okd_dpile (by omega)) ⟨_, rfl, rfl⟩ (c_top hI hk hh h4) (by first | decide | omega) (by decide) rfl (Nat.le_of_ble_eq_true rfl) (fun z μ' hp => ?_)
  obtain ⟨rfl, rfl⟩ := hp
  rw [if_pos h0]
  refine st_istore_n_2_1 hX dX5_takeOff_4 (by first | exact ck_i _ | exact ck_r _ _ | exact ck_n | exact ck_0) ?_
  refine g_aload_n hX dX5_takeOff_5 rfl ?_
  refine gf_X5_15 hX dX5_takeOff_6 (by first | assumption | exact okd_part (by omega) | exact okd_bed (by omega) | exact okd_pile (by omega) | exact okd_dpile (by omega)) ?_
  refine g_if_le (tgt := 22) hX dX5_takeOff_9 (by decide) ⟨by omega, by omega⟩ (fun hc => absurd hc (by omega)) (fun _ => ?_)
  refine g_aload_n hX dX5_takeOff_12 rfl ?_
  refine g_dup hX dX5_takeOff_13 rfl ?_
  refine gf_X5_15 hX dX5_takeOff_14 (by first | assumption | exact okd_part (by omega) | exact okd_bed (by omega) | exact okd_pile (by omega) | exact okd_dpile (by omega)) ?_
  refine g_iconst hX dX5_takeOff_17 ?_
  refine g_isub hX dX5_takeOff_18 ?_
  refine pf_X5_15 hX dX5_takeOff_19 (by first | assumption | exact okd_part (by omega) | exact okd_bed (by omega) | exact okd_pile (by omega) | exact okd_dpile (by omega)) ?_
  refine g_iload_n hX dX5_takeOff_22 rfl ?_
  refine g_iret hX hR dX5_takeOff_23 ⟨_, rfl, rfl, by rw [hh]⟩
set_option maxHeartbeats 4000000 in
theorem c_pclear {l : Launch} {V : VX} (hI : InjV V) {μ : Mem} {k : Nat} (hk : okd k = 5) : Ct l yX5_clear cX5_clear 1 none 1 V [vr V k] μ (pV (fun μ' => μ' = mset μ k 1 0)) := by
  refine Ct_of (by decide) hI (Nat.le_of_ble_eq_true rfl) (fun E hE hX hR => ?_)
  have hX : OkX V E RX5 cX5_clear 1 1 := hX
  show G V E μ 0 [some (vr V k)] []
  refine g_aload_n hX dX5_clear_0 rfl ?_
  refine g_iconst hX dX5_clear_1 ?_
  refine pf_X5_15 hX dX5_clear_2 (by first | assumption | exact okd_part (by omega) | exact okd_bed (by omega) | exact okd_pile (by omega) | exact okd_dpile (by omega)) ?_
  refine g_vret hX hR dX5_clear_5 ⟨rfl, rfl⟩
set_option maxHeartbeats 4000000 in
theorem c_measure {l : Launch} {V : VX} (hI : InjV V) {μ : Mem} {k : Nat} {a b c : Int} (hk : okd k = 4) : Ct l yX4_measure cX4_measure 4 none 1 V [vr V k, vi a, vi b, vi c] μ (pV (fun μ' => μ' = mset (mset (mset μ k 0 a) k 1 b) k 2 c)) := by
  refine Ct_of (by decide) hI (Nat.le_of_ble_eq_true rfl) (fun E hE hX hR => ?_)
  have hX : OkX V E RX4 cX4_measure 4 1 := hX
  show G V E μ 0 [some (vr V k), some (vi a), some (vi b), some (vi c)] []
  refine g_aload_n hX dX4_measure_0 rfl ?_
  refine g_iload_n hX dX4_measure_1 rfl ?_
  refine pf_X4_18 hX dX4_measure_2 (by first | assumption | exact okd_part (by omega) | exact okd_bed (by omega) | exact okd_pile (by omega) | exact okd_dpile (by omega)) ?_
  refine g_aload_n hX dX4_measure_5 rfl ?_
  refine g_iload_n hX dX4_measure_6 rfl ?_
  refine pf_X4_21 hX dX4_measure_7 (by first | assumption | exact okd_part (by omega) | exact okd_bed (by omega) | exact okd_pile (by omega) | exact okd_dpile (by omega)) ?_
  refine g_aload_n hX dX4_measure_10 rfl ?_
  refine g_iload_n hX dX4_measure_11 rfl ?_
  refine pf_X4_24 hX dX4_measure_12 (by first | assumption | exact okd_part (by omega) | exact okd_bed (by omega) | exact okd_pile (by omega) | exact okd_dpile (by omega)) ?_
  refine g_vret hX hR dX4_measure_15 ⟨rfl, rfl⟩
set_option maxHeartbeats 4000000 in
theorem c_isNow {l : Launch} {V : VX} (hI : InjV V) {μ : Mem} {k : Nat} {a b : Int} (hk : okd k = 4) : Ct l yX4_isNow cX4_isNow 3 none 1 V [vr V k, vi a, vi b] μ (pV (fun μ' => μ' = mset (mset μ k 4 a) k 5 b)) := by
  refine Ct_of (by decide) hI (Nat.le_of_ble_eq_true rfl) (fun E hE hX hR => ?_)
  have hX : OkX V E RX4 cX4_isNow 3 1 := hX
  show G V E μ 0 [some (vr V k), some (vi a), some (vi b)] []
  refine g_aload_n hX dX4_isNow_0 rfl ?_
  refine g_iload_n hX dX4_isNow_1 rfl ?_
  refine pf_X4_9 hX dX4_isNow_2 (by first | assumption | exact okd_part (by omega) | exact okd_bed (by omega) | exact okd_pile (by omega) | exact okd_dpile (by omega)) ?_
  refine g_aload_n hX dX4_isNow_5 rfl ?_
  refine g_iload_n hX dX4_isNow_6 rfl ?_
  refine pf_X4_15 hX dX4_isNow_7 (by first | assumption | exact okd_part (by omega) | exact okd_bed (by omega) | exact okd_pile (by omega) | exact okd_dpile (by omega)) ?_
  refine g_vret hX hR dX4_isNow_10 ⟨rfl, rfl⟩
set_option maxHeartbeats 4000000 in
theorem c_isStruck {l : Launch} {V : VX} (hI : InjV V) {μ : Mem} {k : Nat} (hk : okd k = 4) : Ct l yX4_isStruck cX4_isStruck 1 none 2 V [vr V k] μ (pV (fun μ' => μ' = mset (mset (mset μ k 4 5) k 5 (-4)) k 7 0)) := by
  refine Ct_of (by decide) hI (Nat.le_of_ble_eq_true rfl) (fun E hE hX hR => ?_)
  have hX : OkX V E RX4 cX4_isStruck 1 2 := hX
  show G V E μ 0 [some (vr V k)] []
  refine g_aload_n hX dX4_isStruck_0 rfl ?_
  refine g_iconst hX dX4_isStruck_1 ?_
  refine g_bipush hX dX4_isStruck_2 rfl ?_
  refine g_v2V hX lk_X4_27 dX4_isStruck_4 (c0 := 4) (by first | assumption | exact okd_part (by omega) | exact okd_bed (by omega) | exact okd_pile (by omega) | exact okd_dpile (by omega)) ⟨_, rfl, rfl⟩ (c_isNow hI hk) (by first | decide | omega) (by decide) rfl (Nat.le_of_ble_eq_true rfl) (fun μ' hp => ?_)
  subst hp
  refine g_aload_n hX dX4_isStruck_7 rfl ?_
  refine g_iconst hX dX4_isStruck_8 ?_
  refine pf_X4_31 hX dX4_isStruck_9 (by first | assumption | exact okd_part (by omega) | exact okd_bed (by omega) | exact okd_pile (by omega) | exact okd_dpile (by omega)) (by first | exact Or.inl rfl | exact Or.inr rfl | assumption) ?_
  refine g_vret hX hR dX4_isStruck_12 ⟨rfl, rfl⟩
set_option maxHeartbeats 4000000 in
theorem c_btake {l : Launch} {V : VX} (hI : InjV V) {μ : Mem} {k h : Nat} {a b : Int} (hk : okd k = 0) (hh : μ k 0 = (h : Int)) (h4 : h ≤ 40) : Ct l yX0_take cX0_take 3 none 1 V [vr V k, vi a, vi b] μ (pV (fun μ' => μ' = mset (mset (mset μ k 1 (μ k 1 + (if h = 0 then a else 4 + a))) k 0 ((h : Int) + 1)) k 3 b)) := by
  refine Ct_of (by decide) hI (Nat.le_of_ble_eq_true rfl) (fun E hE hX hR => ?_)
  have hX : OkX V E RX0 cX0_take 3 1 := hX
  show G V E μ 0 [some (vr V k), some (vi a), some (vi b)] []
  refine g_aload_n hX dX0_take_0 rfl ?_
  refine g_dup hX dX0_take_1 rfl ?_
  refine gf_X0_9 hX dX0_take_2 (by first | assumption | exact okd_part (by omega) | exact okd_bed (by omega) | exact okd_pile (by omega) | exact okd_dpile (by omega)) ?_
  refine g_aload_n hX dX0_take_5 rfl ?_
  refine gf_X0_15 hX dX0_take_6 (by first | assumption | exact okd_part (by omega) | exact okd_bed (by omega) | exact okd_pile (by omega) | exact okd_dpile (by omega)) ?_
  refine g_if_ne (tgt := 16) hX dX0_take_9 (by decide) ⟨by omega, by omega⟩ (fun hc => ?_) (fun hc => ?_)
  · refine g_iconst hX dX0_take_16 ?_
    refine g_iload_n hX dX0_take_17 rfl ?_
    refine g_iadd hX dX0_take_18 ?_
    refine g_iadd hX dX0_take_19 ?_
    refine pf_X0_9 hX dX0_take_20 (by first | assumption | exact okd_part (by omega) | exact okd_bed (by omega) | exact okd_pile (by omega) | exact okd_dpile (by omega)) ?_
    refine g_aload_n hX dX0_take_23 rfl ?_
    refine g_dup hX dX0_take_24 rfl ?_
    refine gf_X0_15 hX dX0_take_25 (by first | assumption | exact okd_part (by omega) | exact okd_bed (by omega) | exact okd_pile (by omega) | exact okd_dpile (by omega)) ?_
    simp (disch := omega) only [mset_ne, mset_same]
    refine g_iconst hX dX0_take_28 ?_
    refine g_iadd hX dX0_take_29 ?_
    refine pf_X0_15 hX dX0_take_30 (by first | assumption | exact okd_part (by omega) | exact okd_bed (by omega) | exact okd_pile (by omega) | exact okd_dpile (by omega)) ?_
    refine g_aload_n hX dX0_take_33 rfl ?_
    refine g_iload_n hX dX0_take_34 rfl ?_
    refine pf_X0_18 hX dX0_take_35 (by first | assumption | exact okd_part (by omega) | exact okd_bed (by omega) | exact okd_pile (by omega) | exact okd_dpile (by omega)) ?_
    refine g_vret hX hR dX0_take_38 ⟨rfl, by rw [hh, if_neg (by omega)]⟩
  · refine g_iload_n hX dX0_take_12 rfl ?_
    refine g_goto (tgt := 19) hX dX0_take_13 (by decide) ?_
    refine g_iadd hX dX0_take_19 ?_
    refine pf_X0_9 hX dX0_take_20 (by first | assumption | exact okd_part (by omega) | exact okd_bed (by omega) | exact okd_pile (by omega) | exact okd_dpile (by omega)) ?_
    refine g_aload_n hX dX0_take_23 rfl ?_
    refine g_dup hX dX0_take_24 rfl ?_
    refine gf_X0_15 hX dX0_take_25 (by first | assumption | exact okd_part (by omega) | exact okd_bed (by omega) | exact okd_pile (by omega) | exact okd_dpile (by omega)) ?_
    simp (disch := omega) only [mset_ne, mset_same]
    refine g_iconst hX dX0_take_28 ?_
    refine g_iadd hX dX0_take_29 ?_
    refine pf_X0_15 hX dX0_take_30 (by first | assumption | exact okd_part (by omega) | exact okd_bed (by omega) | exact okd_pile (by omega) | exact okd_dpile (by omega)) ?_
    refine g_aload_n hX dX0_take_33 rfl ?_
    refine g_iload_n hX dX0_take_34 rfl ?_
    refine pf_X0_18 hX dX0_take_35 (by first | assumption | exact okd_part (by omega) | exact okd_bed (by omega) | exact okd_pile (by omega) | exact okd_dpile (by omega)) ?_
    refine g_vret hX hR dX0_take_38 ⟨rfl, by rw [hh, if_pos (by omega)]⟩
set_option maxHeartbeats 4000000 in
theorem c_bclear {l : Launch} {V : VX} (hI : InjV V) {μ : Mem} {k : Nat} (hk : okd k = 0) : Ct l yX0_clear cX0_clear 1 none 1 V [vr V k] μ (pV (fun μ' => μ' = mset (mset (mset μ k 0 0) k 1 0) k 2 0)) := by
  refine Ct_of (by decide) hI (Nat.le_of_ble_eq_true rfl) (fun E hE hX hR => ?_)
  have hX : OkX V E RX0 cX0_clear 1 1 := hX
  show G V E μ 0 [some (vr V k)] []
  refine g_aload_n hX dX0_clear_0 rfl ?_
  refine g_iconst hX dX0_clear_1 ?_
  refine pf_X0_15 hX dX0_clear_2 (by first | assumption | exact okd_part (by omega) | exact okd_bed (by omega) | exact okd_pile (by omega) | exact okd_dpile (by omega)) ?_
  refine g_aload_n hX dX0_clear_5 rfl ?_
  refine g_iconst hX dX0_clear_6 ?_
  refine pf_X0_9 hX dX0_clear_7 (by first | assumption | exact okd_part (by omega) | exact okd_bed (by omega) | exact okd_pile (by omega) | exact okd_dpile (by omega)) ?_
  refine g_aload_n hX dX0_clear_10 rfl ?_
  refine g_iconst hX dX0_clear_11 ?_
  refine pf_X0_21 hX dX0_clear_12 (by first | assumption | exact okd_part (by omega) | exact okd_bed (by omega) | exact okd_pile (by omega) | exact okd_dpile (by omega)) ?_
  refine g_vret hX hR dX0_clear_15 ⟨rfl, rfl⟩
set_option maxHeartbeats 4000000 in
theorem c_hasPlace {l : Launch} {V : VX} (hI : InjV V) {μ : Mem} {h : Nat} (hh : μ 67 1 = (h : Int)) (h4 : h ≤ 4) : Ct l yX2_hasPlace cX2_hasPlace 1 (some .boolean) 1 V [vr V 67] μ (pI (fun z μ' => z = (if h < 4 then 1 else 0) ∧ μ' = μ)) := by
  refine Ct_of (by decide) hI (Nat.le_of_ble_eq_true rfl) (fun E hE hX hR => ?_)
  have hX : OkX V E RX2 cX2_hasPlace 1 1 := hX
  show G V E μ 0 [some (vr V 67)] []
  refine g_aload_n hX dX2_hasPlace_0 rfl ?_
  refine gf_X2_15 hX dX2_hasPlace_1 ?_
  refine g_aload_n hX dX2_hasPlace_4 rfl ?_
  refine gf_X2_9 hX dX2_hasPlace_5 ?_
  refine g_alen hX dX2_hasPlace_8 (N := 4) (Or.inl ⟨rfl, by decide⟩) ?_
  refine g_icmp_ge (tgt := 16) hX dX2_hasPlace_9 (by decide) ⟨by omega, by omega⟩ ⟨by omega, by omega⟩ (fun hc => ?_) (fun hc => ?_)
  · refine g_iconst hX dX2_hasPlace_16 ?_
    refine g_zret hX hR dX2_hasPlace_17 (Or.inl rfl) ⟨_, rfl, by rw [if_neg (by omega)], rfl⟩
  · refine g_iconst hX dX2_hasPlace_12 ?_
    refine g_goto (tgt := 17) hX dX2_hasPlace_13 (by decide) ?_
    refine g_zret hX hR dX2_hasPlace_17 (Or.inr rfl) ⟨_, rfl, by rw [if_pos (by omega)], rfl⟩
set_option maxHeartbeats 4000000 in
theorem c_frontShare {l : Launch} {V : VX} (hI : InjV V) {μ : Mem}  : Ct l yX2_frontShare cX2_frontShare 1 (some .int) 1 V [vr V 67] μ (pI (fun z μ' => z = 8 - 2 * μ 67 1 ∧ μ' = μ)) := by
  refine Ct_of (by decide) hI (Nat.le_of_ble_eq_true rfl) (fun E hE hX hR => ?_)
  have hX : OkX V E RX2 cX2_frontShare 1 1 := hX
  show G V E μ 0 [some (vr V 67)] []
  refine g_bipush hX dX2_frontShare_0 rfl ?_
  refine g_iconst hX dX2_frontShare_2 ?_
  refine g_aload_n hX dX2_frontShare_3 rfl ?_
  refine gf_X2_15 hX dX2_frontShare_4 ?_
  refine g_imul hX dX2_frontShare_7 ?_
  refine g_isub hX dX2_frontShare_8 ?_
  refine g_iret hX hR dX2_frontShare_9 ⟨_, rfl, rfl, rfl⟩
set_option maxHeartbeats 4000000 in
theorem c_rearShare {l : Launch} {V : VX} (hI : InjV V) {μ : Mem}  : Ct l yX2_rearShare cX2_rearShare 1 (some .int) 1 V [vr V 67] μ (pI (fun z μ' => z = 2 * μ 67 1 + 1 ∧ μ' = μ)) := by
  refine Ct_of (by decide) hI (Nat.le_of_ble_eq_true rfl) (fun E hE hX hR => ?_)
  have hX : OkX V E RX2 cX2_rearShare 1 1 := hX
  show G V E μ 0 [some (vr V 67)] []
  refine g_iconst hX dX2_rearShare_0 ?_
  refine g_aload_n hX dX2_rearShare_1 rfl ?_
  refine gf_X2_15 hX dX2_rearShare_2 ?_
  refine g_imul hX dX2_rearShare_5 ?_
  refine g_iconst hX dX2_rearShare_6 ?_
  refine g_iadd hX dX2_rearShare_7 ?_
  refine g_iret hX hR dX2_rearShare_8 ⟨_, rfl, rfl, rfl⟩
set_option maxHeartbeats 4000000 in
theorem c_bears {l : Launch} {V : VX} (hI : InjV V) {μ : Mem} {w : Int} (h1 : 0 ≤ μ 67 1 ∧ μ 67 1 ≤ 3) (h2 : 0 ≤ μ 67 2 ∧ μ 67 2 ≤ 1000) (h3 : 0 ≤ μ 67 3 ∧ μ 67 3 ≤ 10000) (h4 : 0 ≤ μ 67 4 ∧ μ 67 4 ≤ 10000) (hw : 0 ≤ w ∧ w ≤ 1000) : Ct l yX2_bears cX2_bears 2 (some .boolean) 2 V [vr V 67, vi w] μ (pI (fun z μ' => z = (if μ 67 2 + w ≤ 120 ∧ μ 67 3 + w * (8 - 2 * μ 67 1) ≤ 720 ∧ μ 67 4 + w * (2 * μ 67 1 + 1) ≤ 720 then 1 else 0) ∧ μ' = μ)) := by
  refine Ct_of (by decide) hI (Nat.le_of_ble_eq_true rfl) (fun E hE hX hR => ?_)
  have hX : OkX V E RX2 cX2_bears 2 2 := hX
  show G V E μ 0 [some (vr V 67), some (vi w)] []
  have hf : 0 ≤ w * (8 - 2 * μ 67 1) ∧ w * (8 - 2 * μ 67 1) ≤ 8000 := by
    have : μ 67 1 = 0 ∨ μ 67 1 = 1 ∨ μ 67 1 = 2 ∨ μ 67 1 = 3 := by omega
    rcases this with h | h | h | h <;> rw [h] <;> omega
  have hr : 0 ≤ w * (2 * μ 67 1 + 1) ∧ w * (2 * μ 67 1 + 1) ≤ 8000 := by
    have : μ 67 1 = 0 ∨ μ 67 1 = 1 ∨ μ 67 1 = 2 ∨ μ 67 1 = 3 := by omega
    rcases this with h | h | h | h <;> rw [h] <;> omega
  refine g_aload_n hX dX2_bears_0 rfl ?_
  refine gf_X2_19 hX dX2_bears_1 ?_
  refine g_iload_n hX dX2_bears_4 rfl ?_
  refine g_iadd hX dX2_bears_5 ?_
  refine g_bipush hX dX2_bears_6 rfl ?_
  refine g_icmp_gt (tgt := 49) hX dX2_bears_8 (by decide) ⟨by omega, by omega⟩ ⟨by omega, by omega⟩ (fun hc1 => ?_) (fun hc1 => ?_)
  · refine g_iconst hX dX2_bears_49 ?_
    refine g_zret hX hR dX2_bears_50 (Or.inl rfl) ⟨_, rfl, by rw [if_neg (by omega)], rfl⟩
  refine g_aload_n hX dX2_bears_11 rfl ?_
  refine gf_X2_22 hX dX2_bears_12 ?_
  refine g_iload_n hX dX2_bears_15 rfl ?_
  refine g_aload_n hX dX2_bears_16 rfl ?_
  refine g_v0I hX lk_X2_25 dX2_bears_17 (c0 := 2) ok67 ⟨_, rfl, rfl⟩ (c_frontShare hI) (by first | decide | omega) (by decide) rfl (Nat.le_of_ble_eq_true rfl) (fun z μ' hp => ?_)
  obtain ⟨rfl, rfl⟩ := hp
  refine g_imul hX dX2_bears_20 ?_
  refine g_iadd hX dX2_bears_21 ?_
  refine g_sipush hX dX2_bears_22 rfl ?_
  refine g_icmp_gt (tgt := 49) hX dX2_bears_25 (by decide) ⟨by omega, by omega⟩ ⟨by omega, by omega⟩ (fun hc2 => ?_) (fun hc2 => ?_)
  · refine g_iconst hX dX2_bears_49 ?_
    refine g_zret hX hR dX2_bears_50 (Or.inl rfl) ⟨_, rfl, by rw [if_neg (by omega)], rfl⟩
  refine g_aload_n hX dX2_bears_28 rfl ?_
  refine gf_X2_29 hX dX2_bears_29 ?_
  refine g_iload_n hX dX2_bears_32 rfl ?_
  refine g_aload_n hX dX2_bears_33 rfl ?_
  refine g_v0I hX lk_X2_32 dX2_bears_34 (c0 := 2) ok67 ⟨_, rfl, rfl⟩ (c_rearShare hI) (by first | decide | omega) (by decide) rfl (Nat.le_of_ble_eq_true rfl) (fun z μ' hp => ?_)
  obtain ⟨rfl, rfl⟩ := hp
  refine g_imul hX dX2_bears_37 ?_
  refine g_iadd hX dX2_bears_38 ?_
  refine g_sipush hX dX2_bears_39 rfl ?_
  refine g_icmp_gt (tgt := 49) hX dX2_bears_42 (by decide) ⟨by omega, by omega⟩ ⟨by omega, by omega⟩ (fun hc3 => ?_) (fun hc3 => ?_)
  · refine g_iconst hX dX2_bears_49 ?_
    refine g_zret hX hR dX2_bears_50 (Or.inl rfl) ⟨_, rfl, by rw [if_neg (by omega)], rfl⟩
  refine g_iconst hX dX2_bears_45 ?_
  refine g_goto (tgt := 50) hX dX2_bears_46 (by decide) ?_
  refine g_zret hX hR dX2_bears_50 (Or.inr rfl) ⟨_, rfl, by rw [if_pos (by omega)], rfl⟩
set_option maxHeartbeats 4000000 in
theorem c_ltake {l : Launch} {V : VX} (hI : InjV V) {μ : Mem} {h : Nat} {p w : Int} (hh : μ 67 1 = (h : Int)) (h4 : h < 4) : Ct l yX2_take cX2_take 4 (some .int) 2 V [vr V 67, vi p, vi w] μ (pI (fun z μ' => z = (h : Int) ∧ μ' = mset (mset (mset (mset (mset μ 67 3 (μ 67 3 + w * (8 - 2 * (h : Int)))) 67 4 (μ 67 4 + w * (2 * (h : Int) + 1))) 67 2 (μ 67 2 + w)) 68 h p) 67 1 ((h : Int) + 1))) := by
  refine Ct_of (by decide) hI (Nat.le_of_ble_eq_true rfl) (fun E hE hX hR => ?_)
  have hX : OkX V E RX2 cX2_take 4 2 := hX
  show G V E μ 0 [some (vr V 67), some (vi p), some (vi w), none] []
  refine g_aload_n hX dX2_take_0 rfl ?_
  refine gf_X2_15 hX dX2_take_1 ?_
  refine st_istore_n_4_3 hX dX2_take_4 (by first | exact ck_i _ | exact ck_r _ _ | exact ck_n | exact ck_0) ?_
  refine g_iload_n hX dX2_take_5 rfl ?_
  refine g_if_lt (tgt := 18) hX dX2_take_6 (by decide) ⟨by omega, by omega⟩ (fun hc => absurd hc (by omega)) (fun _ => ?_)
  refine g_iload_n hX dX2_take_9 rfl ?_
  refine g_aload_n hX dX2_take_10 rfl ?_
  refine gf_X2_9 hX dX2_take_11 ?_
  refine g_alen hX dX2_take_14 (N := 4) (Or.inl ⟨rfl, by decide⟩) ?_
  refine g_icmp_lt (tgt := 21) hX dX2_take_15 (by decide) ⟨by omega, by omega⟩ ⟨by omega, by omega⟩ (fun _ => ?_) (fun hc => absurd hc (by omega))
  refine g_aload_n hX dX2_take_21 rfl ?_
  refine g_dup hX dX2_take_22 rfl ?_
  refine gf_X2_22 hX dX2_take_23 ?_
  refine g_iload_n hX dX2_take_26 rfl ?_
  refine g_aload_n hX dX2_take_27 rfl ?_
  refine g_v0I hX lk_X2_25 dX2_take_28 (c0 := 2) ok67 ⟨_, rfl, rfl⟩ (c_frontShare hI) (by first | decide | omega) (by decide) rfl (Nat.le_of_ble_eq_true rfl) (fun z μ' hp => ?_)
  obtain ⟨rfl, rfl⟩ := hp
  refine g_imul hX dX2_take_31 ?_
  refine g_iadd hX dX2_take_32 ?_
  refine pf_X2_22 hX dX2_take_33 ?_
  refine g_aload_n hX dX2_take_36 rfl ?_
  refine g_dup hX dX2_take_37 rfl ?_
  refine gf_X2_29 hX dX2_take_38 ?_
  simp (disch := omega) only [mset_ne, mset_same]
  refine g_iload_n hX dX2_take_41 rfl ?_
  refine g_aload_n hX dX2_take_42 rfl ?_
  refine g_v0I hX lk_X2_32 dX2_take_43 (c0 := 2) ok67 ⟨_, rfl, rfl⟩ (c_rearShare hI) (by first | decide | omega) (by decide) rfl (Nat.le_of_ble_eq_true rfl) (fun z μ' hp => ?_)
  obtain ⟨rfl, rfl⟩ := hp
  refine g_imul hX dX2_take_46 ?_
  refine g_iadd hX dX2_take_47 ?_
  refine pf_X2_29 hX dX2_take_48 ?_
  refine g_aload_n hX dX2_take_51 rfl ?_
  refine g_dup hX dX2_take_52 rfl ?_
  refine gf_X2_19 hX dX2_take_53 ?_
  simp (disch := omega) only [mset_ne, mset_same]
  refine g_iload_n hX dX2_take_56 rfl ?_
  refine g_iadd hX dX2_take_57 ?_
  refine pf_X2_19 hX dX2_take_58 ?_
  refine g_aload_n hX dX2_take_61 rfl ?_
  refine gf_X2_9 hX dX2_take_62 ?_
  refine g_iload_n hX dX2_take_65 rfl ?_
  refine g_iload_n hX dX2_take_66 rfl ?_
  refine g_iastN (i := h) hX dX2_take_67 (N := 4) rfl (by omega) (by omega) (by decide) ?_
  refine g_aload_n hX dX2_take_68 rfl ?_
  refine g_dup hX dX2_take_69 rfl ?_
  refine gf_X2_15 hX dX2_take_70 ?_
  simp (disch := omega) only [mset_ne, mset_same]
  refine g_iconst hX dX2_take_73 ?_
  refine g_iadd hX dX2_take_74 ?_
  refine pf_X2_15 hX dX2_take_75 ?_
  refine g_iload_n hX dX2_take_78 rfl ?_
  refine g_iret hX hR dX2_take_79 ⟨_, rfl, hh, by rw [hh]⟩
set_option maxHeartbeats 4000000 in
theorem c_partOn {l : Launch} {V : VX} (hI : InjV V) {μ : Mem} {h i : Nat} (hh : μ 67 1 = (h : Int)) (h4 : h ≤ 4) (hi : i < h) : Ct l yX2_partOn cX2_partOn 2 (some .int) 1 V [vr V 67, vi i] μ (pI (fun z μ' => z = μ 68 i ∧ μ' = μ)) := by
  refine Ct_of (by decide) hI (Nat.le_of_ble_eq_true rfl) (fun E hE hX hR => ?_)
  have hX : OkX V E RX2 cX2_partOn 2 1 := hX
  show G V E μ 0 [some (vr V 67), some (vi i)] []
  refine g_iload_n hX dX2_partOn_0 rfl ?_
  refine g_if_lt (tgt := 21) hX dX2_partOn_1 (by decide) ⟨by omega, by omega⟩ (fun hc => absurd hc (by omega)) (fun _ => ?_)
  refine g_iload_n hX dX2_partOn_4 rfl ?_
  refine g_aload_n hX dX2_partOn_5 rfl ?_
  refine gf_X2_15 hX dX2_partOn_6 ?_
  refine g_icmp_ge (tgt := 21) hX dX2_partOn_9 (by decide) ⟨by omega, by omega⟩ ⟨by omega, by omega⟩ (fun hc => absurd hc (by omega)) (fun _ => ?_)
  refine g_iload_n hX dX2_partOn_12 rfl ?_
  refine g_aload_n hX dX2_partOn_13 rfl ?_
  refine gf_X2_9 hX dX2_partOn_14 ?_
  refine g_alen hX dX2_partOn_17 (N := 4) (Or.inl ⟨rfl, by decide⟩) ?_
  refine g_icmp_lt (tgt := 26) hX dX2_partOn_18 (by decide) ⟨by omega, by omega⟩ ⟨by omega, by omega⟩ (fun _ => ?_) (fun hc => absurd hc (by omega))
  refine g_aload_n hX dX2_partOn_26 rfl ?_
  refine gf_X2_9 hX dX2_partOn_27 ?_
  refine g_iload_n hX dX2_partOn_30 rfl ?_
  refine g_ialdN hX dX2_partOn_31 (N := 4) rfl rfl (by omega) (by decide) ?_
  refine g_iret hX hR dX2_partOn_32 ⟨_, rfl, rfl, rfl⟩
set_option maxHeartbeats 4000000 in
theorem c_lclear {l : Launch} {V : VX} (hI : InjV V) {μ : Mem}  : Ct l yX2_clear cX2_clear 1 none 1 V [vr V 67] μ (pV (fun μ' => μ' = mset (mset (mset (mset μ 67 1 0) 67 2 0) 67 3 0) 67 4 0)) := by
  refine Ct_of (by decide) hI (Nat.le_of_ble_eq_true rfl) (fun E hE hX hR => ?_)
  have hX : OkX V E RX2 cX2_clear 1 1 := hX
  show G V E μ 0 [some (vr V 67)] []
  refine g_aload_n hX dX2_clear_0 rfl ?_
  refine g_iconst hX dX2_clear_1 ?_
  refine pf_X2_15 hX dX2_clear_2 ?_
  refine g_aload_n hX dX2_clear_5 rfl ?_
  refine g_iconst hX dX2_clear_6 ?_
  refine pf_X2_19 hX dX2_clear_7 ?_
  refine g_aload_n hX dX2_clear_10 rfl ?_
  refine g_iconst hX dX2_clear_11 ?_
  refine pf_X2_22 hX dX2_clear_12 ?_
  refine g_aload_n hX dX2_clear_15 rfl ?_
  refine g_iconst hX dX2_clear_16 ?_
  refine pf_X2_29 hX dX2_clear_17 ?_
  refine g_vret hX hR dX2_clear_20 ⟨rfl, rfl⟩
end
section
/-! bits (this family began as the kit's text to paste) -/
def bt (x : Int32) (i : Nat) : Bool := x.toBitVec.getLsbD i
theorem b_ext {x y : Int32} (h : ∀ i, i < 32 → bt x i = bt y i) : x = y := Int32.toBitVec_inj.mp (BitVec.eq_of_getLsbD_eq (fun i hi => h i hi))
theorem b_or (x y : Int32) (i : Nat) : bt (x ||| y) i = (bt x i || bt y i) := by unfold bt; rw [Int32.toBitVec_or, BitVec.getLsbD_or]
theorem b_and (x y : Int32) (i : Nat) : bt (x &&& y) i = (bt x i && bt y i) := by unfold bt; rw [Int32.toBitVec_and, BitVec.getLsbD_and]
theorem s_l : ∀ n, n < 32 → ((nI n &&& 31).toBitVec.smod 32).toNat = n := by decide +kernel
theorem s_u : ∀ n, n < 32 → (((nI n).toUInt32 &&& Int32.toUInt32 31).toBitVec % 32).toNat = n := by decide +kernel
theorem b_ushr (n : Nat) (hn : n < 32) (x : Int32) (i : Nat) : bt ((x.toUInt32 >>> ((nI n).toUInt32 &&& Int32.toUInt32 31)).toInt32) i = bt x (n + i) := by
  show (x.toUInt32 >>> ((nI n).toUInt32 &&& Int32.toUInt32 31)).toBitVec.getLsbD i = x.toUInt32.toBitVec.getLsbD (n + i)
  rw [UInt32.toBitVec_shiftRight]
  show (x.toUInt32.toBitVec >>> (((nI n).toUInt32 &&& Int32.toUInt32 31).toBitVec % 32).toNat).getLsbD i = _
  rw [s_u n hn, BitVec.getLsbD_ushiftRight]
theorem b_sshr (n : Nat) (hn : n < 32) (x : Int32) {i : Nat} (hi : i < 32) : bt (x >>> (nI n &&& 31)) i = if n + i < 32 then bt x (n + i) else bt x 31 := by
  unfold bt
  rw [Int32.toBitVec_shiftRight]
  show (x.toBitVec.sshiftRight ((nI n &&& 31).toBitVec.smod 32).toNat).getLsbD i = _
  rw [s_l n hn, BitVec.getLsbD_sshiftRight, BitVec.msb_eq_getLsbD_last]
  simp [hi]
theorem b_1 : ∀ i, i < 32 → bt 1 i = decide (i = 0) := by decide +kernel
theorem b_0 (i : Nat) : bt 0 i = false := BitVec.getLsbD_zero
/-- bit i of the int z -/
def bitZ (z : Int) (i : Nat) : Bool := bt (Int32.ofInt z) i
theorem nI_of_nat (i : Nat) : Int32.ofInt (i : Int) = nI i := Int32.ofInt_eq_ofNat
theorem b_mask1 (x : Int32) : x &&& 1 = if bt x 0 then 1 else 0 := by
  apply b_ext
  intro i hi
  rw [b_and, b_1 i hi]
  by_cases h0 : i = 0
  · subst h0
    by_cases h : bt x 0 = true
    · rw [if_pos h, b_1 0 hi, h]; rfl
    · rw [if_neg h, b_0]; simp [h]
  · by_cases h : bt x 0 = true
    · rw [if_pos h, b_1 i hi]; simp [h0]
    · rw [if_neg h, b_0]; simp [h0]
def ushZ (a b : Int) : Int := ((Int32.ofInt a).toUInt32 >>> ((Int32.ofInt b).toUInt32 &&& Int32.toUInt32 31)).toInt32.toInt
theorem ushZ_ok (a b : Int) : ((Int32.ofInt a).toUInt32 >>> ((Int32.ofInt b).toUInt32 &&& Int32.toUInt32 31)).toInt32 = Int32.ofInt (ushZ a b) := (iT _).symm
theorem bit_u (z : Int) {i : Nat} (hi : i < 32) : (Int32.ofInt (ushZ z i) &&& Int32.ofInt 1).toInt = if bitZ z i then 1 else 0 := by
  rw [← ushZ_ok, nI_of_nat, show Int32.ofInt 1 = 1 from rfl, b_mask1, b_ushr i hi]
  show (if bitZ z i = true then (1 : Int32) else 0).toInt = _
  by_cases h : bitZ z i = true
  · rw [if_pos h, if_pos h]; rfl
  · rw [if_neg h, if_neg h]; rfl
theorem bit_s (z : Int) {i : Nat} (hi : i < 32) : (Int32.ofInt ((Int32.ofInt z >>> (Int32.ofInt (i : Int) &&& 31)).toInt) &&& Int32.ofInt 1).toInt = if bitZ z i then 1 else 0 := by
  rw [iT, nI_of_nat, show Int32.ofInt 1 = 1 from rfl, b_mask1, b_sshr i hi _ (i := 0) (by decide), if_pos (show i + 0 < 32 by omega)]
  show (if bitZ z i = true then (1 : Int32) else 0).toInt = _
  by_cases h : bitZ z i = true
  · rw [if_pos h, if_pos h]; rfl
  · rw [if_neg h, if_neg h]; rfl
/-! the state, as the cells of the reference hold it (its object is cell 0, its rows come behind in the order of its fields); the sums -/
def vw (μ : Mem) : Mem := fun k => μ (76 + k)
theorem vw_in {μ : Mem} {k j : Nat} {v : Int} (h : 76 ≤ k) : vw (mset μ k j v) = mset (vw μ) (k - 76) j v := by
  funext k' j'
  unfold vw mset
  by_cases hk : 76 + k' = k ∧ j' = j
  · rw [if_pos hk, if_pos ⟨by omega, hk.2⟩]
  · rw [if_neg hk, if_neg (fun q => hk ⟨by omega, q.2⟩)]
theorem vw_out {μ : Mem} {k j : Nat} {v : Int} (h : k < 76) : vw (mset μ k j v) = vw μ := by
  funext k' j'
  unfold vw mset
  rw [if_neg (fun q => by omega)]
/-- cells of the class stay, those of the reference may change -/
def KpX (μ μ' : Mem) : Prop := ∀ k, k < 76 → μ' k = μ k
theorem KpX.rf {μ : Mem} : KpX μ μ := fun _ _ => rfl
theorem KpX.tr {μ μ' μ'' : Mem} (h : KpX μ μ') (h' : KpX μ' μ'') : KpX μ μ'' := fun k hk => (h' k hk).trans (h k hk)
theorem KpX.st {μ : Mem} {k j : Nat} {v : Int} (h : 76 ≤ k) : KpX μ (mset μ k j v) := fun k' hk => by
  funext j'
  unfold mset
  rw [if_neg (fun q => by omega)]
def cntW (m : Mem) (w : Int) : Nat → Nat
  | 0 => 0
  | k + 1 => cntW m w k + if m 5 k = w then 1 else 0
def heavyK (m : Mem) : Nat → Int
  | 0 => 0
  | k + 1 => heavyK m k + m 3 (m 15 k).toNat
def frontK (m : Mem) : Nat → Int
  | 0 => 0
  | k + 1 => frontK m k + m 3 (m 15 k).toNat * (8 - 2 * (k : Int))
def rearK (m : Mem) : Nat → Int
  | 0 => 0
  | k + 1 => rearK m k + m 3 (m 15 k).toNat * (2 * (k : Int) + 1)
def bedK (m : Mem) (b : Nat) : Nat → Int
  | 0 => -4
  | k + 1 => bedK m b k + (m 1 (m 10 (40 * b + k)).toNat + 4)
def bedlen (m : Mem) (b : Nat) : Int := if m 9 b = 0 then 0 else bedK m b (m 9 b).toNat
/-- a part's field j, as the class holds it: the reference's, of a part not yet there what a new object holds -/
def pvF (m : Mem) (i j : Nat) : Int := if (i : Int) < m 0 0 then m (1 + j) i else if j = 5 then -4 else 0
/-- the class's cells in ν against the reference's in m -/
def RelXM (ν m : Mem) : Prop :=
  (ν 63 6 = m 0 0 ∧ ν 63 7 = m 0 20 ∧ ν 63 8 = m 0 19 ∧ ν 63 9 = m 0 14 ∧ ν 63 10 = m 0 13) ∧
  (∀ i j : Nat, i < 40 → j < 8 → ν i j = pvF m i j) ∧
  (∀ b : Nat, b < 3 → ν (40 + b) 0 = m 9 b ∧ ν (40 + b) 1 = bedlen m b ∧ ν (40 + b) 2 = m 11 b ∧ ν (40 + b) 3 = m 12 b) ∧
  (∀ s : Nat, s < 5 → ν (43 + s) 1 = m 13 s ∧ ∀ k : Nat, (k : Int) < m 13 s → ν (48 + s) k = m 14 (4 * s + k)) ∧
  (ν 67 1 = m 0 17 ∧ ν 67 2 = heavyK m (m 0 17).toNat ∧ ν 67 3 = frontK m (m 0 17).toNat ∧ ν 67 4 = rearK m (m 0 17).toNat ∧ ∀ k : Nat, (k : Int) < m 0 17 → ν 68 k = m 15 k)
/-- what always holds of the reference's cells; c: how many calls there were -/
def IMp (c : Nat) (m : Mem) : Prop := (0 ≤ m 0 0 ∧ m 0 0 ≤ 40) ∧
  (∀ i : Nat, (i : Int) < m 0 0 → (1 ≤ m 1 i ∧ m 1 i ≤ 200) ∧ (0 ≤ m 2 i ∧ m 2 i ≤ 7) ∧ (1 ≤ m 3 i ∧ m 3 i ≤ 100) ∧ (0 ≤ m 4 i ∧ m 4 i ≤ 1000) ∧ (0 ≤ m 5 i ∧ m 5 i ≤ 6) ∧ (-4 ≤ m 6 i ∧ m 6 i ≤ (c : Int) + 5) ∧ (m 8 i = 0 ∨ m 8 i = 1)) ∧
  (∀ i : Nat, m 0 0 ≤ (i : Int) → i < 40 → m 7 i = 0 ∧ m 8 i = 0)
def IMs (c : Nat) (m : Mem) : Prop := (0 ≤ m 0 14 ∧ m 0 14 ≤ 100000) ∧ (-20 ≤ m 0 13 ∧ m 0 13 ≤ 60) ∧ (0 ≤ m 0 19 ∧ m 0 19 ≤ (c : Int)) ∧ m 17 0 = 0
def IMb (m : Mem) : Prop := ∀ b : Nat, b < 3 → (0 ≤ m 9 b ∧ m 9 b ≤ 40) ∧ (0 ≤ m 11 b ∧ m 11 b ≤ 70 * m 0 14) ∧ (0 ≤ m 12 b ∧ m 12 b ≤ m 0 14) ∧ (m 9 b = 0 → m 11 b = 0) ∧
    (∀ k : Nat, (k : Int) < m 9 b → 0 ≤ m 10 (40 * b + k) ∧ m 10 (40 * b + k) < m 0 0 ∧ m 5 (m 10 (40 * b + k)).toNat = 1 ∧ m 6 (m 10 (40 * b + k)).toNat = (b : Int)) ∧
    (∀ k : Nat, (k : Int) + 1 < m 9 b → m 10 (40 * b + k) < m 10 (40 * b + (k + 1))) ∧
    (∀ p : Nat, (p : Int) < m 0 0 → m 5 p = 1 → m 6 p = (b : Int) → ∃ k : Nat, (k : Int) < m 9 b ∧ m 10 (40 * b + k) = (p : Int))
def IMy (m : Mem) : Prop := (∀ s : Nat, s < 5 → (0 ≤ m 13 s ∧ m 13 s ≤ 4) ∧
    (∀ k : Nat, (k : Int) < m 13 s → 0 ≤ m 14 (4 * s + k) ∧ m 14 (4 * s + k) < m 0 0 ∧ m 5 (m 14 (4 * s + k)).toNat = 3 ∧ m 6 (m 14 (4 * s + k)).toNat = (s : Int)) ∧
    (∀ k k' : Nat, (k : Int) < m 13 s → (k' : Int) < m 13 s → m 14 (4 * s + k) = m 14 (4 * s + k') → k = k')) ∧
  (∀ p : Nat, (p : Int) < m 0 0 → m 5 p = 3 → 0 ≤ m 6 p ∧ m 6 p < 5) ∧
  ((cntW m 3 (m 0 0).toNat : Int) = m 13 0 + m 13 1 + m 13 2 + m 13 3 + m 13 4)
def IMl (m : Mem) : Prop := (0 ≤ m 0 17 ∧ m 0 17 ≤ 4) ∧ (∀ k : Nat, (k : Int) < m 0 17 → 0 ≤ m 15 k ∧ m 15 k < m 0 0 ∧ m 5 (m 15 k).toNat = 6) ∧ heavyK m (m 0 17).toNat ≤ 120 ∧ frontK m (m 0 17).toNat ≤ 720 ∧ rearK m (m 0 17).toNat ≤ 720
def IM (c : Nat) (m : Mem) : Prop := IMp c m ∧ IMs c m ∧ IMb m ∧ IMy m ∧ IMl m
end
section
/-! the class's helpers that change nothing -/
set_option maxHeartbeats 4000000 in
theorem c_partOf {l : Launch} {V : VX} (hI : InjV V) {μ : Mem} {n : Nat} {i : Int} (hn : μ 63 6 = (n : Int)) (hn4 : n ≤ 40) (hi : in32 i) : Ct l yX6_partOf cX6_partOf 2 (some (.object "StoneBeds$Part")) 1 V [vr V 63, vi i] μ (pR V (fun r μ' => r = (if 0 ≤ i ∧ i < (n : Int) then some i.toNat else none) ∧ μ' = μ)) := by
  refine Ct_of (by decide) hI (Nat.le_of_ble_eq_true rfl) (fun E hE hX hR => ?_)
  have hX : OkX V E RX6 cX6_partOf 2 1 := hX
  show G V E μ 0 [some (vr V 63), some (vi i)] []
  obtain ⟨hi1, hi2⟩ := hi
  refine g_iload_n hX dX6_partOf_0 rfl ?_
  refine g_if_lt (tgt := 21) hX dX6_partOf_1 (by decide) ⟨by omega, by omega⟩ (fun h1 => ?_) (fun h1 => ?_)
  · refine g_null hX dX6_partOf_21 ?_
    refine g_goto (tgt := 31) hX dX6_partOf_22 (by decide) ?_
    refine g_aret hX hR dX6_partOf_31 (r := none) rfl ⟨_, rfl, by rw [if_neg (by omega)], rfl⟩
  · refine g_iload_n hX dX6_partOf_4 rfl ?_
    refine g_aload_n hX dX6_partOf_5 rfl ?_
    refine gf_X6_59 hX dX6_partOf_6 ?_
    refine g_icmp_ge (tgt := 21) hX dX6_partOf_9 (by decide) ⟨by omega, by omega⟩ ⟨by omega, by omega⟩ (fun h2 => ?_) (fun h2 => ?_)
    · refine g_null hX dX6_partOf_21 ?_
      refine g_goto (tgt := 31) hX dX6_partOf_22 (by decide) ?_
      refine g_aret hX hR dX6_partOf_31 (r := none) rfl ⟨_, rfl, by rw [if_neg (by omega)], rfl⟩
    · refine g_iload_n hX dX6_partOf_12 rfl ?_
      refine g_aload_n hX dX6_partOf_13 rfl ?_
      refine gf_X6_11 hX dX6_partOf_14 ?_
      refine g_alen hX dX6_partOf_17 (N := 40) (Or.inr (Or.inl ⟨rfl, rfl⟩)) ?_
      refine g_icmp_lt (tgt := 25) hX dX6_partOf_18 (by decide) ⟨by omega, by omega⟩ ⟨by omega, by omega⟩ (fun _ => ?_) (fun hc => absurd hc (by omega))
      refine g_aload_n hX dX6_partOf_25 rfl ?_
      refine gf_X6_11 hX dX6_partOf_26 ?_
      refine g_iload_n hX dX6_partOf_29 rfl ?_
      refine g_ald_parts (i := i.toNat) hX dX6_partOf_30 (by omega) (by omega) ?_
      refine g_aret hX hR dX6_partOf_31 (r := some i.toNat) rfl ⟨_, rfl, by rw [if_pos (by omega)], rfl⟩
set_option maxHeartbeats 4000000 in
theorem c_bedOf {l : Launch} {V : VX} (hI : InjV V) {μ : Mem} {i : Int} (hi : in32 i) : Ct l yX6_bedOf cX6_bedOf 2 (some (.object "StoneBeds$Bed")) 1 V [vr V 63, vi i] μ (pR V (fun r μ' => r = (if 0 ≤ i ∧ i < 3 then some (40 + i.toNat) else none) ∧ μ' = μ)) := by
  refine Ct_of (by decide) hI (Nat.le_of_ble_eq_true rfl) (fun E hE hX hR => ?_)
  have hX : OkX V E RX6 cX6_bedOf 2 1 := hX
  show G V E μ 0 [some (vr V 63), some (vi i)] []
  obtain ⟨hi1, hi2⟩ := hi
  refine g_iload_n hX dX6_bedOf_0 rfl ?_
  refine g_if_lt (tgt := 13) hX dX6_bedOf_1 (by decide) ⟨by omega, by omega⟩ (fun h1 => ?_) (fun h1 => ?_)
  · refine g_null hX dX6_bedOf_13 ?_
    refine g_goto (tgt := 23) hX dX6_bedOf_14 (by decide) ?_
    refine g_aret hX hR dX6_bedOf_23 (r := none) rfl ⟨_, rfl, by rw [if_neg (by omega)], rfl⟩
  · refine g_iload_n hX dX6_bedOf_4 rfl ?_
    refine g_aload_n hX dX6_bedOf_5 rfl ?_
    refine gf_X6_17 hX dX6_bedOf_6 ?_
    refine g_alen hX dX6_bedOf_9 (N := 3) (Or.inr (Or.inr (Or.inl ⟨rfl, rfl⟩))) ?_
    refine g_icmp_lt (tgt := 17) hX dX6_bedOf_10 (by decide) ⟨by omega, by omega⟩ ⟨by omega, by omega⟩ (fun h2 => ?_) (fun h2 => ?_)
    · refine g_aload_n hX dX6_bedOf_17 rfl ?_
      refine gf_X6_17 hX dX6_bedOf_18 ?_
      refine g_iload_n hX dX6_bedOf_21 rfl ?_
      refine g_ald_beds (i := i.toNat) hX dX6_bedOf_22 (by omega) (by omega) ?_
      refine g_aret hX hR dX6_bedOf_23 (r := some (40 + i.toNat)) rfl ⟨_, rfl, by rw [if_pos (by omega)], rfl⟩
    · refine g_null hX dX6_bedOf_13 ?_
      refine g_goto (tgt := 23) hX dX6_bedOf_14 (by decide) ?_
      refine g_aret hX hR dX6_bedOf_23 (r := none) rfl ⟨_, rfl, by rw [if_neg (by omega)], rfl⟩
set_option maxHeartbeats 4000000 in
theorem c_stackOf {l : Launch} {V : VX} (hI : InjV V) {μ : Mem} {i : Int} (hi : in32 i) : Ct l yX6_stackOf cX6_stackOf 2 (some (.object "StoneBeds$Pile")) 1 V [vr V 63, vi i] μ (pR V (fun r μ' => r = (if 0 ≤ i ∧ i < 5 then some (43 + i.toNat) else none) ∧ μ' = μ)) := by
  refine Ct_of (by decide) hI (Nat.le_of_ble_eq_true rfl) (fun E hE hX hR => ?_)
  have hX : OkX V E RX6 cX6_stackOf 2 1 := hX
  show G V E μ 0 [some (vr V 63), some (vi i)] []
  obtain ⟨hi1, hi2⟩ := hi
  refine g_iload_n hX dX6_stackOf_0 rfl ?_
  refine g_if_lt (tgt := 13) hX dX6_stackOf_1 (by decide) ⟨by omega, by omega⟩ (fun h1 => ?_) (fun h1 => ?_)
  · refine g_null hX dX6_stackOf_13 ?_
    refine g_goto (tgt := 23) hX dX6_stackOf_14 (by decide) ?_
    refine g_aret hX hR dX6_stackOf_23 (r := none) rfl ⟨_, rfl, by rw [if_neg (by omega)], rfl⟩
  · refine g_iload_n hX dX6_stackOf_4 rfl ?_
    refine g_aload_n hX dX6_stackOf_5 rfl ?_
    refine gf_X6_23 hX dX6_stackOf_6 ?_
    refine g_alen hX dX6_stackOf_9 (N := 5) (Or.inr (Or.inr (Or.inr (Or.inl ⟨rfl, rfl⟩)))) ?_
    refine g_icmp_lt (tgt := 17) hX dX6_stackOf_10 (by decide) ⟨by omega, by omega⟩ ⟨by omega, by omega⟩ (fun h2 => ?_) (fun h2 => ?_)
    · refine g_aload_n hX dX6_stackOf_17 rfl ?_
      refine gf_X6_23 hX dX6_stackOf_18 ?_
      refine g_iload_n hX dX6_stackOf_21 rfl ?_
      refine g_ald_stacks (i := i.toNat) hX dX6_stackOf_22 (by omega) (by omega) ?_
      refine g_aret hX hR dX6_stackOf_23 (r := some (43 + i.toNat)) rfl ⟨_, rfl, by rw [if_pos (by omega)], rfl⟩
    · refine g_null hX dX6_stackOf_13 ?_
      refine g_goto (tgt := 23) hX dX6_stackOf_14 (by decide) ?_
      refine g_aret hX hR dX6_stackOf_23 (r := none) rfl ⟨_, rfl, by rw [if_neg (by omega)], rfl⟩
abbrev areM (a b c : Int) : Prop := 1 ≤ a ∧ a ≤ 200 ∧ 0 ≤ b ∧ b ≤ 7 ∧ 1 ≤ c ∧ c ≤ 100
set_option maxHeartbeats 4000000 in
theorem c_areMeasures {l : Launch} {V : VX} (hI : InjV V) {μ : Mem} {a b c : Int} (ha : in32 a) (hb : in32 b) (hc : in32 c) : Ct l yX6_areMeasures cX6_areMeasures 3 (some .boolean) 1 V [vi a, vi b, vi c] μ (pI (fun z μ' => ((z = 1 ∧ areM a b c) ∨ (z = 0 ∧ ¬ areM a b c)) ∧ μ' = μ)) := by
  refine Ct_of (by decide) hI (Nat.le_of_ble_eq_true rfl) (fun E hE hX hR => ?_)
  have hX : OkX V E RX6 cX6_areMeasures 3 1 := hX
  show G V E μ 0 [some (vi a), some (vi b), some (vi c)] []
  obtain ⟨ha1, ha2⟩ := ha
  obtain ⟨hb1, hb2⟩ := hb
  obtain ⟨hc1, hc2⟩ := hc
  have no : ¬ areM a b c → G V E μ 37 [some (vi a), some (vi b), some (vi c)] [] := by
    intro hno
    refine g_iconst hX dX6_areMeasures_37 ?_
    refine g_zret hX hR dX6_areMeasures_38 (Or.inl rfl) ⟨_, rfl, Or.inr ⟨rfl, hno⟩, rfl⟩
  refine g_iload_n hX dX6_areMeasures_0 rfl ?_
  refine g_iconst hX dX6_areMeasures_1 ?_
  refine g_icmp_lt (tgt := 37) hX dX6_areMeasures_2 (by decide) ⟨by omega, by omega⟩ ⟨by omega, by omega⟩ (fun h1 => ?_) (fun h1 => ?_)
  · exact no (by omega)
  refine g_iload_n hX dX6_areMeasures_5 rfl ?_
  refine g_sipush hX dX6_areMeasures_6 rfl ?_
  refine g_icmp_gt (tgt := 37) hX dX6_areMeasures_9 (by decide) ⟨by omega, by omega⟩ ⟨by omega, by omega⟩ (fun h2 => ?_) (fun h2 => ?_)
  · exact no (by omega)
  refine g_iload_n hX dX6_areMeasures_12 rfl ?_
  refine g_if_lt (tgt := 37) hX dX6_areMeasures_13 (by decide) ⟨by omega, by omega⟩ (fun h3 => ?_) (fun h3 => ?_)
  · exact no (by omega)
  refine g_iload_n hX dX6_areMeasures_16 rfl ?_
  refine g_bipush hX dX6_areMeasures_17 rfl ?_
  refine g_icmp_ge (tgt := 37) hX dX6_areMeasures_19 (by decide) ⟨by omega, by omega⟩ ⟨by omega, by omega⟩ (fun h4 => ?_) (fun h4 => ?_)
  · exact no (by omega)
  refine g_iload_n hX dX6_areMeasures_22 rfl ?_
  refine g_iconst hX dX6_areMeasures_23 ?_
  refine g_icmp_lt (tgt := 37) hX dX6_areMeasures_24 (by decide) ⟨by omega, by omega⟩ ⟨by omega, by omega⟩ (fun h5 => ?_) (fun h5 => ?_)
  · exact no (by omega)
  refine g_iload_n hX dX6_areMeasures_27 rfl ?_
  refine g_bipush hX dX6_areMeasures_28 rfl ?_
  refine g_icmp_gt (tgt := 37) hX dX6_areMeasures_30 (by decide) ⟨by omega, by omega⟩ ⟨by omega, by omega⟩ (fun h6 => ?_) (fun h6 => ?_)
  · exact no (by omega)
  refine g_iconst hX dX6_areMeasures_33 ?_
  refine g_goto (tgt := 38) hX dX6_areMeasures_34 (by decide) ?_
  refine g_zret hX hR dX6_areMeasures_38 (Or.inr rfl) ⟨_, rfl, Or.inl ⟨rfl, by omega⟩, rfl⟩
set_option maxHeartbeats 4000000 in
theorem c_hasBit {l : Launch} {V : VX} (hI : InjV V) {μ : Mem} {b : Int} {i : Nat} (hi : i < 32) : Ct l yX6_hasBit cX6_hasBit 2 (some .boolean) 1 V [vi b, vi (i : Int)] μ (pI (fun z μ' => z = (if bitZ b i then 1 else 0) ∧ μ' = μ)) := by
  refine Ct_of (by decide) hI (Nat.le_of_ble_eq_true rfl) (fun E hE hX hR => ?_)
  have hX : OkX V E RX6 cX6_hasBit 2 1 := hX
  show G V E μ 0 [some (vi b), some (vi (i : Int))] []
  refine g_iload_n hX dX6_hasBit_0 rfl ?_
  refine g_iload_n hX dX6_hasBit_1 rfl ?_
  refine g_iushr hX dX6_hasBit_2 (ushZ_ok _ _) ?_
  refine g_iconst hX dX6_hasBit_3 ?_
  refine g_iand hX dX6_hasBit_4 ?_
  rw [bit_u b hi]
  by_cases hb : bitZ b i = true
  · rw [if_pos hb]
    refine g_if_eq (tgt := 12) hX dX6_hasBit_5 (by decide) ⟨by omega, by omega⟩ (fun hc => absurd hc (by omega)) (fun _ => ?_)
    refine g_iconst hX dX6_hasBit_8 ?_
    refine g_goto (tgt := 13) hX dX6_hasBit_9 (by decide) ?_
    refine g_zret hX hR dX6_hasBit_13 (Or.inr rfl) ⟨_, rfl, by rw [if_pos hb], rfl⟩
  · rw [if_neg hb]
    refine g_if_eq (tgt := 12) hX dX6_hasBit_5 (by decide) ⟨by omega, by omega⟩ (fun _ => ?_) (fun hc => absurd hc (by omega))
    refine g_iconst hX dX6_hasBit_12 ?_
    refine g_zret hX hR dX6_hasBit_13 (Or.inl rfl) ⟨_, rfl, by rw [if_neg hb], rfl⟩
set_option maxHeartbeats 4000000 in
theorem c_isDrawn {l : Launch} {V : VX} (hI : InjV V) {μ : Mem} {k : Nat} (hk : okd k = 4) (hw : in32 (μ k 4)) : Ct l yX6_isDrawn cX6_isDrawn 1 (some .boolean) 1 V [vr V k] μ (pI (fun z μ' => z = (if μ k 4 = 0 then 1 else 0) ∧ μ' = μ)) := by
  refine Ct_of (by decide) hI (Nat.le_of_ble_eq_true rfl) (fun E hE hX hR => ?_)
  have hX : OkX V E RX6 cX6_isDrawn 1 1 := hX
  show G V E μ 0 [some (vr V k)] []
  obtain ⟨hw1, hw2⟩ := hw
  refine g_aload_n hX dX6_isDrawn_0 rfl ?_
  refine g_ifnull hX dX6_isDrawn_1 ?_
  refine g_aload_n hX dX6_isDrawn_4 rfl ?_
  refine gf_X6_133 hX dX6_isDrawn_5 (by first | assumption | exact okd_part (by omega) | exact okd_bed (by omega) | exact okd_pile (by omega) | exact okd_dpile (by omega)) ?_
  refine g_if_ne (tgt := 15) hX dX6_isDrawn_8 (by decide) ⟨by omega, by omega⟩ (fun h1 => ?_) (fun h1 => ?_)
  · refine g_iconst hX dX6_isDrawn_15 ?_
    refine g_zret hX hR dX6_isDrawn_16 (Or.inl rfl) ⟨_, rfl, by rw [if_neg h1], rfl⟩
  · refine g_iconst hX dX6_isDrawn_11 ?_
    refine g_goto (tgt := 16) hX dX6_isDrawn_12 (by decide) ?_
    refine g_zret hX hR dX6_isDrawn_16 (Or.inr rfl) ⟨_, rfl, by rw [if_pos h1], rfl⟩
set_option maxHeartbeats 4000000 in
theorem c_camberOf {l : Launch} {V : VX} (hI : InjV V) {μ : Mem} {k : Nat} {r : Int} (hk : okd k = 4) (h0 : 0 ≤ μ k 0 ∧ μ k 0 ≤ 200) (h1 : 0 ≤ μ k 1 ∧ μ k 1 ≤ 7) (hr : 0 ≤ r ∧ r ≤ 10000000) : Ct l yX6_camberOf cX6_camberOf 3 (some .int) 1 V [vr V k, vi r] μ (pI (fun z μ' => z = μ k 0 * μ k 0 * (μ k 1 + 1) / (r + 1000) ∧ μ' = μ)) := by
  refine Ct_of (by decide) hI (Nat.le_of_ble_eq_true rfl) (fun E hE hX hR => ?_)
  have hX : OkX V E RX6 cX6_camberOf 3 1 := hX
  show G V E μ 0 [some (vr V k), some (vi r), none] []
  refine g_iload_n hX dX6_camberOf_0 rfl ?_
  refine g_sipush hX dX6_camberOf_1 rfl ?_
  refine g_iadd hX dX6_camberOf_4 ?_
  refine st_istore_n_3_2 hX dX6_camberOf_5 (by first | exact ck_i _ | exact ck_r _ _ | exact ck_n | exact ck_0) ?_
  refine g_iload_n hX dX6_camberOf_6 rfl ?_
  refine g_if_gt (tgt := 14) hX dX6_camberOf_7 (by decide) ⟨by omega, by omega⟩ (fun _ => ?_) (fun hc => absurd hc (by omega))
  have e1 : 0 ≤ μ k 0 * μ k 0 := Int.mul_nonneg h0.1 h0.1
  have e2 : μ k 0 * μ k 0 ≤ 200 * 200 := Int.mul_le_mul h0.2 h0.2 h0.1 (by decide)
  have e3 : 0 ≤ μ k 0 * μ k 0 * (μ k 1 + 1) := Int.mul_nonneg e1 (by omega)
  have e4 : μ k 0 * μ k 0 * (μ k 1 + 1) ≤ (200 * 200) * 8 := Int.mul_le_mul e2 (by omega) (by omega) (by decide)
  refine g_aload_n hX dX6_camberOf_14 rfl ?_
  refine gf_X6_108 hX dX6_camberOf_15 (by first | assumption | exact okd_part (by omega) | exact okd_bed (by omega) | exact okd_pile (by omega) | exact okd_dpile (by omega)) ?_
  refine g_aload_n hX dX6_camberOf_18 rfl ?_
  refine gf_X6_108 hX dX6_camberOf_19 (by first | assumption | exact okd_part (by omega) | exact okd_bed (by omega) | exact okd_pile (by omega) | exact okd_dpile (by omega)) ?_
  refine g_imul hX dX6_camberOf_22 ?_
  refine g_aload_n hX dX6_camberOf_23 rfl ?_
  refine gf_X6_230 hX dX6_camberOf_24 (by first | assumption | exact okd_part (by omega) | exact okd_bed (by omega) | exact okd_pile (by omega) | exact okd_dpile (by omega)) ?_
  refine g_iconst hX dX6_camberOf_27 ?_
  refine g_iadd hX dX6_camberOf_28 ?_
  refine g_imul hX dX6_camberOf_29 ?_
  refine g_iload_n hX dX6_camberOf_30 rfl ?_
  refine g_idiv hX dX6_camberOf_31 ⟨by omega, by omega⟩ ⟨by omega, by omega⟩ e3 (by omega) ?_
  refine g_iret hX hR dX6_camberOf_32 ⟨_, rfl, rfl, rfl⟩
def cntX (ν : Mem) (w : Int) : Nat → Nat
  | 0 => 0
  | k + 1 => cntX ν w k + if ν k 4 = w then 1 else 0
theorem cntX_le (ν : Mem) (w : Int) (k : Nat) : cntX ν w k ≤ k := by
  induction k with
  | zero => exact Nat.le_refl 0
  | succ k ih => unfold cntX; split <;> omega
set_option maxHeartbeats 4000000 in
theorem c_countWhere {l : Launch} {V : VX} (hI : InjV V) {μ : Mem} {n : Nat} {w : Int} (hn : μ 63 6 = (n : Int)) (hn4 : n ≤ 40) (hw : in32 w) (hp : ∀ i, i < n → in32 (μ i 4)) : Ct l yX6_countWhere cX6_countWhere 5 (some .int) 2 V [vr V 63, vi w] μ (pI (fun z μ' => z = (cntX μ w n : Int) ∧ μ' = μ)) := by
  refine Ct_of (by decide) hI (Nat.le_of_ble_eq_true rfl) (fun E hE hX hR => ?_)
  have hX : OkX V E RX6 cX6_countWhere 5 2 := hX
  show G V E μ 0 [some (vr V 63), some (vi w), none, none, none] []
  have loop : ∀ (d i : Nat), i + d = n → G V E μ 4 [some (vr V 63), some (vi w), some (vi (cntX μ w i : Int)), some (vi (i : Int)), none] [] := by
    intro d
    induction d with
    | zero =>
      intro i hi
      refine g_iload_n hX dX6_countWhere_4 rfl ?_
      refine g_aload_n hX dX6_countWhere_5 rfl ?_
      refine gf_X6_59 hX dX6_countWhere_6 ?_
      refine g_icmp_ge (tgt := 42) hX dX6_countWhere_9 (by decide) ⟨by omega, by omega⟩ ⟨by omega, by omega⟩ (fun _ => ?_) (fun hc => absurd hc (by omega))
      refine g_iload_n hX dX6_countWhere_42 rfl ?_
      refine g_iret hX hR dX6_countWhere_43 ⟨_, rfl, by rw [show n = i by omega], rfl⟩
    | succ d ih =>
      intro i hi
      have hc := cntX_le μ w i
      have hpi := hp i (by omega)
      refine g_iload_n hX dX6_countWhere_4 rfl ?_
      refine g_aload_n hX dX6_countWhere_5 rfl ?_
      refine gf_X6_59 hX dX6_countWhere_6 ?_
      refine g_icmp_ge (tgt := 42) hX dX6_countWhere_9 (by decide) ⟨by omega, by omega⟩ ⟨by omega, by omega⟩ (fun hc => absurd hc (by omega)) (fun _ => ?_)
      refine g_aload_n hX dX6_countWhere_12 rfl ?_
      refine g_iload_n hX dX6_countWhere_13 rfl ?_
      refine g_v1R hX lk_X6_66 dX6_countWhere_14 (c0 := 6) ok63 ⟨_, rfl, rfl⟩ (c_partOf hI hn hn4 ⟨by omega, by omega⟩) (by first | decide | omega) (by decide) rfl (Nat.le_of_ble_eq_true rfl) (fun r μ' hp => ?_)
      obtain ⟨rfl, hm⟩ := hp
      rw [hm]
      clear hm μ'
      rw [if_pos (by omega), show ((i : Int)).toNat = i from rfl]
      show G V E μ 17 _ (vr V i :: [])
      refine st_astore_5_4 hX dX6_countWhere_17 (by first | exact ck_i _ | exact ck_r _ _ | exact ck_n | exact ck_0) ?_
      refine g_aload hX dX6_countWhere_19 rfl ?_
      refine g_ifnull hX dX6_countWhere_21 ?_
      refine g_aload hX dX6_countWhere_24 rfl ?_
      refine gf_X6_133 hX dX6_countWhere_26 (by first | assumption | exact okd_part (by omega) | exact okd_bed (by omega) | exact okd_pile (by omega) | exact okd_dpile (by omega)) ?_
      refine g_iload_n hX dX6_countWhere_29 rfl ?_
      refine g_icmp_ne (tgt := 36) hX dX6_countWhere_30 (by decide) hpi hw (fun hc => ?_) (fun hc => ?_)
      · refine st_iinc_5_3 hX dX6_countWhere_36 (by first | exact ck_i _ | exact ck_r _ _ | exact ck_n | exact ck_0) ?_
        refine g_goto (tgt := 4) hX dX6_countWhere_39 (by decide) ?_
        refine fg_5_4 ?_
        have := ih (i + 1) (by omega)
        unfold cntX at this
        rw [if_neg hc, Nat.add_zero] at this
        exact this
      · refine st_iinc_5_2 hX dX6_countWhere_33 (by first | exact ck_i _ | exact ck_r _ _ | exact ck_n | exact ck_0) ?_
        refine st_iinc_5_3 hX dX6_countWhere_36 (by first | exact ck_i _ | exact ck_r _ _ | exact ck_n | exact ck_0) ?_
        refine g_goto (tgt := 4) hX dX6_countWhere_39 (by decide) ?_
        refine fg_5_4 ?_
        have := ih (i + 1) (by omega)
        unfold cntX at this
        rw [if_pos hc] at this
        exact this
  refine g_iconst hX dX6_countWhere_0 ?_
  refine st_istore_n_5_2 hX dX6_countWhere_1 (by first | exact ck_i _ | exact ck_r _ _ | exact ck_n | exact ck_0) ?_
  refine g_iconst hX dX6_countWhere_2 ?_
  refine st_istore_n_5_3 hX dX6_countWhere_3 (by first | exact ck_i _ | exact ck_r _ _ | exact ck_n | exact ck_0) ?_
  exact loop n 0 (by omega)
end
section
/-! how the relation goes on under one write on each side -/
theorem heavyK_cg {m m' : Mem} {K : Nat} (h : ∀ k, k < K → m' 15 k = m 15 k ∧ m' 3 (m 15 k).toNat = m 3 (m 15 k).toNat) : heavyK m' K = heavyK m K := by
  induction K with
  | zero => rfl
  | succ K ih =>
    unfold heavyK
    rw [ih (fun k hk => h k (by omega)), (h K (by omega)).1, (h K (by omega)).2]
theorem frontK_cg {m m' : Mem} {K : Nat} (h : ∀ k, k < K → m' 15 k = m 15 k ∧ m' 3 (m 15 k).toNat = m 3 (m 15 k).toNat) : frontK m' K = frontK m K := by
  induction K with
  | zero => rfl
  | succ K ih =>
    unfold frontK
    rw [ih (fun k hk => h k (by omega)), (h K (by omega)).1, (h K (by omega)).2]
theorem rearK_cg {m m' : Mem} {K : Nat} (h : ∀ k, k < K → m' 15 k = m 15 k ∧ m' 3 (m 15 k).toNat = m 3 (m 15 k).toNat) : rearK m' K = rearK m K := by
  induction K with
  | zero => rfl
  | succ K ih =>
    unfold rearK
    rw [ih (fun k hk => h k (by omega)), (h K (by omega)).1, (h K (by omega)).2]
theorem bedK_cg {m m' : Mem} {b K : Nat} (h : ∀ k, k < K → m' 10 (40 * b + k) = m 10 (40 * b + k) ∧ m' 1 (m 10 (40 * b + k)).toNat = m 1 (m 10 (40 * b + k)).toNat) : bedK m' b K = bedK m b K := by
  induction K with
  | zero => rfl
  | succ K ih =>
    unfold bedK
    rw [ih (fun k hk => h k (by omega)), (h K (by omega)).1, (h K (by omega)).2]
theorem bedlen_cg {m m' : Mem} {b : Nat} (h9 : m' 9 b = m 9 b) (h : ∀ k : Nat, (k : Int) < m 9 b → m' 10 (40 * b + k) = m 10 (40 * b + k) ∧ m' 1 (m 10 (40 * b + k)).toNat = m 1 (m 10 (40 * b + k)).toNat) : bedlen m' b = bedlen m b := by
  unfold bedlen
  rw [h9]
  split
  · rfl
  · exact bedK_cg (fun k hk => h k (by omega))
theorem R_pf {ν m : Mem} {p j : Nat} {v : Int} (h : RelXM ν m) (hp : (p : Int) < m 0 0) (hp40 : p < 40) (hj : j < 8)
    (hb : j = 0 → ∀ b k : Nat, b < 3 → (k : Int) < m 9 b → (m 10 (40 * b + k)).toNat ≠ p) (hl : j = 2 → ∀ k : Nat, (k : Int) < m 0 17 → (m 15 k).toNat ≠ p) : RelXM (mset ν p j v) (mset m (1 + j) p v) := by
  obtain ⟨hA, hB, hC, hD, hE⟩ := h
  have e3 : ∀ k : Nat, (k : Int) < m 0 17 → mset m (1 + j) p v 15 k = m 15 k ∧ mset m (1 + j) p v 3 (m 15 k).toNat = m 3 (m 15 k).toNat := fun k hk => by
    refine ⟨mset_ne (Or.inl (by omega)), ?_⟩
    by_cases h2 : j = 2
    · exact mset_ne (Or.inr (hl h2 k hk))
    · exact mset_ne (Or.inl (by omega))
  refine ⟨?_, fun i j' hi hj' => ?_, fun b hb3 => ?_, fun s hs => ?_, ?_⟩
  · simp (disch := omega) only [mset_ne]; exact hA
  · unfold pvF
    rw [mset_ne (k' := 0) (Or.inl (by omega))]
    by_cases e : i = p ∧ j' = j
    · obtain ⟨rfl, rfl⟩ := e
      rw [mset_same, mset_same, if_pos hp]
    · rw [mset_ne (by omega), mset_ne (k' := 1 + j') (by omega)]
      exact hB i j' hi hj'
  · have hc : bedlen (mset m (1 + j) p v) b = bedlen m b := bedlen_cg (mset_ne (Or.inl (by omega))) (fun k hk => by
      refine ⟨mset_ne (Or.inl (by omega)), ?_⟩
      by_cases h0 : j = 0
      · exact mset_ne (Or.inr (hb h0 b k hb3 hk))
      · exact mset_ne (Or.inl (by omega)))
    rw [hc]
    simp (disch := omega) only [mset_ne]
    exact hC b hb3
  · simp (disch := omega) only [mset_ne]; exact hD s hs
  · obtain ⟨h1, h2, h3, h4, h5⟩ := hE
    rw [show (mset m (1 + j) p v 0 17) = m 0 17 from mset_ne (Or.inl (by omega)), heavyK_cg (fun k hk => e3 k (by omega)), frontK_cg (fun k hk => e3 k (by omega)), rearK_cg (fun k hk => e3 k (by omega))]
    simp (disch := omega) only [mset_ne]
    exact ⟨h1, h2, h3, h4, h5⟩
/-- a new part, on both sides -/
def newX (ν : Mem) (n : Nat) (l p w nd : Int) : Mem := mset (mset (mset (mset (mset ν 63 6 ((n : Int) + 1)) n 0 l) n 1 p) n 2 w) n 3 nd
def newM (m : Mem) (n : Nat) (l p w nd : Int) : Mem := mset (mset (mset (mset (mset (mset (mset m 1 n l) 2 n p) 3 n w) 4 n nd) 5 n 0) 6 n (-4)) 0 0 ((n : Int) + 1)
theorem R_new {ν m : Mem} {c n : Nat} {l p w nd : Int} (h : RelXM ν m) (hI : IM c m) (hn : m 0 0 = (n : Int)) (hn40 : n < 40) : RelXM (newX ν n l p w nd) (newM m n l p w nd) := by
  obtain ⟨hA, hB, hC, hD, hE⟩ := h
  obtain ⟨⟨-, -, hf⟩, -, hbd, -, hlo⟩ := hI
  have e3 : ∀ k : Nat, (k : Int) < m 0 17 → newM m n l p w nd 15 k = m 15 k ∧ newM m n l p w nd 3 (m 15 k).toNat = m 3 (m 15 k).toNat := fun k hk => by
    have := hlo.2.1 k hk
    have hne : (m 15 k).toNat ≠ n := by omega
    unfold newM
    simp (disch := omega) only [mset_ne, and_self]
  refine ⟨?_, fun i j' hi hj' => ?_, fun b hb3 => ?_, fun s hs => ?_, ?_⟩
  · unfold newX newM
    simp (disch := omega) only [mset_ne, mset_same]
    exact ⟨trivial, hA.2⟩
  · have hBi := hB i j' hi hj'
    unfold pvF at hBi ⊢
    have e0 : newM m n l p w nd 0 0 = (n : Int) + 1 := by unfold newM; rw [mset_same]
    rw [e0]
    rw [hn] at hBi
    by_cases hin : i = n
    · subst hin
      rw [if_pos (by omega)]
      rw [if_neg (by omega)] at hBi
      have hf := hf i (by omega) hi
      have hj : j' = 0 ∨ j' = 1 ∨ j' = 2 ∨ j' = 3 ∨ j' = 4 ∨ j' = 5 ∨ j' = 6 ∨ j' = 7 := by omega
      unfold newX newM
      rcases hj with rfl | rfl | rfl | rfl | rfl | rfl | rfl | rfl <;> simp (disch := omega) only [mset_ne, mset_same, Nat.reduceAdd] <;> (try rw [hBi]) <;> first | rfl | exact hf.1.symm | exact hf.2.symm
    · have e1 : newX ν n l p w nd i j' = ν i j' := by unfold newX; simp (disch := omega) only [mset_ne]
      rw [e1, hBi]
      by_cases hlt : (i : Int) < n
      · rw [if_pos hlt, if_pos (show (i : Int) < (n : Int) + 1 by omega)]
        unfold newM
        simp (disch := omega) only [mset_ne]
      · rw [if_neg hlt, if_neg (show ¬ (i : Int) < (n : Int) + 1 by omega)]
  · have hc : bedlen (newM m n l p w nd) b = bedlen m b := bedlen_cg (by unfold newM; simp (disch := omega) only [mset_ne]) (fun k hk => by
      have := (hbd b hb3).2.2.2.2.1 k hk
      have hne : (m 10 (40 * b + k)).toNat ≠ n := by omega
      unfold newM
      simp (disch := omega) only [mset_ne, and_self])
    rw [hc]
    unfold newX newM
    simp (disch := omega) only [mset_ne]
    exact hC b hb3
  · unfold newX newM
    simp (disch := omega) only [mset_ne]; exact hD s hs
  · obtain ⟨h1, h2, h3, h4, h5⟩ := hE
    have e0 : newM m n l p w nd 0 17 = m 0 17 := by unfold newM; simp (disch := omega) only [mset_ne]
    rw [e0, heavyK_cg (fun k hk => e3 k (by omega)), frontK_cg (fun k hk => e3 k (by omega)), rearK_cg (fun k hk => e3 k (by omega))]
    unfold newX newM
    simp (disch := omega) only [mset_ne]
    exact ⟨h1, h2, h3, h4, h5⟩
/-- scalars -/
theorem R_sc {ν m : Mem} {jx jm : Nat} {v : Int} (h : RelXM ν m) (hj : (jx = 7 ∧ jm = 20) ∨ (jx = 8 ∧ jm = 19) ∨ (jx = 9 ∧ jm = 14) ∨ (jx = 10 ∧ jm = 13)) : RelXM (mset ν 63 jx v) (mset m 0 jm v) := by
  obtain ⟨hA, hB, hC, hD, hE⟩ := h
  have e3 : ∀ k : Nat, (k : Int) < m 0 17 → mset m 0 jm v 15 k = m 15 k ∧ mset m 0 jm v 3 (m 15 k).toNat = m 3 (m 15 k).toNat := fun k hk => ⟨mset_ne (Or.inl (by omega)), mset_ne (Or.inl (by omega))⟩
  refine ⟨?_, fun i j' hi hj' => ?_, fun b hb3 => ?_, fun s hs => ?_, ?_⟩
  · obtain ⟨a1, a2, a3, a4, a5⟩ := hA
    rcases hj with ⟨rfl, rfl⟩ | ⟨rfl, rfl⟩ | ⟨rfl, rfl⟩ | ⟨rfl, rfl⟩ <;> simp (disch := omega) only [mset_ne, mset_same] <;> simp only [a1, a2, a3, a4, a5, and_self, true_and]
  · have hBi := hB i j' hi hj'
    unfold pvF at hBi ⊢
    rw [mset_ne (k' := 0) (Or.inr (by omega)), mset_ne (k' := 1 + j') (Or.inl (by omega)), mset_ne (Or.inl (by omega))]
    exact hBi
  · rw [bedlen_cg (m := m) (mset_ne (Or.inl (by omega))) (fun k hk => ⟨mset_ne (Or.inl (by omega)), mset_ne (Or.inl (by omega))⟩)]
    simp (disch := omega) only [mset_ne]
    exact hC b hb3
  · simp (disch := omega) only [mset_ne]; exact hD s hs
  · obtain ⟨h1, h2, h3, h4, h5⟩ := hE
    have e0 : mset m 0 jm v 0 17 = m 0 17 := mset_ne (Or.inr (by omega))
    rw [e0, heavyK_cg (fun k hk => e3 k (by omega)), frontK_cg (fun k hk => e3 k (by omega)), rearK_cg (fun k hk => e3 k (by omega))]
    simp (disch := omega) only [mset_ne]
    exact ⟨h1, h2, h3, h4, h5⟩
/-- a stack: one more on it, one less -/
theorem R_push {ν m : Mem} {s h : Nat} {v : Int} (hR : RelXM ν m) (hs : s < 5) (hh : m 13 s = (h : Int)) (h4 : h < 4) (hb4 : ∀ t : Nat, t < 5 → m 13 t ≤ 4) : RelXM (mset (mset ν (48 + s) h v) (43 + s) 1 ((h : Int) + 1)) (mset (mset m 14 (4 * s + h) v) 13 s ((h : Int) + 1)) := by
  obtain ⟨hA, hB, hC, hD, hE⟩ := hR
  refine ⟨?_, fun i j' hi hj' => ?_, fun b hb3 => ?_, fun t ht => ?_, ?_⟩
  · simp (disch := omega) only [mset_ne]; exact hA
  · have hBi := hB i j' hi hj'
    unfold pvF at hBi ⊢
    simp (disch := omega) only [mset_ne]
    exact hBi
  · rw [bedlen_cg (m := m) (by simp (disch := omega) only [mset_ne]) (fun k hk => ⟨by simp (disch := omega) only [mset_ne], by simp (disch := omega) only [mset_ne]⟩)]
    simp (disch := omega) only [mset_ne]
    exact hC b hb3
  · obtain ⟨d1, d2⟩ := hD t ht
    have hb4 := hb4 t ht
    by_cases hts : t = s
    · subst hts
      rw [mset_same, mset_same]
      refine ⟨rfl, fun k hk => ?_⟩
      rw [mset_ne (Or.inl (by omega)), mset_ne (k' := 14) (Or.inl (by omega))]
      by_cases hkh : k = h
      · subst hkh; rw [mset_same, mset_same]
      · rw [mset_ne (Or.inr hkh), mset_ne (Or.inr (by omega))]
        exact d2 k (by omega)
    · simp (disch := omega) only [mset_ne]
      refine ⟨d1, fun k hk => ?_⟩
      have := d2 k hk
      rw [mset_ne (k' := 14) (Or.inr (by omega))]
      exact this
  · obtain ⟨h1, h2, h3, h4, h5⟩ := hE
    rw [heavyK_cg (m := m) (fun k hk => ⟨by simp (disch := omega) only [mset_ne], by simp (disch := omega) only [mset_ne]⟩), frontK_cg (m := m) (fun k hk => ⟨by simp (disch := omega) only [mset_ne], by simp (disch := omega) only [mset_ne]⟩), rearK_cg (m := m) (fun k hk => ⟨by simp (disch := omega) only [mset_ne], by simp (disch := omega) only [mset_ne]⟩)]
    simp (disch := omega) only [mset_ne]
    exact ⟨h1, h2, h3, h4, h5⟩
theorem R_hgt {ν m : Mem} {s : Nat} {v : Int} (hR : RelXM ν m) (hs : s < 5) (hv : v ≤ m 13 s) : RelXM (mset ν (43 + s) 1 v) (mset m 13 s v) := by
  obtain ⟨hA, hB, hC, hD, hE⟩ := hR
  refine ⟨?_, fun i j' hi hj' => ?_, fun b hb3 => ?_, fun t ht => ?_, ?_⟩
  · simp (disch := omega) only [mset_ne]; exact hA
  · have hBi := hB i j' hi hj'
    unfold pvF at hBi ⊢
    simp (disch := omega) only [mset_ne]
    exact hBi
  · rw [bedlen_cg (m := m) (by simp (disch := omega) only [mset_ne]) (fun k hk => ⟨by simp (disch := omega) only [mset_ne], by simp (disch := omega) only [mset_ne]⟩)]
    simp (disch := omega) only [mset_ne]
    exact hC b hb3
  · obtain ⟨d1, d2⟩ := hD t ht
    by_cases hts : t = s
    · subst hts
      rw [mset_same, mset_same]
      refine ⟨rfl, fun k hk => ?_⟩
      rw [mset_ne (Or.inl (by omega)), mset_ne (k' := 14) (Or.inl (by omega))]
      exact d2 k (by omega)
    · simp (disch := omega) only [mset_ne]
      exact ⟨d1, d2⟩
  · obtain ⟨h1, h2, h3, h4, h5⟩ := hE
    rw [heavyK_cg (m := m) (fun k hk => ⟨by simp (disch := omega) only [mset_ne], by simp (disch := omega) only [mset_ne]⟩), frontK_cg (m := m) (fun k hk => ⟨by simp (disch := omega) only [mset_ne], by simp (disch := omega) only [mset_ne]⟩), rearK_cg (m := m) (fun k hk => ⟨by simp (disch := omega) only [mset_ne], by simp (disch := omega) only [mset_ne]⟩)]
    simp (disch := omega) only [mset_ne]
    exact ⟨h1, h2, h3, h4, h5⟩
/-- the lorry: one more on it; empty -/
def ltkX (ν : Mem) (h : Nat) (p w : Int) : Mem := mset (mset (mset (mset (mset ν 67 3 (ν 67 3 + w * (8 - 2 * (h : Int)))) 67 4 (ν 67 4 + w * (2 * (h : Int) + 1))) 67 2 (ν 67 2 + w)) 68 h p) 67 1 ((h : Int) + 1)
def ltkM (m : Mem) (h : Nat) (p : Int) : Mem := mset (mset m 15 h p) 0 17 ((h : Int) + 1)
theorem R_ltk {ν m : Mem} {h : Nat} {p w : Int} (hR : RelXM ν m) (hh : m 0 17 = (h : Int)) (hw : w = m 3 p.toNat) : RelXM (ltkX ν h p w) (ltkM m h p) := by
  obtain ⟨hA, hB, hC, hD, hE⟩ := hR
  have e3 : ∀ k : Nat, k < h → ltkM m h p 15 k = m 15 k ∧ ltkM m h p 3 (m 15 k).toNat = m 3 (m 15 k).toNat := fun k hk => by
    unfold ltkM
    simp (disch := omega) only [mset_ne, and_self]
  refine ⟨?_, fun i j' hi hj' => ?_, fun b hb3 => ?_, fun t ht => ?_, ?_⟩
  · unfold ltkX ltkM; simp (disch := omega) only [mset_ne]; exact hA
  · have hBi := hB i j' hi hj'
    unfold pvF at hBi ⊢
    unfold ltkX ltkM
    simp (disch := omega) only [mset_ne]
    exact hBi
  · rw [bedlen_cg (m := m) (by unfold ltkM; simp (disch := omega) only [mset_ne]) (fun k hk => by unfold ltkM; exact ⟨by simp (disch := omega) only [mset_ne], by simp (disch := omega) only [mset_ne]⟩)]
    unfold ltkX ltkM
    simp (disch := omega) only [mset_ne]
    exact hC b hb3
  · unfold ltkX ltkM; simp (disch := omega) only [mset_ne]; exact hD t ht
  · obtain ⟨h1, h2, h3, h4, h5⟩ := hE
    have e0 : ltkM m h p 0 17 = (h : Int) + 1 := by unfold ltkM; rw [mset_same]
    have e15 : ltkM m h p 15 h = p := by unfold ltkM; rw [mset_ne (Or.inl (by omega)), mset_same]
    have e33 : ltkM m h p 3 p.toNat = m 3 p.toNat := by unfold ltkM; simp (disch := omega) only [mset_ne]
    rw [hh] at h1 h2 h3 h4 h5
    have ht : ((h : Int)).toNat = h := rfl
    rw [ht] at h2 h3 h4
    rw [e0, show ((h : Int) + 1).toNat = h + 1 by omega]
    unfold heavyK frontK rearK
    rw [heavyK_cg e3, frontK_cg e3, rearK_cg e3, e15, e33, ← hw]
    unfold ltkX
    simp (disch := omega) only [mset_ne, mset_same]
    refine ⟨trivial, by rw [h2], by rw [h3], by rw [h4], fun k hk => ?_⟩
    by_cases hk2 : k = h
    · subst hk2; rw [mset_same, e15]
    · rw [mset_ne (Or.inr hk2), (e3 k (by omega)).1]
      exact h5 k (by omega)
theorem R_lcl {ν m : Mem} (hR : RelXM ν m) : RelXM (mset (mset (mset (mset ν 67 1 0) 67 2 0) 67 3 0) 67 4 0) (mset m 0 17 0) := by
  obtain ⟨hA, hB, hC, hD, hE⟩ := hR
  refine ⟨?_, fun i j' hi hj' => ?_, fun b hb3 => ?_, fun t ht => ?_, ?_⟩
  · simp (disch := omega) only [mset_ne]; exact hA
  · have hBi := hB i j' hi hj'
    unfold pvF at hBi ⊢
    simp (disch := omega) only [mset_ne]
    exact hBi
  · rw [bedlen_cg (m := m) (by simp (disch := omega) only [mset_ne]) (fun k hk => ⟨by simp (disch := omega) only [mset_ne], by simp (disch := omega) only [mset_ne]⟩)]
    simp (disch := omega) only [mset_ne]
    exact hC b hb3
  · simp (disch := omega) only [mset_ne]; exact hD t ht
  · simp (disch := omega) only [mset_ne, mset_same]
    exact ⟨trivial, rfl, rfl, rfl, fun k hk => absurd hk (by omega)⟩
end
section
/-! the class's calls, the plain ones: what each answers and leaves is the reference's, by its words for m -/
def XP (μ : Mem) (sp : Int × Mem) : Int → Mem → Prop := fun z μ' => z = sp.1 ∧ RelXM μ' sp.2 ∧ vw μ' = vw μ
def spPart (m : Mem) (l p w : Int) : Int × Mem := if areM l p w then (if m 0 0 < 40 then (m 0 0, newM m (m 0 0).toNat l p w 0) else (-3, m)) else (-1, m)
def spNeed (m : Mem) (p n : Int) : Int × Mem := if (0 ≤ p ∧ p < m 0 0) ∧ 0 ≤ n ∧ n ≤ 1000 then (m 4 p.toNat, mset m 4 p.toNat n) else (-1, m)
def spWarm (m : Mem) (w : Int) : Int × Mem := if -20 ≤ w ∧ w ≤ 60 then (m 0 13, mset m 0 13 w) else (-100, m)
def ripeV (m : Mem) (n : Int) (b : Nat) : Int := m 11 b + (if 0 < m 9 b ∧ 0 < m 0 13 + 10 then n * (m 0 13 + 10) else 0)
def hourM (m : Mem) (n : Int) : Mem := mset (mset (mset (mset m 11 0 (ripeV m n 0)) 11 1 (ripeV m n 1)) 11 2 (ripeV m n 2)) 0 14 (m 0 14 + n)
def spHours (m : Mem) (n : Int) : Int × Mem := if 1 ≤ n ∧ n ≤ 200 then (if m 0 14 + n ≤ 100000 then (m 0 14 + n, hourM m n) else (-3, m)) else (-1, m)
theorem rel_n {ν m : Mem} {c : Nat} (hR : RelXM ν m) (hI : IM c m) : ∃ n : Nat, n ≤ 40 ∧ m 0 0 = (n : Int) ∧ ν 63 6 = (n : Int) := by
  have h1 := hI.1.1
  exact ⟨(m 0 0).toNat, by omega, by omega, by rw [hR.1.1]; omega⟩
theorem rel_p {ν m : Mem} {i j : Nat} (hR : RelXM ν m) (hi : (i : Int) < m 0 0) (h40 : i < 40) (hj : j < 8) : ν i j = m (1 + j) i := by
  rw [hR.2.1 i j h40 hj]; unfold pvF; rw [if_pos hi]
theorem xf0 {ν m : Mem} {i : Nat} (hR : RelXM ν m) (hi : (i : Int) < m 0 0) (h40 : i < 40) : ν i 0 = m 1 i := rel_p (j := 0) hR hi h40 (by decide)
theorem xf1 {ν m : Mem} {i : Nat} (hR : RelXM ν m) (hi : (i : Int) < m 0 0) (h40 : i < 40) : ν i 1 = m 2 i := rel_p (j := 1) hR hi h40 (by decide)
theorem xf2 {ν m : Mem} {i : Nat} (hR : RelXM ν m) (hi : (i : Int) < m 0 0) (h40 : i < 40) : ν i 2 = m 3 i := rel_p (j := 2) hR hi h40 (by decide)
theorem xf3 {ν m : Mem} {i : Nat} (hR : RelXM ν m) (hi : (i : Int) < m 0 0) (h40 : i < 40) : ν i 3 = m 4 i := rel_p (j := 3) hR hi h40 (by decide)
theorem xf4 {ν m : Mem} {i : Nat} (hR : RelXM ν m) (hi : (i : Int) < m 0 0) (h40 : i < 40) : ν i 4 = m 5 i := rel_p (j := 4) hR hi h40 (by decide)
theorem xf5 {ν m : Mem} {i : Nat} (hR : RelXM ν m) (hi : (i : Int) < m 0 0) (h40 : i < 40) : ν i 5 = m 6 i := rel_p (j := 5) hR hi h40 (by decide)
theorem xf6 {ν m : Mem} {i : Nat} (hR : RelXM ν m) (hi : (i : Int) < m 0 0) (h40 : i < 40) : ν i 6 = m 7 i := rel_p (j := 6) hR hi h40 (by decide)
theorem xf7 {ν m : Mem} {i : Nat} (hR : RelXM ν m) (hi : (i : Int) < m 0 0) (h40 : i < 40) : ν i 7 = m 8 i := rel_p (j := 7) hR hi h40 (by decide)
theorem vw_newX {ν : Mem} {n : Nat} {l p w nd : Int} (hn : n < 40) : vw (newX ν n l p w nd) = vw ν := by
  unfold newX
  rw [vw_out (by omega), vw_out (by omega), vw_out (by omega), vw_out (by omega), vw_out (by omega)]
set_option maxHeartbeats 4000000 in
theorem c_draw {l : Launch} {V : VX} (hI : InjV V) {μ : Mem} {n : Nat} {a b c d : Int} (hn : μ 63 6 = (n : Int)) (hn4 : n < 40) : Ct l yX6_draw cX6_draw 7 (some .int) 2 V [vr V 63, vi a, vi b, vi c, vi d] μ (pI (fun z μ' => z = (n : Int) ∧ μ' = newX μ n a b c d)) := by
  refine Ct_of (by decide) hI (Nat.le_of_ble_eq_true rfl) (fun E hE hX hR => ?_)
  have hX : OkX V E RX6 cX6_draw 7 2 := hX
  show G V E μ 0 [some (vr V 63), some (vi a), some (vi b), some (vi c), some (vi d), none, none] []
  refine g_aload_n hX dX6_draw_0 rfl ?_
  refine gf_X6_59 hX dX6_draw_1 ?_
  refine st_istore_7_5 hX dX6_draw_4 (by first | exact ck_i _ | exact ck_r _ _ | exact ck_n | exact ck_0) ?_
  refine g_aload_n hX dX6_draw_6 rfl ?_
  refine g_dup hX dX6_draw_7 rfl ?_
  refine gf_X6_59 hX dX6_draw_8 ?_
  refine g_iconst hX dX6_draw_11 ?_
  refine g_iadd hX dX6_draw_12 ?_
  refine pf_X6_59 hX dX6_draw_13 ?_
  refine g_aload_n hX dX6_draw_16 rfl ?_
  refine g_iload hX dX6_draw_17 rfl ?_
  refine g_v1R hX lk_X6_66 dX6_draw_19 (c0 := 6) ok63 ⟨_, rfl, rfl⟩ (c_partOf (n := n + 1) hI (by rw [mset_same, hn]; rfl) (by omega) ⟨by omega, by omega⟩) (by first | decide | omega) (by decide) rfl (Nat.le_of_ble_eq_true rfl) (fun r μ' hp => ?_)
  obtain ⟨rfl, hm⟩ := hp
  rw [hm]
  clear hm μ'
  rw [if_pos (by omega), show (μ 63 6).toNat = n by omega]
  show G V E _ 22 _ (vr V n :: [])
  refine st_astore_7_6 hX dX6_draw_22 (by first | exact ck_i _ | exact ck_r _ _ | exact ck_n | exact ck_0) ?_
  refine g_aload hX dX6_draw_24 rfl ?_
  refine g_ifnull hX dX6_draw_26 ?_
  refine g_aload hX dX6_draw_29 rfl ?_
  refine g_iload_n hX dX6_draw_31 rfl ?_
  refine g_iload_n hX dX6_draw_32 rfl ?_
  refine g_iload_n hX dX6_draw_33 rfl ?_
  refine g_v3V hX lk_X6_233 dX6_draw_34 (c0 := 4) (by first | assumption | exact okd_part (by omega) | exact okd_bed (by omega) | exact okd_pile (by omega) | exact okd_dpile (by omega)) ⟨_, rfl, rfl⟩ (c_measure hI (okd_part (by omega))) (by first | decide | omega) (by decide) rfl (Nat.le_of_ble_eq_true rfl) (fun μ' hp => ?_)
  rw [hp]
  clear hp μ'
  refine g_aload hX dX6_draw_37 rfl ?_
  refine g_iload hX dX6_draw_39 rfl ?_
  refine pf_X6_70 hX dX6_draw_41 (by first | assumption | exact okd_part (by omega) | exact okd_bed (by omega) | exact okd_pile (by omega) | exact okd_dpile (by omega)) ?_
  refine g_iload hX dX6_draw_44 rfl ?_
  refine g_iret hX hR dX6_draw_46 ⟨_, rfl, hn, by rw [hn]; rfl⟩
set_option maxHeartbeats 4000000 in
theorem x_part {l : Launch} {V : VX} (hI : InjV V) {μ : Mem} {m : Mem} {c : Nat} {a b d : Int} (hR0 : RelXM μ m) (hM : IM c m) (ha : in32 a) (hb : in32 b) (hd : in32 d) : Ct l yX6_part cX6_part 4 (some .int) 3 V [vr V 63, vi a, vi b, vi d] μ (pI (XP μ (spPart m a b d))) := by
  refine Ct_of (by decide) hI (Nat.le_of_ble_eq_true rfl) (fun E hE hX hR => ?_)
  have hX : OkX V E RX6 cX6_part 4 3 := hX
  show G V E μ 0 [some (vr V 63), some (vi a), some (vi b), some (vi d)] []
  obtain ⟨n, hn40, hmn, hn⟩ := rel_n hR0 hM
  unfold spPart at hR
  refine g_iload_n hX dX6_part_0 rfl ?_
  refine g_iload_n hX dX6_part_1 rfl ?_
  refine g_iload_n hX dX6_part_2 rfl ?_
  refine g_s3I hX lk_X6_55 dX6_part_3 (c_areMeasures hI ha hb hd) (by decide) (by decide) rfl (Nat.le_of_ble_eq_true rfl) (fun z μ' hp => ?_)
  obtain ⟨hz, hm⟩ := hp
  rw [hm]; clear hm μ'
  rcases hz with ⟨rfl, hz⟩ | ⟨rfl, hz⟩
  · rw [if_pos hz] at hR
    refine g_if_ne (tgt := 11) hX dX6_part_6 (by decide) ⟨by omega, by omega⟩ (fun _ => ?_) (fun hc => absurd hc (by omega))
    refine g_aload_n hX dX6_part_11 rfl ?_
    refine gf_X6_59 hX dX6_part_12 ?_
    refine g_bipush hX dX6_part_15 rfl ?_
    refine g_icmp_lt (tgt := 23) hX dX6_part_17 (by decide) ⟨by omega, by omega⟩ ⟨by omega, by omega⟩ (fun h1 => ?_) (fun h1 => ?_)
    · rw [if_pos (by omega)] at hR
      refine g_aload_n hX dX6_part_23 rfl ?_
      refine g_iload_n hX dX6_part_24 rfl ?_
      refine g_iload_n hX dX6_part_25 rfl ?_
      refine g_iload_n hX dX6_part_26 rfl ?_
      refine g_iconst hX dX6_part_27 ?_
      refine g_v4I hX lk_X6_62 dX6_part_28 (c0 := 6) ok63 ⟨_, rfl, rfl⟩ (c_draw (n := n) hI hn (by omega)) (by first | decide | omega) (by decide) rfl (Nat.le_of_ble_eq_true rfl) (fun z μ' hp => ?_)
      obtain ⟨rfl, hm⟩ := hp
      rw [hm]
      clear hm μ'
      refine g_iret hX hR dX6_part_31 ⟨_, rfl, by omega, ?_, vw_newX (by omega)⟩
      rw [show (m 0 0).toNat = n by omega]
      exact R_new hR0 hM hmn (by omega)
    · rw [if_neg (by omega)] at hR
      refine g_bipush hX dX6_part_20 rfl ?_
      refine g_iret hX hR dX6_part_22 ⟨_, rfl, rfl, hR0, rfl⟩
  · rw [if_neg hz] at hR
    refine g_if_ne (tgt := 11) hX dX6_part_6 (by decide) ⟨by omega, by omega⟩ (fun hc => absurd hc (by omega)) (fun _ => ?_)
    refine g_iconst hX dX6_part_9 ?_
    refine g_iret hX hR dX6_part_10 ⟨_, rfl, rfl, hR0, rfl⟩
set_option maxHeartbeats 4000000 in
theorem x_need {l : Launch} {V : VX} (hI : InjV V) {μ : Mem} {m : Mem} {c : Nat} {p n : Int} (hR0 : RelXM μ m) (hM : IM c m) (hp : in32 p) (hn : in32 n) : Ct l yX6_need cX6_need 5 (some .int) 2 V [vr V 63, vi p, vi n] μ (pI (XP μ (spNeed m p n))) := by
  refine Ct_of (by decide) hI (Nat.le_of_ble_eq_true rfl) (fun E hE hX hR => ?_)
  have hX : OkX V E RX6 cX6_need 5 2 := hX
  show G V E μ 0 [some (vr V 63), some (vi p), some (vi n), none, none] []
  obtain ⟨N, hN40, hmN, hN⟩ := rel_n hR0 hM
  unfold spNeed at hR
  obtain ⟨hn1, hn2⟩ := hn
  refine g_aload_n hX dX6_need_0 rfl ?_
  refine g_iload_n hX dX6_need_1 rfl ?_
  refine g_v1R hX lk_X6_66 dX6_need_2 (c0 := 6) ok63 ⟨_, rfl, rfl⟩ (c_partOf hI hN hN40 hp) (by first | decide | omega) (by decide) rfl (Nat.le_of_ble_eq_true rfl) (fun r μ' hp => ?_)
  obtain ⟨rfl, hm⟩ := hp
  rw [hm]
  clear hm μ'
  by_cases h1 : 0 ≤ p ∧ p < (N : Int)
  · rw [if_pos h1]
    have e3 : μ p.toNat 3 = m 4 p.toNat := rel_p (j := 3) hR0 (by omega) (by omega) (by decide)
    show G V E μ 5 _ (vr V p.toNat :: [])
    have no : ¬ (0 ≤ n ∧ n ≤ 1000) → G V E μ 21 [some (vr V 63), some (vi p), some (vi n), some (vr V p.toNat), none] [] := fun h => by
      rw [if_neg (by omega)] at hR
      refine g_iconst hX dX6_need_21 ?_
      refine g_iret hX hR dX6_need_22 ⟨_, rfl, rfl, hR0, rfl⟩
    refine st_astore_n_5_3 hX dX6_need_5 (by first | exact ck_i _ | exact ck_r _ _ | exact ck_n | exact ck_0) ?_
    refine g_aload_n hX dX6_need_6 rfl ?_
    refine g_ifnull hX dX6_need_7 ?_
    refine g_iload_n hX dX6_need_10 rfl ?_
    refine g_if_lt (tgt := 21) hX dX6_need_11 (by decide) ⟨by omega, by omega⟩ (fun h2 => ?_) (fun h2 => ?_)
    · exact no (by omega)
    refine g_iload_n hX dX6_need_14 rfl ?_
    refine g_sipush hX dX6_need_15 rfl ?_
    refine g_icmp_le (tgt := 23) hX dX6_need_18 (by decide) ⟨by omega, by omega⟩ ⟨by omega, by omega⟩ (fun h3 => ?_) (fun h3 => ?_)
    · rw [if_pos (by omega)] at hR
      refine g_aload_n hX dX6_need_23 rfl ?_
      refine gf_X6_70 hX dX6_need_24 (by first | assumption | exact okd_part (by omega) | exact okd_bed (by omega) | exact okd_pile (by omega) | exact okd_dpile (by omega)) ?_
      refine st_istore_5_4 hX dX6_need_27 (by first | exact ck_i _ | exact ck_r _ _ | exact ck_n | exact ck_0) ?_
      refine g_aload_n hX dX6_need_29 rfl ?_
      refine g_iload_n hX dX6_need_30 rfl ?_
      refine pf_X6_70 hX dX6_need_31 (by first | assumption | exact okd_part (by omega) | exact okd_bed (by omega) | exact okd_pile (by omega) | exact okd_dpile (by omega)) ?_
      refine g_iload hX dX6_need_34 rfl ?_
      refine g_iret hX hR dX6_need_36 ⟨_, rfl, e3, R_pf (j := 3) hR0 (by omega) (by omega) (by decide) (fun h => absurd h (by decide)) (fun h => absurd h (by decide)), vw_out (by omega)⟩
    · exact no (by omega)
  · rw [if_neg h1]
    rw [if_neg (by omega)] at hR
    show G V E μ 5 _ (Value.null :: [])
    refine st_astore_nN_5_3 hX dX6_need_5 (by first | exact ck_i _ | exact ck_r _ _ | exact ck_n | exact ck_0) ?_
    refine g_aload_nN hX dX6_need_6 rfl ?_
    refine g_ifnullN (tgt := 21) hX dX6_need_7 (by decide) ?_
    refine g_iconst hX dX6_need_21 ?_
    refine g_iret hX hR dX6_need_22 ⟨_, rfl, rfl, hR0, rfl⟩
set_option maxHeartbeats 4000000 in
theorem x_warmth {l : Launch} {V : VX} (hI : InjV V) {μ : Mem} {m : Mem} {w : Int} (hR0 : RelXM μ m) (hw : in32 w) : Ct l yX6_warmth cX6_warmth 3 (some .int) 1 V [vr V 63, vi w] μ (pI (XP μ (spWarm m w))) := by
  refine Ct_of (by decide) hI (Nat.le_of_ble_eq_true rfl) (fun E hE hX hR => ?_)
  have hX : OkX V E RX6 cX6_warmth 3 1 := hX
  show G V E μ 0 [some (vr V 63), some (vi w), none] []
  unfold spWarm at hR
  obtain ⟨hw1, hw2⟩ := hw
  have no : ¬ (-20 ≤ w ∧ w ≤ 60) → G V E μ 12 [some (vr V 63), some (vi w), none] [] := fun h => by
    rw [if_neg h] at hR
    refine g_bipush hX dX6_warmth_12 rfl ?_
    refine g_iret hX hR dX6_warmth_14 ⟨_, rfl, rfl, hR0, rfl⟩
  refine g_iload_n hX dX6_warmth_0 rfl ?_
  refine g_bipush hX dX6_warmth_1 rfl ?_
  refine g_icmp_lt (tgt := 12) hX dX6_warmth_3 (by decide) ⟨by omega, by omega⟩ ⟨by omega, by omega⟩ (fun h1 => ?_) (fun h1 => ?_)
  · exact no (by omega)
  refine g_iload_n hX dX6_warmth_6 rfl ?_
  refine g_bipush hX dX6_warmth_7 rfl ?_
  refine g_icmp_le (tgt := 15) hX dX6_warmth_9 (by decide) ⟨by omega, by omega⟩ ⟨by omega, by omega⟩ (fun h2 => ?_) (fun h2 => ?_)
  · rw [if_pos (by omega)] at hR
    refine g_aload_n hX dX6_warmth_15 rfl ?_
    refine gf_X6_51 hX dX6_warmth_16 ?_
    refine st_istore_n_3_2 hX dX6_warmth_19 (by first | exact ck_i _ | exact ck_r _ _ | exact ck_n | exact ck_0) ?_
    refine g_aload_n hX dX6_warmth_20 rfl ?_
    refine g_iload_n hX dX6_warmth_21 rfl ?_
    refine pf_X6_51 hX dX6_warmth_22 ?_
    refine g_iload_n hX dX6_warmth_25 rfl ?_
    refine g_iret hX hR dX6_warmth_26 ⟨_, rfl, hR0.1.2.2.2.2, R_sc hR0 (by decide), vw_out (by omega)⟩
  · exact no (by omega)
/-- the beds up to k, an hour's n later -/
def hrX (ν m : Mem) (n : Int) (k : Nat) : Mem := fun c j => if 40 ≤ c ∧ c < 40 + k ∧ j = 2 then ripeV m n (c - 40) else if c = 63 ∧ j = 9 then m 0 14 + n else ν c j
theorem hrX_0 {ν m : Mem} {n : Int} : mset ν 63 9 (m 0 14 + n) = hrX ν m n 0 := by
  funext c j
  unfold hrX mset
  rw [if_neg (show ¬ (40 ≤ c ∧ c < 40 + 0 ∧ j = 2) by omega)]
theorem hrX_s {ν m : Mem} {n : Int} {k : Nat} (hk : k < 3) : mset (hrX ν m n k) (40 + k) 2 (ripeV m n k) = hrX ν m n (k + 1) := by
  funext c j
  unfold hrX mset
  try dsimp only
  by_cases h : c = 40 + k ∧ j = 2
  · rw [if_pos h, if_pos (by omega), show c - 40 = k by omega]
  · rw [if_neg h]
    by_cases h2 : 40 ≤ c ∧ c < 40 + k ∧ j = 2
    · rw [if_pos h2, if_pos (by omega)]
    · rw [if_neg h2, if_neg (show ¬ (40 ≤ c ∧ c < 40 + (k + 1) ∧ j = 2) by omega)]
theorem hrX_z {ν m : Mem} {n : Int} {k : Nat} (h : ν (40 + k) 2 = ripeV m n k) : hrX ν m n k = hrX ν m n (k + 1) := by
  funext c j
  unfold hrX
  try dsimp only
  by_cases h2 : 40 ≤ c ∧ c < 40 + k ∧ j = 2
  · rw [if_pos h2, if_pos (by omega)]
  · rw [if_neg h2]
    by_cases h3 : c = 40 + k ∧ j = 2
    · rw [if_pos (show 40 ≤ c ∧ c < 40 + (k + 1) ∧ j = 2 by omega), if_neg (by omega), h3.1, h3.2, h, show 40 + k - 40 = k by omega]
    · rw [if_neg (show ¬ (40 ≤ c ∧ c < 40 + (k + 1) ∧ j = 2) by omega)]
theorem R_hr {ν m : Mem} {n : Int} (hR : RelXM ν m) : RelXM (hrX ν m n 3) (hourM m n) := by
  obtain ⟨hA, hB, hC, hD, hE⟩ := hR
  have ex : ∀ c j : Nat, ¬ (40 ≤ c ∧ c < 43 ∧ j = 2) → ¬ (c = 63 ∧ j = 9) → hrX ν m n 3 c j = ν c j := fun c j h1 h2 => by
    unfold hrX
    rw [if_neg (by omega), if_neg h2]
  have em : ∀ c j : Nat, c ≠ 11 → (c ≠ 0 ∨ j ≠ 14) → hourM m n c j = m c j := fun c j h1 h2 => by
    unfold hourM
    rw [mset_ne h2, mset_ne (Or.inl h1), mset_ne (Or.inl h1), mset_ne (Or.inl h1)]
  refine ⟨?_, fun i j' hi hj' => ?_, fun b hb3 => ?_, fun t ht => ?_, ?_⟩
  · rw [ex 63 6 (by omega) (by omega), ex 63 7 (by omega) (by omega), ex 63 8 (by omega) (by omega), ex 63 10 (by omega) (by omega), em 0 0 (by omega) (by omega), em 0 20 (by omega) (by omega), em 0 19 (by omega) (by omega), em 0 13 (by omega) (by omega)]
    refine ⟨hA.1, hA.2.1, hA.2.2.1, ?_, hA.2.2.2.2⟩
    unfold hrX hourM
    rw [if_neg (by omega), if_pos ⟨rfl, rfl⟩, mset_same]
  · have hBi := hB i j' hi hj'
    unfold pvF at hBi ⊢
    rw [ex i j' (by omega) (by omega), em 0 0 (by omega) (by omega), em (1 + j') i (by omega) (Or.inl (by omega))]
    exact hBi
  · rw [bedlen_cg (m := m) (em 9 b (by omega) (by omega)) (fun k hk => ⟨em 10 _ (by omega) (by omega), em 1 _ (by omega) (by omega)⟩)]
    rw [ex (40 + b) 0 (by omega) (by omega), ex (40 + b) 1 (by omega) (by omega), ex (40 + b) 3 (by omega) (by omega), em 9 b (by omega) (by omega), em 12 b (by omega) (by omega)]
    have hc := hC b hb3
    refine ⟨hc.1, hc.2.1, ?_, hc.2.2.2⟩
    unfold hrX
    rw [if_pos (by omega), show 40 + b - 40 = b by omega]
    have hb : b = 0 ∨ b = 1 ∨ b = 2 := by omega
    unfold hourM
    rcases hb with rfl | rfl | rfl <;> simp (disch := omega) only [mset_ne, mset_same]
  · rw [ex (43 + t) 1 (by omega) (by omega), em 13 t (by omega) (by omega)]
    refine ⟨(hD t ht).1, fun k hk => ?_⟩
    rw [ex (48 + t) k (by omega) (by omega), em 14 _ (by omega) (by omega)]
    exact (hD t ht).2 k hk
  · obtain ⟨h1, h2, h3, h4, h5⟩ := hE
    have e3 : ∀ k, k < (m 0 17).toNat → hourM m n 15 k = m 15 k ∧ hourM m n 3 (m 15 k).toNat = m 3 (m 15 k).toNat := fun k _ => ⟨em 15 _ (by omega) (by omega), em 3 _ (by omega) (by omega)⟩
    rw [em 0 17 (by omega) (by omega), heavyK_cg e3, frontK_cg e3, rearK_cg e3, ex 67 1 (by omega) (by omega), ex 67 2 (by omega) (by omega), ex 67 3 (by omega) (by omega), ex 67 4 (by omega) (by omega)]
    refine ⟨h1, h2, h3, h4, fun k hk => ?_⟩
    rw [ex 68 k (by omega) (by omega), em 15 k (by omega) (by omega)]
    exact h5 k hk
theorem vw_hrX {ν m : Mem} {n : Int} {k : Nat} (hk : k ≤ 3) : vw (hrX ν m n k) = vw ν := by
  funext c j
  unfold vw hrX
  rw [if_neg (by omega), if_neg (by omega)]
set_option maxHeartbeats 4000000 in
theorem x_hours {l : Launch} {V : VX} (hI : InjV V) {μ : Mem} {m : Mem} {c : Nat} {n : Int} (hR0 : RelXM μ m) (hM : IM c m) (hn : in32 n) : Ct l yX6_hours cX6_hours 5 (some .int) 2 V [vr V 63, vi n] μ (pI (XP μ (spHours m n))) := by
  refine Ct_of (by decide) hI (Nat.le_of_ble_eq_true rfl) (fun E hE hX hR => ?_)
  have hX : OkX V E RX6 cX6_hours 5 2 := hX
  show G V E μ 0 [some (vr V 63), some (vi n), none, none, none] []
  unfold spHours at hR
  obtain ⟨hn1, hn2⟩ := hn
  obtain ⟨⟨hs1, hs2⟩, ⟨hs3, hs4⟩, -⟩ := hM.2.1
  obtain ⟨-, -, -, hh, hw⟩ := hR0.1
  have hb := hM.2.2.1
  have no : ¬ (1 ≤ n ∧ n ≤ 200) → G V E μ 12 [some (vr V 63), some (vi n), none, none, none] [] := fun h => by
    rw [if_neg h] at hR
    refine g_iconst hX dX6_hours_12 ?_
    refine g_iret hX hR dX6_hours_13 ⟨_, rfl, rfl, hR0, rfl⟩
  refine g_iload_n hX dX6_hours_0 rfl ?_
  refine g_iconst hX dX6_hours_1 ?_
  refine g_icmp_lt (tgt := 12) hX dX6_hours_2 (by decide) ⟨by omega, by omega⟩ ⟨by omega, by omega⟩ (fun h1 => ?_) (fun h1 => ?_)
  · exact no (by omega)
  refine g_iload_n hX dX6_hours_5 rfl ?_
  refine g_sipush hX dX6_hours_6 rfl ?_
  refine g_icmp_le (tgt := 14) hX dX6_hours_9 (by decide) ⟨by omega, by omega⟩ ⟨by omega, by omega⟩ (fun h2 => ?_) (fun h2 => ?_)
  rotate_left
  · exact no (by omega)
  rw [if_pos (by omega)] at hR
  refine g_aload_n hX dX6_hours_14 rfl ?_
  refine gf_X6_111 hX dX6_hours_15 ?_
  refine g_iload_n hX dX6_hours_18 rfl ?_
  refine g_iadd hX dX6_hours_19 ?_
  refine g_ldc (z := 100000) hX dX6_hours_20 tw_291 ?_
  refine g_icmp_le (tgt := 28) hX dX6_hours_22 (by decide) ⟨by omega, by omega⟩ ⟨by omega, by omega⟩ (fun h3 => ?_) (fun h3 => ?_)
  rotate_left
  · rw [if_neg (by omega)] at hR
    refine g_bipush hX dX6_hours_25 rfl ?_
    refine g_iret hX hR dX6_hours_27 ⟨_, rfl, rfl, hR0, rfl⟩
  rw [if_pos (by omega)] at hR
  refine g_aload_n hX dX6_hours_28 rfl ?_
  refine g_dup hX dX6_hours_29 rfl ?_
  refine gf_X6_111 hX dX6_hours_30 ?_
  refine g_iload_n hX dX6_hours_33 rfl ?_
  refine g_iadd hX dX6_hours_34 ?_
  refine pf_X6_111 hX dX6_hours_35 ?_
  refine g_iconst hX dX6_hours_38 ?_
  refine g_aload_n hX dX6_hours_39 rfl ?_
  refine gf_X6_51 hX dX6_hours_40 ?_
  refine g_bipush hX dX6_hours_43 rfl ?_
  refine g_iadd hX dX6_hours_45 ?_
  simp (disch := omega) only [mset_ne, mset_same]
  refine g_mmax hX rfl (by decide) dX6_hours_46 ⟨by omega, by omega⟩ ⟨by omega, by omega⟩ (Nat.le_of_ble_eq_true rfl) ?_
  refine g_iload_n hX dX6_hours_49 rfl ?_
  refine g_imul hX dX6_hours_50 ?_
  refine st_istore_n_5_2 hX dX6_hours_51 (by first | exact ck_i _ | exact ck_r _ _ | exact ck_n | exact ck_0) ?_
  refine g_iconst hX dX6_hours_52 ?_
  refine st_istore_n_5_3 hX dX6_hours_53 (by first | exact ck_i _ | exact ck_r _ _ | exact ck_n | exact ck_0) ?_
  rw [hh, hw, hrX_0]
  have loop : ∀ (d k : Nat), k + d = 3 → G V E (hrX μ m n k) 54 [some (vr V 63), some (vi n), some (vi (max 0 (m 0 13 + 10) * n)), some (vi (k : Int)), none] [] := by
    intro d
    induction d with
    | zero =>
      intro k hk
      obtain rfl : k = 3 := by omega
      refine g_iload_n hX dX6_hours_54 rfl ?_
      refine g_iconst hX dX6_hours_55 ?_
      refine g_icmp_ge (tgt := 96) hX dX6_hours_56 (by decide) ⟨by omega, by omega⟩ ⟨by omega, by omega⟩ (fun _ => ?_) (fun hc => absurd hc (by omega))
      refine g_aload_n hX dX6_hours_96 rfl ?_
      refine gf_X6_111 hX dX6_hours_97 ?_
      refine g_iret hX hR dX6_hours_100 ⟨_, rfl, ?_, R_hr hR0, vw_hrX (by decide)⟩
      unfold hrX
      rw [if_neg (by omega), if_pos ⟨rfl, rfl⟩]
    | succ d ih =>
      intro k hk
      have hbk := hb k (by omega)
      have hck := hR0.2.2.1 k (by omega)
      have e0 : hrX μ m n k (40 + k) 0 = m 9 k := by unfold hrX; rw [if_neg (by omega), if_neg (by omega)]; exact hck.1
      have e2 : hrX μ m n k (40 + k) 2 = m 11 k := by unfold hrX; rw [if_neg (by omega), if_neg (by omega)]; exact hck.2.2.1
      refine g_iload_n hX dX6_hours_54 rfl ?_
      refine g_iconst hX dX6_hours_55 ?_
      refine g_icmp_ge (tgt := 96) hX dX6_hours_56 (by decide) ⟨by omega, by omega⟩ ⟨by omega, by omega⟩ (fun hc => absurd hc (by omega)) (fun _ => ?_)
      refine g_aload_n hX dX6_hours_59 rfl ?_
      refine g_iload_n hX dX6_hours_60 rfl ?_
      refine g_v1R hX lk_X6_88 dX6_hours_61 (c0 := 6) ok63 ⟨_, rfl, rfl⟩ (c_bedOf hI ⟨by omega, by omega⟩) (by first | decide | omega) (by decide) rfl (Nat.le_of_ble_eq_true rfl) (fun r μ' hp => ?_)
      obtain ⟨rfl, hm⟩ := hp
      rw [hm]
      clear hm μ'
      rw [if_pos (by omega), show ((k : Int)).toNat = k from rfl]
      show G V E _ 64 _ (vr V (40 + k) :: [])
      refine st_astore_5_4 hX dX6_hours_64 (by first | exact ck_i _ | exact ck_r _ _ | exact ck_n | exact ck_0) ?_
      refine g_aload hX dX6_hours_66 rfl ?_
      refine g_ifnull hX dX6_hours_68 ?_
      refine g_aload hX dX6_hours_71 rfl ?_
      refine gf_X6_96 hX dX6_hours_73 (by first | assumption | exact okd_part (by omega) | exact okd_bed (by omega) | exact okd_pile (by omega) | exact okd_dpile (by omega)) ?_
      rw [e0]
      refine g_if_le (tgt := 90) hX dX6_hours_76 (by decide) ⟨by omega, by omega⟩ (fun h4 => ?_) (fun h4 => ?_)
      · refine st_iinc_5_3 hX dX6_hours_90 (by first | exact ck_i _ | exact ck_r _ _ | exact ck_n | exact ck_0) ?_
        refine g_goto (tgt := 54) hX dX6_hours_93 (by decide) ?_
        refine fg_5_4 ?_
        have e : hrX μ m n k = hrX μ m n (k + 1) := hrX_z (by rw [hck.2.2.1]; unfold ripeV; rw [if_neg (by omega), Int.add_zero])
        rw [e]
        exact ih (k + 1) (by omega)
      · refine g_aload hX dX6_hours_79 rfl ?_
        refine g_dup hX dX6_hours_81 rfl ?_
        refine gf_X6_127 hX dX6_hours_82 (by first | assumption | exact okd_part (by omega) | exact okd_bed (by omega) | exact okd_pile (by omega) | exact okd_dpile (by omega)) ?_
        rw [e2]
        refine g_iload_n hX dX6_hours_85 rfl ?_
        refine g_iadd hX dX6_hours_86 ?_
        refine pf_X6_127 hX dX6_hours_87 (by first | assumption | exact okd_part (by omega) | exact okd_bed (by omega) | exact okd_pile (by omega) | exact okd_dpile (by omega)) ?_
        refine st_iinc_5_3 hX dX6_hours_90 (by first | exact ck_i _ | exact ck_r _ _ | exact ck_n | exact ck_0) ?_
        refine g_goto (tgt := 54) hX dX6_hours_93 (by decide) ?_
        refine fg_5_4 ?_
        have e : m 11 k + max 0 (m 0 13 + 10) * n = ripeV m n k := by
          unfold ripeV
          by_cases h5 : 0 < m 0 13 + 10
          · rw [if_pos ⟨by omega, h5⟩, Int.max_eq_right (by omega), Int.mul_comm]
          · rw [if_neg (by omega), Int.max_eq_left (by omega), Int.zero_mul]
        rw [e, hrX_s (by omega)]
        exact ih (k + 1) (by omega)
  exact loop 3 0 (by omega)
end
section
/-! the class's calls: told, at, bed, count, lorry, stack, go -/
def spTold (m : Mem) (p w : Int) : Int × Mem := if (0 ≤ p ∧ p < m 0 0) ∧ 0 ≤ w ∧ w ≤ 7 then (m (1 + w.toNat) p.toNat, m) else (-1, m)
def spAt (m : Mem) (s i : Int) : Int × Mem := if (0 ≤ s ∧ s < 5) ∧ 0 ≤ i then (if i < m 13 s.toNat then m 14 (4 * s.toNat + i.toNat) else -4, m) else (-1, m)
def spBed (m : Mem) (b w : Int) : Int × Mem := if (0 ≤ b ∧ b < 3) ∧ 0 ≤ w ∧ w ≤ 3 then (if w = 0 then m 9 b.toNat else if w = 1 then bedlen m b.toNat else if w = 2 then m 11 b.toNat else if m 9 b.toNat = 0 then 0 else m 0 14 - m 12 b.toNat, m) else (-1, m)
def spCount (m : Mem) (w : Int) : Int × Mem := if 0 ≤ w ∧ w ≤ 10 then (if w = 0 then m 0 0 else if w = 1 then m 0 14 else if w = 2 then m 0 19 else if w = 3 then m 0 20 else (cntW m (w - 4) (m 0 0).toNat : Int), m) else (-1, m)
def rightZ (m : Mem) : Nat → Int
  | 0 => 1
  | 1 => 1
  | k + 2 => if m 4 (m 15 (k + 1)).toNat ≤ m 4 (m 15 k).toNat then rightZ m (k + 1) else 0
def spLorry (m : Mem) (w : Int) : Int × Mem := (if w = 0 then m 0 17 else if w = 1 then heavyK m (m 0 17).toNat else if w = 2 then frontK m (m 0 17).toNat else if w = 3 then rearK m (m 0 17).toNat else if w = 4 then rightZ m (m 0 17).toNat else -1, m)
def layM (m : Mem) (p s h : Nat) : Mem := mset (mset (mset (mset m 14 (4 * s + h) p) 13 s ((h : Int) + 1)) 5 p 3) 6 p (s : Int)
def spStack (m : Mem) (p s : Int) : Int × Mem := if (0 ≤ p ∧ p < m 0 0) ∧ 0 ≤ s ∧ s < 5 then (if m 5 p.toNat = 2 then (if m 13 s.toNat < 4 then (m 13 s.toNat + 1, layM m p.toNat s.toNat (m 13 s.toNat).toNat) else (-3, m)) else (-2, m)) else (-1, m)
def goK (m : Mem) : Nat → Mem
  | 0 => m
  | k + 1 => mset (mset (goK m k) 5 (m 15 k).toNat 4) 6 (m 15 k).toNat (m 0 19)
def spGo (m : Mem) : Int × Mem := if m 0 17 = 0 then (-2, m) else (m 0 17, mset (mset (goK m (m 0 17).toNat) 0 17 0) 0 19 (m 0 19 + 1))
theorem goK_ne (m : Mem) {c j : Nat} (h5 : c ≠ 5) (h6 : c ≠ 6) : ∀ k, goK m k c j = m c j := by
  intro k
  induction k with
  | zero => rfl
  | succ k ih => unfold goK; rw [mset_ne (Or.inl h6), mset_ne (Or.inl h5)]; exact ih
theorem rightZ_01 (m : Mem) : ∀ k, rightZ m k = 0 ∨ rightZ m k = 1 := by
  intro k
  induction k using Nat.strongRecOn with
  | _ k ih =>
    match k with
    | 0 => exact Or.inr rfl
    | 1 => exact Or.inr rfl
    | k + 2 =>
      unfold rightZ
      split
      · exact ih (k + 1) (by omega)
      · exact Or.inl rfl
theorem rightZ_0 (m : Mem) : ∀ L k : Nat, k + 1 < L → ¬ m 4 (m 15 (k + 1)).toNat ≤ m 4 (m 15 k).toNat → rightZ m L = 0 := by
  intro L
  induction L with
  | zero => intro k hk; omega
  | succ L ih =>
    intro k hk hn
    match L, ih with
    | 0, _ => omega
    | L + 1, ih =>
      unfold rightZ
      by_cases h : m 4 (m 15 (L + 1)).toNat ≤ m 4 (m 15 L).toNat
      · rw [if_pos h]
        by_cases hkl : k = L
        · subst hkl; exact absurd h hn
        · exact ih k (by omega) hn
      · rw [if_neg h]
theorem rightZ_1 (m : Mem) : ∀ L : Nat, (∀ k, k + 1 < L → m 4 (m 15 (k + 1)).toNat ≤ m 4 (m 15 k).toNat) → rightZ m L = 1 := by
  intro L
  induction L with
  | zero => intro _; rfl
  | succ L ih =>
    intro h
    match L, ih with
    | 0, _ => rfl
    | L + 1, ih =>
      unfold rightZ
      rw [if_pos (h L (by omega))]
      exact ih (fun k hk => h k (by omega))
theorem cntX_W {ν m : Mem} (hR : RelXM ν m) (w : Int) : ∀ n : Nat, (n : Int) ≤ m 0 0 → n ≤ 40 → cntX ν w n = cntW m w n := by
  intro n
  induction n with
  | zero => intro _ _; rfl
  | succ n ih =>
    intro h h40
    unfold cntX cntW
    rw [ih (by omega) (by omega), rel_p (j := 4) hR (by omega) (by omega) (by decide)]
theorem IM_p {m : Mem} {c : Nat} (hM : IM c m) {i : Nat} (hi : (i : Int) < m 0 0) : (1 ≤ m 1 i ∧ m 1 i ≤ 200) ∧ (0 ≤ m 2 i ∧ m 2 i ≤ 7) ∧ (1 ≤ m 3 i ∧ m 3 i ≤ 100) ∧ (0 ≤ m 4 i ∧ m 4 i ≤ 1000) ∧ (0 ≤ m 5 i ∧ m 5 i ≤ 6) ∧ (-4 ≤ m 6 i ∧ m 6 i ≤ (c : Int) + 5) ∧ (m 8 i = 0 ∨ m 8 i = 1) := hM.1.2.1 i hi
set_option maxHeartbeats 4000000 in
theorem x_told {l : Launch} {V : VX} (hI : InjV V) {μ : Mem} {m : Mem} {c : Nat} {p w : Int} (hR0 : RelXM μ m) (hM : IM c m) (hp : in32 p) (hw : in32 w) : Ct l yX6_told cX6_told 4 (some .int) 2 V [vr V 63, vi p, vi w] μ (pI (XP μ (spTold m p w))) := by
  refine Ct_of (by decide) hI (Nat.le_of_ble_eq_true rfl) (fun E hE hX hR => ?_)
  have hX : OkX V E RX6 cX6_told 4 2 := hX
  show G V E μ 0 [some (vr V 63), some (vi p), some (vi w), none] []
  obtain ⟨N, hN40, hmN, hN⟩ := rel_n hR0 hM
  unfold spTold at hR
  obtain ⟨hw1, hw2⟩ := hw
  refine g_aload_n hX dX6_told_0 rfl ?_
  refine g_iload_n hX dX6_told_1 rfl ?_
  refine g_v1R hX lk_X6_66 dX6_told_2 (c0 := 6) ok63 ⟨_, rfl, rfl⟩ (c_partOf hI hN hN40 hp) (by first | decide | omega) (by decide) rfl (Nat.le_of_ble_eq_true rfl) (fun r μ' hp => ?_)
  obtain ⟨rfl, hm⟩ := hp
  rw [hm]
  clear hm μ'
  by_cases h1 : 0 ≤ p ∧ p < (N : Int)
  · rw [if_pos h1]
    have hr : ∀ j, j < 8 → μ p.toNat j = m (1 + j) p.toNat := fun j hj => rel_p hR0 (by omega) (by omega) hj
    have hmp := IM_p hM (i := p.toNat) (by omega)
    show G V E μ 5 _ (vr V p.toNat :: [])
    refine st_astore_n_4_3 hX dX6_told_5 (by first | exact ck_i _ | exact ck_r _ _ | exact ck_n | exact ck_0) ?_
    refine g_aload_n hX dX6_told_6 rfl ?_
    refine g_ifnonnull (tgt := 12) hX dX6_told_7 (by decide) ?_
    refine g_iload_n hX dX6_told_12 rfl ?_
    have hcs : w = 0 ∨ w = 1 ∨ w = 2 ∨ w = 3 ∨ w = 4 ∨ w = 5 ∨ w = 6 ∨ w = 7 ∨ (w < 0 ∨ 7 < w) := by omega
    rcases hcs with rfl | rfl | rfl | rfl | rfl | rfl | rfl | rfl | hcs
    · rw [if_pos (by omega)] at hR
      refine g_tin (tgt := 60) hX dX6_told_13 ⟨by decide, by decide⟩ (by decide) (by decide) rfl (by decide) ?_
      refine g_aload_n hX dX6_told_60 rfl ?_
      refine gf_X6_108 hX dX6_told_61 (by first | assumption | exact okd_part (by omega) | exact okd_bed (by omega) | exact okd_pile (by omega) | exact okd_dpile (by omega)) ?_
      refine g_iret hX hR dX6_told_64 ⟨_, rfl, hr 0 (by decide), hR0, rfl⟩
    · rw [if_pos (by omega)] at hR
      refine g_tin (tgt := 65) hX dX6_told_13 ⟨by decide, by decide⟩ (by decide) (by decide) rfl (by decide) ?_
      refine g_aload_n hX dX6_told_65 rfl ?_
      refine gf_X6_230 hX dX6_told_66 (by first | assumption | exact okd_part (by omega) | exact okd_bed (by omega) | exact okd_pile (by omega) | exact okd_dpile (by omega)) ?_
      refine g_iret hX hR dX6_told_69 ⟨_, rfl, hr 1 (by decide), hR0, rfl⟩
    · rw [if_pos (by omega)] at hR
      refine g_tin (tgt := 70) hX dX6_told_13 ⟨by decide, by decide⟩ (by decide) (by decide) rfl (by decide) ?_
      refine g_aload_n hX dX6_told_70 rfl ?_
      refine gf_X6_204 hX dX6_told_71 (by first | assumption | exact okd_part (by omega) | exact okd_bed (by omega) | exact okd_pile (by omega) | exact okd_dpile (by omega)) ?_
      refine g_iret hX hR dX6_told_74 ⟨_, rfl, hr 2 (by decide), hR0, rfl⟩
    · rw [if_pos (by omega)] at hR
      refine g_tin (tgt := 75) hX dX6_told_13 ⟨by decide, by decide⟩ (by decide) (by decide) rfl (by decide) ?_
      refine g_aload_n hX dX6_told_75 rfl ?_
      refine gf_X6_70 hX dX6_told_76 (by first | assumption | exact okd_part (by omega) | exact okd_bed (by omega) | exact okd_pile (by omega) | exact okd_dpile (by omega)) ?_
      refine g_iret hX hR dX6_told_79 ⟨_, rfl, hr 3 (by decide), hR0, rfl⟩
    · rw [if_pos (by omega)] at hR
      refine g_tin (tgt := 80) hX dX6_told_13 ⟨by decide, by decide⟩ (by decide) (by decide) rfl (by decide) ?_
      refine g_aload_n hX dX6_told_80 rfl ?_
      refine gf_X6_133 hX dX6_told_81 (by first | assumption | exact okd_part (by omega) | exact okd_bed (by omega) | exact okd_pile (by omega) | exact okd_dpile (by omega)) ?_
      refine g_iret hX hR dX6_told_84 ⟨_, rfl, hr 4 (by decide), hR0, rfl⟩
    · rw [if_pos (by omega)] at hR
      refine g_tin (tgt := 85) hX dX6_told_13 ⟨by decide, by decide⟩ (by decide) (by decide) rfl (by decide) ?_
      refine g_aload_n hX dX6_told_85 rfl ?_
      refine gf_X6_136 hX dX6_told_86 (by first | assumption | exact okd_part (by omega) | exact okd_bed (by omega) | exact okd_pile (by omega) | exact okd_dpile (by omega)) ?_
      refine g_iret hX hR dX6_told_89 ⟨_, rfl, hr 5 (by decide), hR0, rfl⟩
    · rw [if_pos (by omega)] at hR
      refine g_tin (tgt := 90) hX dX6_told_13 ⟨by decide, by decide⟩ (by decide) (by decide) rfl (by decide) ?_
      refine g_aload_n hX dX6_told_90 rfl ?_
      refine gf_X6_143 hX dX6_told_91 (by first | assumption | exact okd_part (by omega) | exact okd_bed (by omega) | exact okd_pile (by omega) | exact okd_dpile (by omega)) ?_
      refine g_iret hX hR dX6_told_94 ⟨_, rfl, hr 6 (by decide), hR0, rfl⟩
    · rw [if_pos (by omega)] at hR
      have h7 := hr 7 (by decide)
      have hd : m 8 p.toNat = 0 ∨ m 8 p.toNat = 1 := hmp.2.2.2.2.2.2
      refine g_tin (tgt := 95) hX dX6_told_13 ⟨by decide, by decide⟩ (by decide) (by decide) rfl (by decide) ?_
      refine g_aload_n hX dX6_told_95 rfl ?_
      refine gf_X6_146 hX dX6_told_96 (by first | assumption | exact okd_part (by omega) | exact okd_bed (by omega) | exact okd_pile (by omega) | exact okd_dpile (by omega)) ?_
      rw [h7]
      show G V E μ 99 _ (vi (m 8 p.toNat) :: [])
      refine g_if_eq (tgt := 106) hX dX6_told_99 (by decide) ⟨by omega, by omega⟩ (fun h8 => ?_) (fun h8 => ?_)
      · refine g_iconst hX dX6_told_106 ?_
        refine g_iret hX hR dX6_told_107 ⟨_, rfl, h8.symm, hR0, rfl⟩
      · refine g_iconst hX dX6_told_102 ?_
        refine g_goto (tgt := 107) hX dX6_told_103 (by decide) ?_
        refine g_iret hX hR dX6_told_107 ⟨_, rfl, (show (1 : Int) = m 8 p.toNat by omega), hR0, rfl⟩
    · rw [if_neg (by omega)] at hR
      refine g_tout (tgt := 108) hX dX6_told_13 ⟨by omega, by omega⟩ (by omega) (by decide) ?_
      refine g_iconst hX dX6_told_108 ?_
      refine g_iret hX hR dX6_told_109 ⟨_, rfl, rfl, hR0, rfl⟩
  · rw [if_neg h1]
    rw [if_neg (by omega)] at hR
    show G V E μ 5 _ (Value.null :: [])
    refine st_astore_nN_4_3 hX dX6_told_5 (by first | exact ck_i _ | exact ck_r _ _ | exact ck_n | exact ck_0) ?_
    refine g_aload_nN hX dX6_told_6 rfl ?_
    refine g_ifnonnullN hX dX6_told_7 ?_
    refine g_iconst hX dX6_told_10 ?_
    refine g_iret hX hR dX6_told_11 ⟨_, rfl, rfl, hR0, rfl⟩
set_option maxHeartbeats 4000000 in
theorem x_at {l : Launch} {V : VX} (hI : InjV V) {μ : Mem} {m : Mem} {c : Nat} {s i : Int} (hR0 : RelXM μ m) (hM : IM c m) (hs : in32 s) (hi : in32 i) : Ct l yX6_at cX6_at 4 (some .int) 2 V [vr V 63, vi s, vi i] μ (pI (XP μ (spAt m s i))) := by
  refine Ct_of (by decide) hI (Nat.le_of_ble_eq_true rfl) (fun E hE hX hR => ?_)
  have hX : OkX V E RX6 cX6_at 4 2 := hX
  show G V E μ 0 [some (vr V 63), some (vi s), some (vi i), none] []
  unfold spAt at hR
  obtain ⟨hi1, hi2⟩ := hi
  refine g_aload_n hX dX6_at_0 rfl ?_
  refine g_iload_n hX dX6_at_1 rfl ?_
  refine g_v1R hX lk_X6_156 dX6_at_2 (c0 := 6) ok63 ⟨_, rfl, rfl⟩ (c_stackOf hI hs) (by first | decide | omega) (by decide) rfl (Nat.le_of_ble_eq_true rfl) (fun r μ' hp => ?_)
  obtain ⟨rfl, hm⟩ := hp
  rw [hm]
  clear hm μ'
  by_cases h1 : 0 ≤ s ∧ s < 5
  · rw [if_pos h1]
    have hy := (hM.2.2.2.1.1 s.toNat (by omega)).1
    have hd := hR0.2.2.2.1 s.toNat (by omega)
    show G V E μ 5 _ (vr V (43 + s.toNat) :: [])
    refine st_astore_n_4_3 hX dX6_at_5 (by first | exact ck_i _ | exact ck_r _ _ | exact ck_n | exact ck_0) ?_
    refine g_aload_n hX dX6_at_6 rfl ?_
    refine g_ifnull hX dX6_at_7 ?_
    refine g_iload_n hX dX6_at_10 rfl ?_
    refine g_if_ge (tgt := 18) hX dX6_at_11 (by decide) ⟨by omega, by omega⟩ (fun h2 => ?_) (fun h2 => ?_)
    · rw [if_pos (by omega)] at hR
      refine g_aload_n hX dX6_at_18 rfl ?_
      refine g_iload_n hX dX6_at_19 rfl ?_
      refine g_v1I hX lk_X6_240 dX6_at_20 (c0 := 5) (by first | assumption | exact okd_part (by omega) | exact okd_bed (by omega) | exact okd_pile (by omega) | exact okd_dpile (by omega)) ⟨_, rfl, rfl⟩ (c_from (h := (m 13 s.toNat).toNat) hI (okd_pile (by omega)) (by rw [hd.1]; omega) (by omega) ⟨by omega, by omega⟩) (by first | decide | omega) (by decide) rfl (Nat.le_of_ble_eq_true rfl) (fun z μ' hp => ?_)
      obtain ⟨rfl, hm⟩ := hp
      rw [hm]
      clear hm μ'
      refine g_iret hX hR dX6_at_23 ⟨_, rfl, ?_, hR0, rfl⟩
      by_cases h3 : i < m 13 s.toNat
      · rw [if_pos (by omega), if_pos h3, show 43 + s.toNat + 5 = 48 + s.toNat by omega]
        exact hd.2 i.toNat (by omega)
      · rw [if_neg (by omega), if_neg h3]
    · rw [if_neg (by omega)] at hR
      refine g_iconst hX dX6_at_14 ?_
      refine g_goto (tgt := 23) hX dX6_at_15 (by decide) ?_
      refine g_iret hX hR dX6_at_23 ⟨_, rfl, rfl, hR0, rfl⟩
  · rw [if_neg h1]
    rw [if_neg (by omega)] at hR
    show G V E μ 5 _ (Value.null :: [])
    refine st_astore_nN_4_3 hX dX6_at_5 (by first | exact ck_i _ | exact ck_r _ _ | exact ck_n | exact ck_0) ?_
    refine g_aload_nN hX dX6_at_6 rfl ?_
    refine g_ifnullN (tgt := 14) hX dX6_at_7 (by decide) ?_
    refine g_iconst hX dX6_at_14 ?_
    refine g_goto (tgt := 23) hX dX6_at_15 (by decide) ?_
    refine g_iret hX hR dX6_at_23 ⟨_, rfl, rfl, hR0, rfl⟩
set_option maxHeartbeats 4000000 in
theorem x_bed {l : Launch} {V : VX} (hI : InjV V) {μ : Mem} {m : Mem} {c : Nat} {b w : Int} (hR0 : RelXM μ m) (hM : IM c m) (hb : in32 b) (hw : in32 w) : Ct l yX6_bed cX6_bed 4 (some .int) 2 V [vr V 63, vi b, vi w] μ (pI (XP μ (spBed m b w))) := by
  refine Ct_of (by decide) hI (Nat.le_of_ble_eq_true rfl) (fun E hE hX hR => ?_)
  have hX : OkX V E RX6 cX6_bed 4 2 := hX
  show G V E μ 0 [some (vr V 63), some (vi b), some (vi w), none] []
  unfold spBed at hR
  obtain ⟨hw1, hw2⟩ := hw
  refine g_aload_n hX dX6_bed_0 rfl ?_
  refine g_iload_n hX dX6_bed_1 rfl ?_
  refine g_v1R hX lk_X6_88 dX6_bed_2 (c0 := 6) ok63 ⟨_, rfl, rfl⟩ (c_bedOf hI hb) (by first | decide | omega) (by decide) rfl (Nat.le_of_ble_eq_true rfl) (fun r μ' hp => ?_)
  obtain ⟨rfl, hm⟩ := hp
  rw [hm]
  clear hm μ'
  by_cases h1 : 0 ≤ b ∧ b < 3
  · rw [if_pos h1]
    have hy := hM.2.2.1 b.toNat (by omega)
    have hd := hR0.2.2.1 b.toNat (by omega)
    show G V E μ 5 _ (vr V (40 + b.toNat) :: [])
    refine st_astore_n_4_3 hX dX6_bed_5 (by first | exact ck_i _ | exact ck_r _ _ | exact ck_n | exact ck_0) ?_
    refine g_aload_n hX dX6_bed_6 rfl ?_
    refine g_ifnonnull (tgt := 12) hX dX6_bed_7 (by decide) ?_
    refine g_iload_n hX dX6_bed_12 rfl ?_
    have hcs : w = 0 ∨ w = 1 ∨ w = 2 ∨ w = 3 ∨ (w < 0 ∨ 3 < w) := by omega
    rcases hcs with rfl | rfl | rfl | rfl | hcs
    · rw [if_pos (by omega)] at hR
      refine g_tin (tgt := 44) hX dX6_bed_13 ⟨by decide, by decide⟩ (by decide) (by decide) rfl (by decide) ?_
      refine g_aload_n hX dX6_bed_44 rfl ?_
      refine gf_X6_96 hX dX6_bed_45 (by first | assumption | exact okd_part (by omega) | exact okd_bed (by omega) | exact okd_pile (by omega) | exact okd_dpile (by omega)) ?_
      refine g_iret hX hR dX6_bed_48 ⟨_, rfl, hd.1, hR0, rfl⟩
    · rw [if_pos (by omega)] at hR
      refine g_tin (tgt := 49) hX dX6_bed_13 ⟨by decide, by decide⟩ (by decide) (by decide) rfl (by decide) ?_
      refine g_aload_n hX dX6_bed_49 rfl ?_
      refine gf_X6_243 hX dX6_bed_50 (by first | assumption | exact okd_part (by omega) | exact okd_bed (by omega) | exact okd_pile (by omega) | exact okd_dpile (by omega)) ?_
      refine g_iret hX hR dX6_bed_53 ⟨_, rfl, hd.2.1, hR0, rfl⟩
    · rw [if_pos (by omega)] at hR
      refine g_tin (tgt := 54) hX dX6_bed_13 ⟨by decide, by decide⟩ (by decide) (by decide) rfl (by decide) ?_
      refine g_aload_n hX dX6_bed_54 rfl ?_
      refine gf_X6_127 hX dX6_bed_55 (by first | assumption | exact okd_part (by omega) | exact okd_bed (by omega) | exact okd_pile (by omega) | exact okd_dpile (by omega)) ?_
      refine g_iret hX hR dX6_bed_58 ⟨_, rfl, hd.2.2.1, hR0, rfl⟩
    · rw [if_pos (by omega)] at hR
      refine g_tin (tgt := 59) hX dX6_bed_13 ⟨by decide, by decide⟩ (by decide) (by decide) rfl (by decide) ?_
      refine g_aload_n hX dX6_bed_59 rfl ?_
      refine gf_X6_96 hX dX6_bed_60 (by first | assumption | exact okd_part (by omega) | exact okd_bed (by omega) | exact okd_pile (by omega) | exact okd_dpile (by omega)) ?_
      rw [hd.1]
      refine g_if_ne (tgt := 70) hX dX6_bed_63 (by decide) ⟨by omega, by omega⟩ (fun h2 => ?_) (fun h2 => ?_)
      · refine g_aload_n hX dX6_bed_70 rfl ?_
        refine gf_X6_111 hX dX6_bed_71 ?_
        refine g_aload_n hX dX6_bed_74 rfl ?_
        refine gf_X6_130 hX dX6_bed_75 (by first | assumption | exact okd_part (by omega) | exact okd_bed (by omega) | exact okd_pile (by omega) | exact okd_dpile (by omega)) ?_
        refine g_isub hX dX6_bed_78 ?_
        refine g_iret hX hR dX6_bed_79 ⟨_, rfl, ?_, hR0, rfl⟩
        rw [hR0.1.2.2.2.1, hd.2.2.2]
        show _ = if m 9 b.toNat = 0 then 0 else m 0 14 - m 12 b.toNat
        rw [if_neg h2]
      · refine g_iconst hX dX6_bed_66 ?_
        refine g_goto (tgt := 79) hX dX6_bed_67 (by decide) ?_
        refine g_iret hX hR dX6_bed_79 ⟨_, rfl, ?_, hR0, rfl⟩
        show _ = if m 9 b.toNat = 0 then 0 else m 0 14 - m 12 b.toNat
        rw [if_pos h2]
    · rw [if_neg (by omega)] at hR
      refine g_tout (tgt := 80) hX dX6_bed_13 ⟨by omega, by omega⟩ (by omega) (by decide) ?_
      refine g_iconst hX dX6_bed_80 ?_
      refine g_iret hX hR dX6_bed_81 ⟨_, rfl, rfl, hR0, rfl⟩
  · rw [if_neg h1]
    rw [if_neg (by omega)] at hR
    show G V E μ 5 _ (Value.null :: [])
    refine st_astore_nN_4_3 hX dX6_bed_5 (by first | exact ck_i _ | exact ck_r _ _ | exact ck_n | exact ck_0) ?_
    refine g_aload_nN hX dX6_bed_6 rfl ?_
    refine g_ifnonnullN hX dX6_bed_7 ?_
    refine g_iconst hX dX6_bed_10 ?_
    refine g_iret hX hR dX6_bed_11 ⟨_, rfl, rfl, hR0, rfl⟩
set_option maxHeartbeats 4000000 in
theorem x_count {l : Launch} {V : VX} (hI : InjV V) {μ : Mem} {m : Mem} {c : Nat} {w : Int} (hR0 : RelXM μ m) (hM : IM c m) (hw : in32 w) : Ct l yX6_count cX6_count 2 (some .int) 3 V [vr V 63, vi w] μ (pI (XP μ (spCount m w))) := by
  refine Ct_of (by decide) hI (Nat.le_of_ble_eq_true rfl) (fun E hE hX hR => ?_)
  have hX : OkX V E RX6 cX6_count 2 3 := hX
  show G V E μ 0 [some (vr V 63), some (vi w)] []
  unfold spCount at hR
  obtain ⟨hw1, hw2⟩ := hw
  obtain ⟨N, hN40, hmN, hN⟩ := rel_n hR0 hM
  refine g_iload_n hX dX6_count_0 rfl ?_
  have hcs : w = 0 ∨ w = 1 ∨ w = 2 ∨ w = 3 ∨ (w < 0 ∨ 3 < w) := by omega
  rcases hcs with rfl | rfl | rfl | rfl | hcs
  · rw [if_pos (by omega)] at hR
    refine g_tin (tgt := 32) hX dX6_count_1 ⟨by decide, by decide⟩ (by decide) (by decide) rfl (by decide) ?_
    refine g_aload_n hX dX6_count_32 rfl ?_
    refine gf_X6_59 hX dX6_count_33 ?_
    refine g_iret hX hR dX6_count_36 ⟨_, rfl, hR0.1.1, hR0, rfl⟩
  · rw [if_pos (by omega)] at hR
    refine g_tin (tgt := 37) hX dX6_count_1 ⟨by decide, by decide⟩ (by decide) (by decide) rfl (by decide) ?_
    refine g_aload_n hX dX6_count_37 rfl ?_
    refine gf_X6_111 hX dX6_count_38 ?_
    refine g_iret hX hR dX6_count_41 ⟨_, rfl, hR0.1.2.2.2.1, hR0, rfl⟩
  · rw [if_pos (by omega)] at hR
    refine g_tin (tgt := 42) hX dX6_count_1 ⟨by decide, by decide⟩ (by decide) (by decide) rfl (by decide) ?_
    refine g_aload_n hX dX6_count_42 rfl ?_
    refine gf_X6_216 hX dX6_count_43 ?_
    refine g_iret hX hR dX6_count_46 ⟨_, rfl, hR0.1.2.2.1, hR0, rfl⟩
  · rw [if_pos (by omega)] at hR
    refine g_tin (tgt := 47) hX dX6_count_1 ⟨by decide, by decide⟩ (by decide) (by decide) rfl (by decide) ?_
    refine g_aload_n hX dX6_count_47 rfl ?_
    refine gf_X6_117 hX dX6_count_48 ?_
    refine g_iret hX hR dX6_count_51 ⟨_, rfl, hR0.1.2.1, hR0, rfl⟩
  · refine g_tout (tgt := 52) hX dX6_count_1 ⟨by omega, by omega⟩ (by omega) (by decide) ?_
    refine g_iload_n hX dX6_count_52 rfl ?_
    refine g_iconst hX dX6_count_53 ?_
    refine g_icmp_lt (tgt := 73) hX dX6_count_54 (by decide) ⟨by omega, by omega⟩ ⟨by omega, by omega⟩ (fun h1 => ?_) (fun h1 => ?_)
    · rw [if_neg (by omega)] at hR
      refine g_iconst hX dX6_count_73 ?_
      refine g_iret hX hR dX6_count_74 ⟨_, rfl, rfl, hR0, rfl⟩
    refine g_iload_n hX dX6_count_57 rfl ?_
    refine g_bipush hX dX6_count_58 rfl ?_
    refine g_icmp_gt (tgt := 73) hX dX6_count_60 (by decide) ⟨by omega, by omega⟩ ⟨by omega, by omega⟩ (fun h2 => ?_) (fun h2 => ?_)
    · rw [if_neg (by omega)] at hR
      refine g_iconst hX dX6_count_73 ?_
      refine g_iret hX hR dX6_count_74 ⟨_, rfl, rfl, hR0, rfl⟩
    rw [if_pos (by omega), if_neg (by omega), if_neg (by omega), if_neg (by omega), if_neg (by omega)] at hR
    have hwh : ∀ i, i < N → in32 (μ i 4) := fun i hi => by
      have := IM_p hM (i := i) (by omega)
      rw [xf4 hR0 (by omega) (by omega)]
      exact ⟨by omega, by omega⟩
    refine g_aload_n hX dX6_count_63 rfl ?_
    refine g_iload_n hX dX6_count_64 rfl ?_
    refine g_iconst hX dX6_count_65 ?_
    refine g_isub hX dX6_count_66 ?_
    refine g_v1I hX lk_X6_190 dX6_count_67 (c0 := 6) ok63 ⟨_, rfl, rfl⟩ (c_countWhere hI hN hN40 ⟨by omega, by omega⟩ hwh) (by first | decide | omega) (by decide) rfl (Nat.le_of_ble_eq_true rfl) (fun z μ' hp => ?_)
    obtain ⟨rfl, hm⟩ := hp
    rw [hm]
    clear hm μ'
    refine g_goto (tgt := 74) hX dX6_count_70 (by decide) ?_
    refine g_iret hX hR dX6_count_74 ⟨_, rfl, ?_, hR0, rfl⟩
    rw [cntX_W hR0 _ N (by omega) hN40, show (m 0 0).toNat = N by omega]
set_option maxHeartbeats 4000000 in
theorem c_isRight {l : Launch} {V : VX} (hI : InjV V) {μ : Mem} {m : Mem} {c : Nat} (hR0 : RelXM μ m) (hM : IM c m) : Ct l yX6_isRight cX6_isRight 4 (some .boolean) 2 V [vr V 63] μ (pI (fun z μ' => z = rightZ m (m 0 17).toNat ∧ μ' = μ)) := by
  refine Ct_of (by decide) hI (Nat.le_of_ble_eq_true rfl) (fun E hE hX hR => ?_)
  have hX : OkX V E RX6 cX6_isRight 4 2 := hX
  show G V E μ 0 [some (vr V 63), none, none, none] []
  obtain ⟨N, hN40, hmN, hN⟩ := rel_n hR0 hM
  obtain ⟨hl1, hl2, -⟩ := hM.2.2.2.2
  obtain ⟨hE1, -, -, -, hE5⟩ := hR0.2.2.2.2
  obtain ⟨h, hh⟩ : ∃ h : Nat, m 0 17 = (h : Int) := ⟨(m 0 17).toNat, by omega⟩
  have ht : (m 0 17).toNat = h := by omega
  rw [hh] at hE1 hE5 hl1 hl2
  rw [ht] at hR
  have need : ∀ k : Nat, k < h → ∃ q : Nat, q < N ∧ m 15 k = (q : Int) ∧ μ q 3 = m 4 q ∧ 0 ≤ m 4 q ∧ m 4 q ≤ 1000 := fun k hk => by
    have h1 := hl2 k (by omega)
    refine ⟨(m 15 k).toNat, by omega, by omega, rel_p (j := 3) hR0 (by omega) (by omega) (by decide), ?_⟩
    have := IM_p hM (i := (m 15 k).toNat) (by omega)
    exact this.2.2.2.1
  have loop : ∀ (d p : Nat), p + d = h → 1 ≤ p → (∀ k, k + 1 < p → m 4 (m 15 (k + 1)).toNat ≤ m 4 (m 15 k).toNat) → G V E μ 2 [some (vr V 63), some (vi (p : Int)), none, none] [] := by
    intro d
    induction d with
    | zero =>
      intro p hp hp1 hk
      refine g_iload_n hX dX6_isRight_2 rfl ?_
      refine g_aload_n hX dX6_isRight_3 rfl ?_
      refine gf_X6_30 hX dX6_isRight_4 ?_
      refine gf_X6_212 hX dX6_isRight_7 ?_
      refine g_icmp_ge (tgt := 68) hX dX6_isRight_10 (by decide) ⟨by omega, by omega⟩ ⟨by omega, by omega⟩ (fun _ => ?_) (fun hc => absurd hc (by omega))
      refine g_iconst hX dX6_isRight_68 ?_
      refine g_zret hX hR dX6_isRight_69 (Or.inr rfl) ⟨_, rfl, (rightZ_1 m h (by rw [← hp]; exact hk)).symm, rfl⟩
    | succ d ih =>
      intro p hp hp1 hk
      obtain ⟨q1, hq1, e1, n1, r1⟩ := need (p - 1) (by omega)
      obtain ⟨q2, hq2, e2, n2, r2⟩ := need p (by omega)
      refine g_iload_n hX dX6_isRight_2 rfl ?_
      refine g_aload_n hX dX6_isRight_3 rfl ?_
      refine gf_X6_30 hX dX6_isRight_4 ?_
      refine gf_X6_212 hX dX6_isRight_7 ?_
      refine g_icmp_ge (tgt := 68) hX dX6_isRight_10 (by decide) ⟨by omega, by omega⟩ ⟨by omega, by omega⟩ (fun hc => absurd hc (by omega)) (fun _ => ?_)
      refine g_aload_n hX dX6_isRight_13 rfl ?_
      refine g_aload_n hX dX6_isRight_14 rfl ?_
      refine gf_X6_30 hX dX6_isRight_15 ?_
      refine g_iload_n hX dX6_isRight_18 rfl ?_
      refine g_iconst hX dX6_isRight_19 ?_
      refine g_isub hX dX6_isRight_20 ?_
      rw [show (p : Int) - 1 = ((p - 1 : Nat) : Int) by omega]
      refine g_v1I hX lk_X6_213 dX6_isRight_21 (c0 := 2) ok67 ⟨_, rfl, rfl⟩ (c_partOn (h := h) hI hE1 (by omega) (by omega)) (by first | decide | omega) (by decide) rfl (Nat.le_of_ble_eq_true rfl) (fun z μ' hp => ?_)
      obtain ⟨rfl, hm⟩ := hp
      rw [hm]
      clear hm μ'
      rw [hE5 (p - 1) (by omega), e1]
      refine g_v1R hX lk_X6_66 dX6_isRight_24 (c0 := 6) ok63 ⟨_, rfl, rfl⟩ (c_partOf hI hN hN40 ⟨by omega, by omega⟩) (by first | decide | omega) (by decide) rfl (Nat.le_of_ble_eq_true rfl) (fun r μ' hp => ?_)
      obtain ⟨rfl, hm⟩ := hp
      rw [hm]
      clear hm μ'
      rw [if_pos (by omega), show ((q1 : Int)).toNat = q1 from rfl]
      show G V E μ 27 _ (vr V q1 :: [])
      refine st_astore_n_4_2 hX dX6_isRight_27 (by first | exact ck_i _ | exact ck_r _ _ | exact ck_n | exact ck_0) ?_
      refine g_aload_n hX dX6_isRight_28 rfl ?_
      refine g_aload_n hX dX6_isRight_29 rfl ?_
      refine gf_X6_30 hX dX6_isRight_30 ?_
      refine g_iload_n hX dX6_isRight_33 rfl ?_
      refine g_v1I hX lk_X6_213 dX6_isRight_34 (c0 := 2) ok67 ⟨_, rfl, rfl⟩ (c_partOn (h := h) hI hE1 (by omega) (by omega)) (by first | decide | omega) (by decide) rfl (Nat.le_of_ble_eq_true rfl) (fun z μ' hp => ?_)
      obtain ⟨rfl, hm⟩ := hp
      rw [hm]
      clear hm μ'
      rw [hE5 p (by omega), e2]
      refine g_v1R hX lk_X6_66 dX6_isRight_37 (c0 := 6) ok63 ⟨_, rfl, rfl⟩ (c_partOf hI hN hN40 ⟨by omega, by omega⟩) (by first | decide | omega) (by decide) rfl (Nat.le_of_ble_eq_true rfl) (fun r μ' hp => ?_)
      obtain ⟨rfl, hm⟩ := hp
      rw [hm]
      clear hm μ'
      rw [if_pos (by omega), show ((q2 : Int)).toNat = q2 from rfl]
      show G V E μ 40 _ (vr V q2 :: [])
      refine st_astore_n_4_3 hX dX6_isRight_40 (by first | exact ck_i _ | exact ck_r _ _ | exact ck_n | exact ck_0) ?_
      refine g_aload_n hX dX6_isRight_41 rfl ?_
      refine g_ifnull hX dX6_isRight_42 ?_
      refine g_aload_n hX dX6_isRight_45 rfl ?_
      refine g_ifnull hX dX6_isRight_46 ?_
      refine g_aload_n hX dX6_isRight_49 rfl ?_
      refine gf_X6_70 hX dX6_isRight_50 (by first | assumption | exact okd_part (by omega) | exact okd_bed (by omega) | exact okd_pile (by omega) | exact okd_dpile (by omega)) ?_
      refine g_aload_n hX dX6_isRight_53 rfl ?_
      refine gf_X6_70 hX dX6_isRight_54 (by first | assumption | exact okd_part (by omega) | exact okd_bed (by omega) | exact okd_pile (by omega) | exact okd_dpile (by omega)) ?_
      rw [n1, n2]
      refine g_icmp_le (tgt := 62) hX dX6_isRight_57 (by decide) ⟨by omega, by omega⟩ ⟨by omega, by omega⟩ (fun h3 => ?_) (fun h3 => ?_)
      · refine st_iinc_4_1 hX dX6_isRight_62 (by first | exact ck_i _ | exact ck_r _ _ | exact ck_n | exact ck_0) ?_
        refine g_goto (tgt := 2) hX dX6_isRight_65 (by decide) ?_
        refine fg_4_2 ?_
        refine fg_4_3 ?_
        refine ih (p + 1) (by omega) (by omega) (fun k hk2 => ?_)
        by_cases hkp : k + 1 = p
        · rw [hkp, e2, show k = p - 1 by omega, e1]
          exact h3
        · exact hk k (by omega)
      · refine g_iconst hX dX6_isRight_60 ?_
        refine g_zret hX hR dX6_isRight_61 (Or.inl rfl) ⟨_, rfl, ?_, rfl⟩
        refine (rightZ_0 m h (p - 1) (by omega) ?_).symm
        rw [show p - 1 + 1 = p by omega, e2, e1]
        exact h3
  refine g_iconst hX dX6_isRight_0 ?_
  refine st_istore_n_4_1 hX dX6_isRight_1 (by first | exact ck_i _ | exact ck_r _ _ | exact ck_n | exact ck_0) ?_
  by_cases h0 : h = 0
  · rw [h0] at hR
    refine g_iload_n hX dX6_isRight_2 rfl ?_
    refine g_aload_n hX dX6_isRight_3 rfl ?_
    refine gf_X6_30 hX dX6_isRight_4 ?_
    refine gf_X6_212 hX dX6_isRight_7 ?_
    refine g_icmp_ge (tgt := 68) hX dX6_isRight_10 (by decide) ⟨by omega, by omega⟩ ⟨by omega, by omega⟩ (fun _ => ?_) (fun hc => absurd hc (by omega))
    refine g_iconst hX dX6_isRight_68 ?_
    refine g_zret hX hR dX6_isRight_69 (Or.inr rfl) ⟨_, rfl, rfl, rfl⟩
  · exact loop (h - 1) 1 (by omega) (by omega) (fun k hk => absurd hk (by omega))
set_option maxHeartbeats 4000000 in
theorem x_lorry {l : Launch} {V : VX} (hI : InjV V) {μ : Mem} {m : Mem} {c : Nat} {w : Int} (hR0 : RelXM μ m) (hM : IM c m) (hw : in32 w) : Ct l yX6_lorry cX6_lorry 2 (some .int) 3 V [vr V 63, vi w] μ (pI (XP μ (spLorry m w))) := by
  refine Ct_of (by decide) hI (Nat.le_of_ble_eq_true rfl) (fun E hE hX hR => ?_)
  have hX : OkX V E RX6 cX6_lorry 2 3 := hX
  show G V E μ 0 [some (vr V 63), some (vi w)] []
  unfold spLorry at hR
  obtain ⟨hw1, hw2⟩ := hw
  obtain ⟨e1, e2, e3, e4, -⟩ := hR0.2.2.2.2
  refine g_iload_n hX dX6_lorry_0 rfl ?_
  have hcs : w = 0 ∨ w = 1 ∨ w = 2 ∨ w = 3 ∨ w = 4 ∨ (w < 0 ∨ 4 < w) := by omega
  rcases hcs with rfl | rfl | rfl | rfl | rfl | hcs
  · refine g_tin (tgt := 36) hX dX6_lorry_1 ⟨by decide, by decide⟩ (by decide) (by decide) rfl (by decide) ?_
    refine g_aload_n hX dX6_lorry_36 rfl ?_
    refine gf_X6_30 hX dX6_lorry_37 ?_
    refine gf_X6_212 hX dX6_lorry_40 ?_
    refine g_iret hX hR dX6_lorry_43 ⟨_, rfl, e1, hR0, rfl⟩
  · refine g_tin (tgt := 44) hX dX6_lorry_1 ⟨by decide, by decide⟩ (by decide) (by decide) rfl (by decide) ?_
    refine g_aload_n hX dX6_lorry_44 rfl ?_
    refine gf_X6_30 hX dX6_lorry_45 ?_
    refine gf_X6_220 hX dX6_lorry_48 ?_
    refine g_iret hX hR dX6_lorry_51 ⟨_, rfl, e2, hR0, rfl⟩
  · refine g_tin (tgt := 52) hX dX6_lorry_1 ⟨by decide, by decide⟩ (by decide) (by decide) rfl (by decide) ?_
    refine g_aload_n hX dX6_lorry_52 rfl ?_
    refine gf_X6_30 hX dX6_lorry_53 ?_
    refine gf_X6_221 hX dX6_lorry_56 ?_
    refine g_iret hX hR dX6_lorry_59 ⟨_, rfl, e3, hR0, rfl⟩
  · refine g_tin (tgt := 60) hX dX6_lorry_1 ⟨by decide, by decide⟩ (by decide) (by decide) rfl (by decide) ?_
    refine g_aload_n hX dX6_lorry_60 rfl ?_
    refine gf_X6_30 hX dX6_lorry_61 ?_
    refine gf_X6_224 hX dX6_lorry_64 ?_
    refine g_iret hX hR dX6_lorry_67 ⟨_, rfl, e4, hR0, rfl⟩
  · refine g_tin (tgt := 68) hX dX6_lorry_1 ⟨by decide, by decide⟩ (by decide) (by decide) rfl (by decide) ?_
    refine g_aload_n hX dX6_lorry_68 rfl ?_
    refine g_v0I hX lk_X6_227 dX6_lorry_69 (c0 := 6) ok63 ⟨_, rfl, rfl⟩ (c_isRight hI hR0 hM) (by first | decide | omega) (by decide) rfl (Nat.le_of_ble_eq_true rfl) (fun z μ' hp => ?_)
    obtain ⟨rfl, hm⟩ := hp
    rw [hm]
    clear hm μ'
    rcases rightZ_01 m (m 0 17).toNat with h | h
    · rw [h]
      refine g_if_eq (tgt := 79) hX dX6_lorry_72 (by decide) ⟨by omega, by omega⟩ (fun _ => ?_) (fun hc => absurd hc (by omega))
      refine g_iconst hX dX6_lorry_79 ?_
      refine g_iret hX hR dX6_lorry_80 ⟨_, rfl, h.symm, hR0, rfl⟩
    · rw [h]
      refine g_if_eq (tgt := 79) hX dX6_lorry_72 (by decide) ⟨by omega, by omega⟩ (fun hc => absurd hc (by omega)) (fun _ => ?_)
      refine g_iconst hX dX6_lorry_75 ?_
      refine g_goto (tgt := 80) hX dX6_lorry_76 (by decide) ?_
      refine g_iret hX hR dX6_lorry_80 ⟨_, rfl, h.symm, hR0, rfl⟩
  · refine g_tout (tgt := 81) hX dX6_lorry_1 ⟨by omega, by omega⟩ (by omega) (by decide) ?_
    refine g_iconst hX dX6_lorry_81 ?_
    refine g_iret hX hR dX6_lorry_82 ⟨_, rfl, ?_, hR0, rfl⟩
    show (-1 : Int) = if w = 0 then _ else _
    rw [if_neg (by omega), if_neg (by omega), if_neg (by omega), if_neg (by omega), if_neg (by omega)]
end
