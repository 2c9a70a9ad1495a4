section
-- PART A: goes FIRST, ahead of the names: the tables' words, and 'selects' of the private methods out of them =====
/-- a private method of a class that the tables say can be made, by its rows of tables_1 -/
def lw_okq (q : MethodName × Nat) : Prop := (q.1.cls ≠ "java/lang/invoke/MethodHandle" ∧ q.1.cls ≠ "java/lang/invoke/VarHandle") ∧ Cond.instantiable q.1.cls q.2 ∈ tables_1 ∧ Cond.privateMethod q.1 ∈ tables_1 ∧ Cond.instanceMethod q.1 ∈ tables_1
theorem lw_p0 : lw_okq (⟨"WakefulBed$Page", "fits", "(I)Z"⟩, 2) := ⟨⟨by decide +kernel, by decide +kernel⟩, List.mem_of_getElem? (i := 18) (by decide +kernel), List.mem_of_getElem? (i := 184) (by decide +kernel), List.mem_of_getElem? (i := 185) (by decide +kernel)⟩
theorem lw_p1 : lw_okq (⟨"WakefulBed$Night", "mayLieIn", "(I)Z"⟩, 7) := ⟨⟨by decide +kernel, by decide +kernel⟩, List.mem_of_getElem? (i := 32) (by decide +kernel), List.mem_of_getElem? (i := 265) (by decide +kernel), List.mem_of_getElem? (i := 266) (by decide +kernel)⟩
theorem lw_p2 : lw_okq (⟨"WakefulBed$Guess", "isAsSeen", "(LWakefulBed$Seen;I)Z"⟩, 4) := ⟨⟨by decide +kernel, by decide +kernel⟩, List.mem_of_getElem? (i := 96) (by decide +kernel), List.mem_of_getElem? (i := 286) (by decide +kernel), List.mem_of_getElem? (i := 287) (by decide +kernel)⟩
theorem lw_p3 : lw_okq (⟨"WakefulBed$Night", "settle", "(I)V"⟩, 7) := ⟨⟨by decide +kernel, by decide +kernel⟩, List.mem_of_getElem? (i := 32) (by decide +kernel), List.mem_of_getElem? (i := 301) (by decide +kernel), List.mem_of_getElem? (i := 302) (by decide +kernel)⟩
theorem lw_p4 : lw_okq (⟨"WakefulBed$Guess", "leftAtWorst", "(I)I"⟩, 4) := ⟨⟨by decide +kernel, by decide +kernel⟩, List.mem_of_getElem? (i := 96) (by decide +kernel), List.mem_of_getElem? (i := 318) (by decide +kernel), List.mem_of_getElem? (i := 319) (by decide +kernel)⟩
theorem lw_p5 : lw_okq (⟨"WakefulBed$Guess", "leftBy", "(II)I"⟩, 4) := ⟨⟨by decide +kernel, by decide +kernel⟩, List.mem_of_getElem? (i := 96) (by decide +kernel), List.mem_of_getElem? (i := 322) (by decide +kernel), List.mem_of_getElem? (i := 323) (by decide +kernel)⟩
theorem lw_p6 : lw_okq (⟨"WakefulBed", "hasHouse", "()Z"⟩, 11) := ⟨⟨by decide +kernel, by decide +kernel⟩, List.mem_of_getElem? (i := 10) (by decide +kernel), List.mem_of_getElem? (i := 338) (by decide +kernel), List.mem_of_getElem? (i := 339) (by decide +kernel)⟩
theorem lw_p7 : lw_okq (⟨"WakefulBed", "fewestCups", "(II)I"⟩, 11) := ⟨⟨by decide +kernel, by decide +kernel⟩, List.mem_of_getElem? (i := 10) (by decide +kernel), List.mem_of_getElem? (i := 371) (by decide +kernel), List.mem_of_getElem? (i := 372) (by decide +kernel)⟩
theorem lw_p8 : lw_okq (⟨"WakefulBed$LecturePlan", "most", "(LWakefulBed$Night;III)I"⟩, 3) := ⟨⟨by decide +kernel, by decide +kernel⟩, List.mem_of_getElem? (i := 77) (by decide +kernel), List.mem_of_getElem? (i := 390) (by decide +kernel), List.mem_of_getElem? (i := 391) (by decide +kernel)⟩
theorem lw_p9 : lw_okq (⟨"WakefulBed$Night", "hoursAwakeInBed", "(I)I"⟩, 7) := ⟨⟨by decide +kernel, by decide +kernel⟩, List.mem_of_getElem? (i := 32) (by decide +kernel), List.mem_of_getElem? (i := 419) (by decide +kernel), List.mem_of_getElem? (i := 420) (by decide +kernel)⟩
theorem lw_p10 : lw_okq (⟨"WakefulBedModel", "read", "()I"⟩, 27) := ⟨⟨by decide +kernel, by decide +kernel⟩, List.mem_of_getElem? (i := 497) (by decide +kernel), List.mem_of_getElem? (i := 601) (by decide +kernel), List.mem_of_getElem? (i := 602) (by decide +kernel)⟩
theorem lw_p11 : lw_okq (⟨"WakefulBedModel", "isFigure", "(III)Z"⟩, 27) := ⟨⟨by decide +kernel, by decide +kernel⟩, List.mem_of_getElem? (i := 497) (by decide +kernel), List.mem_of_getElem? (i := 608) (by decide +kernel), List.mem_of_getElem? (i := 609) (by decide +kernel)⟩
theorem lw_p12 : lw_okq (⟨"WakefulBedModel", "isLodger", "(I)Z"⟩, 27) := ⟨⟨by decide +kernel, by decide +kernel⟩, List.mem_of_getElem? (i := 497) (by decide +kernel), List.mem_of_getElem? (i := 620) (by decide +kernel), List.mem_of_getElem? (i := 621) (by decide +kernel)⟩
theorem lw_p13 : lw_okq (⟨"WakefulBedModel", "lodgerNow", "(II)I"⟩, 27) := ⟨⟨by decide +kernel, by decide +kernel⟩, List.mem_of_getElem? (i := 497) (by decide +kernel), List.mem_of_getElem? (i := 624) (by decide +kernel), List.mem_of_getElem? (i := 625) (by decide +kernel)⟩
theorem lw_p14 : lw_okq (⟨"WakefulBedModel", "whose", "()I"⟩, 27) := ⟨⟨by decide +kernel, by decide +kernel⟩, List.mem_of_getElem? (i := 497) (by decide +kernel), List.mem_of_getElem? (i := 628) (by decide +kernel), List.mem_of_getElem? (i := 629) (by decide +kernel)⟩
theorem lw_p15 : lw_okq (⟨"WakefulBedModel", "howTired", "(I)I"⟩, 27) := ⟨⟨by decide +kernel, by decide +kernel⟩, List.mem_of_getElem? (i := 497) (by decide +kernel), List.mem_of_getElem? (i := 632) (by decide +kernel), List.mem_of_getElem? (i := 633) (by decide +kernel)⟩
def lw_privs_1 : List (MethodName × Nat) := [(⟨"WakefulBed$Page", "fits", "(I)Z"⟩, 2), (⟨"WakefulBed$Night", "mayLieIn", "(I)Z"⟩, 7), (⟨"WakefulBed$Guess", "isAsSeen", "(LWakefulBed$Seen;I)Z"⟩, 4), (⟨"WakefulBed$Night", "settle", "(I)V"⟩, 7), (⟨"WakefulBed$Guess", "leftAtWorst", "(I)I"⟩, 4), (⟨"WakefulBed$Guess", "leftBy", "(II)I"⟩, 4), (⟨"WakefulBed", "hasHouse", "()Z"⟩, 11), (⟨"WakefulBed", "fewestCups", "(II)I"⟩, 11), (⟨"WakefulBed$LecturePlan", "most", "(LWakefulBed$Night;III)I"⟩, 3), (⟨"WakefulBed$Night", "hoursAwakeInBed", "(I)I"⟩, 7), (⟨"WakefulBedModel", "read", "()I"⟩, 27), (⟨"WakefulBedModel", "isFigure", "(III)Z"⟩, 27), (⟨"WakefulBedModel", "isLodger", "(I)Z"⟩, 27), (⟨"WakefulBedModel", "lodgerNow", "(II)I"⟩, 27), (⟨"WakefulBedModel", "whose", "()I"⟩, 27), (⟨"WakefulBedModel", "howTired", "(I)I"⟩, 27)]
theorem lw_r1 : ∀ q ∈ lw_privs_1, lw_okq q := List.forall_mem_cons.mpr ⟨lw_p0, List.forall_mem_cons.mpr ⟨lw_p1, List.forall_mem_cons.mpr ⟨lw_p2, List.forall_mem_cons.mpr ⟨lw_p3, List.forall_mem_cons.mpr ⟨lw_p4, List.forall_mem_cons.mpr ⟨lw_p5, List.forall_mem_cons.mpr ⟨lw_p6, List.forall_mem_cons.mpr ⟨lw_p7, List.forall_mem_cons.mpr ⟨lw_p8, List.forall_mem_cons.mpr ⟨lw_p9, List.forall_mem_cons.mpr ⟨lw_p10, List.forall_mem_cons.mpr ⟨lw_p11, List.forall_mem_cons.mpr ⟨lw_p12, List.forall_mem_cons.mpr ⟨lw_p13, List.forall_mem_cons.mpr ⟨lw_p14, List.forall_mem_cons.mpr ⟨lw_p15, fun _ h => absurd h List.not_mem_nil⟩⟩⟩⟩⟩⟩⟩⟩⟩⟩⟩⟩⟩⟩⟩⟩
theorem lw_p16 : lw_okq (⟨"WakefulBedModel", "layTired", "(I)V"⟩, 27) := ⟨⟨by decide +kernel, by decide +kernel⟩, List.mem_of_getElem? (i := 497) (by decide +kernel), List.mem_of_getElem? (i := 636) (by decide +kernel), List.mem_of_getElem? (i := 637) (by decide +kernel)⟩
theorem lw_p17 : lw_okq (⟨"WakefulBedModel", "begin", "()V"⟩, 27) := ⟨⟨by decide +kernel, by decide +kernel⟩, List.mem_of_getElem? (i := 497) (by decide +kernel), List.mem_of_getElem? (i := 640) (by decide +kernel), List.mem_of_getElem? (i := 641) (by decide +kernel)⟩
theorem lw_p18 : lw_okq (⟨"WakefulBedModel", "save", "(I)V"⟩, 27) := ⟨⟨by decide +kernel, by decide +kernel⟩, List.mem_of_getElem? (i := 497) (by decide +kernel), List.mem_of_getElem? (i := 644) (by decide +kernel), List.mem_of_getElem? (i := 645) (by decide +kernel)⟩
theorem lw_p19 : lw_okq (⟨"WakefulBedModel", "load", "(I)V"⟩, 27) := ⟨⟨by decide +kernel, by decide +kernel⟩, List.mem_of_getElem? (i := 497) (by decide +kernel), List.mem_of_getElem? (i := 648) (by decide +kernel), List.mem_of_getElem? (i := 649) (by decide +kernel)⟩
theorem lw_p20 : lw_okq (⟨"WakefulBedModel", "goHour", "()V"⟩, 27) := ⟨⟨by decide +kernel, by decide +kernel⟩, List.mem_of_getElem? (i := 497) (by decide +kernel), List.mem_of_getElem? (i := 652) (by decide +kernel), List.mem_of_getElem? (i := 653) (by decide +kernel)⟩
theorem lw_p21 : lw_okq (⟨"WakefulBedModel", "end", "()V"⟩, 27) := ⟨⟨by decide +kernel, by decide +kernel⟩, List.mem_of_getElem? (i := 497) (by decide +kernel), List.mem_of_getElem? (i := 659) (by decide +kernel), List.mem_of_getElem? (i := 660) (by decide +kernel)⟩
theorem lw_p22 : lw_okq (⟨"WakefulBedModel", "fitting", "()I"⟩, 27) := ⟨⟨by decide +kernel, by decide +kernel⟩, List.mem_of_getElem? (i := 497) (by decide +kernel), List.mem_of_getElem? (i := 663) (by decide +kernel), List.mem_of_getElem? (i := 664) (by decide +kernel)⟩
theorem lw_p23 : lw_okq (⟨"WakefulBedModel", "lookOf", "(I)I"⟩, 27) := ⟨⟨by decide +kernel, by decide +kernel⟩, List.mem_of_getElem? (i := 497) (by decide +kernel), List.mem_of_getElem? (i := 667) (by decide +kernel), List.mem_of_getElem? (i := 668) (by decide +kernel)⟩
theorem lw_p24 : lw_okq (⟨"WakefulBedModel", "worstBehind", "(II)I"⟩, 27) := ⟨⟨by decide +kernel, by decide +kernel⟩, List.mem_of_getElem? (i := 497) (by decide +kernel), List.mem_of_getElem? (i := 672) (by decide +kernel), List.mem_of_getElem? (i := 673) (by decide +kernel)⟩
theorem lw_p25 : lw_okq (⟨"WakefulBedModel", "drink", "(I)V"⟩, 27) := ⟨⟨by decide +kernel, by decide +kernel⟩, List.mem_of_getElem? (i := 497) (by decide +kernel), List.mem_of_getElem? (i := 691) (by decide +kernel), List.mem_of_getElem? (i := 692) (by decide +kernel)⟩
theorem lw_p26 : lw_okq (⟨"WakefulBedModel", "hearLecture", "(I)V"⟩, 27) := ⟨⟨by decide +kernel, by decide +kernel⟩, List.mem_of_getElem? (i := 497) (by decide +kernel), List.mem_of_getElem? (i := 699) (by decide +kernel), List.mem_of_getElem? (i := 700) (by decide +kernel)⟩
theorem lw_p27 : lw_okq (⟨"WakefulBedModel", "sleeping", "()I"⟩, 27) := ⟨⟨by decide +kernel, by decide +kernel⟩, List.mem_of_getElem? (i := 497) (by decide +kernel), List.mem_of_getElem? (i := 707) (by decide +kernel), List.mem_of_getElem? (i := 708) (by decide +kernel)⟩
theorem lw_p28 : lw_okq (⟨"WakefulBedModel", "cupsNow", "(II)I"⟩, 27) := ⟨⟨by decide +kernel, by decide +kernel⟩, List.mem_of_getElem? (i := 497) (by decide +kernel), List.mem_of_getElem? (i := 715) (by decide +kernel), List.mem_of_getElem? (i := 716) (by decide +kernel)⟩
theorem lw_p29 : lw_okq (⟨"WakefulBedModel", "isEnough", "(III)Z"⟩, 27) := ⟨⟨by decide +kernel, by decide +kernel⟩, List.mem_of_getElem? (i := 497) (by decide +kernel), List.mem_of_getElem? (i := 719) (by decide +kernel), List.mem_of_getElem? (i := 720) (by decide +kernel)⟩
theorem lw_p30 : lw_okq (⟨"WakefulBedModel", "lecturesNow", "(III)I"⟩, 27) := ⟨⟨by decide +kernel, by decide +kernel⟩, List.mem_of_getElem? (i := 497) (by decide +kernel), List.mem_of_getElem? (i := 727) (by decide +kernel), List.mem_of_getElem? (i := 728) (by decide +kernel)⟩
theorem lw_p31 : lw_okq (⟨"WakefulBedModel", "hoursBy", "(III)I"⟩, 27) := ⟨⟨by decide +kernel, by decide +kernel⟩, List.mem_of_getElem? (i := 497) (by decide +kernel), List.mem_of_getElem? (i := 731) (by decide +kernel), List.mem_of_getElem? (i := 732) (by decide +kernel)⟩
def lw_privs_2 : List (MethodName × Nat) := [(⟨"WakefulBedModel", "layTired", "(I)V"⟩, 27), (⟨"WakefulBedModel", "begin", "()V"⟩, 27), (⟨"WakefulBedModel", "save", "(I)V"⟩, 27), (⟨"WakefulBedModel", "load", "(I)V"⟩, 27), (⟨"WakefulBedModel", "goHour", "()V"⟩, 27), (⟨"WakefulBedModel", "end", "()V"⟩, 27), (⟨"WakefulBedModel", "fitting", "()I"⟩, 27), (⟨"WakefulBedModel", "lookOf", "(I)I"⟩, 27), (⟨"WakefulBedModel", "worstBehind", "(II)I"⟩, 27), (⟨"WakefulBedModel", "drink", "(I)V"⟩, 27), (⟨"WakefulBedModel", "hearLecture", "(I)V"⟩, 27), (⟨"WakefulBedModel", "sleeping", "()I"⟩, 27), (⟨"WakefulBedModel", "cupsNow", "(II)I"⟩, 27), (⟨"WakefulBedModel", "isEnough", "(III)Z"⟩, 27), (⟨"WakefulBedModel", "lecturesNow", "(III)I"⟩, 27), (⟨"WakefulBedModel", "hoursBy", "(III)I"⟩, 27)]
theorem lw_r2 : ∀ q ∈ lw_privs_2, lw_okq q := List.forall_mem_cons.mpr ⟨lw_p16, List.forall_mem_cons.mpr ⟨lw_p17, List.forall_mem_cons.mpr ⟨lw_p18, List.forall_mem_cons.mpr ⟨lw_p19, List.forall_mem_cons.mpr ⟨lw_p20, List.forall_mem_cons.mpr ⟨lw_p21, List.forall_mem_cons.mpr ⟨lw_p22, List.forall_mem_cons.mpr ⟨lw_p23, List.forall_mem_cons.mpr ⟨lw_p24, List.forall_mem_cons.mpr ⟨lw_p25, List.forall_mem_cons.mpr ⟨lw_p26, List.forall_mem_cons.mpr ⟨lw_p27, List.forall_mem_cons.mpr ⟨lw_p28, List.forall_mem_cons.mpr ⟨lw_p29, List.forall_mem_cons.mpr ⟨lw_p30, List.forall_mem_cons.mpr ⟨lw_p31, fun _ h => absurd h List.not_mem_nil⟩⟩⟩⟩⟩⟩⟩⟩⟩⟩⟩⟩⟩⟩⟩⟩
theorem lw_p32 : lw_okq (⟨"WakefulBedModel", "sundayNow", "(I)I"⟩, 27) := ⟨⟨by decide +kernel, by decide +kernel⟩, List.mem_of_getElem? (i := 497) (by decide +kernel), List.mem_of_getElem? (i := 739) (by decide +kernel), List.mem_of_getElem? (i := 740) (by decide +kernel)⟩
theorem lw_p33 : lw_okq (⟨"WakefulBedModel", "mayLie", "(I)Z"⟩, 27) := ⟨⟨by decide +kernel, by decide +kernel⟩, List.mem_of_getElem? (i := 497) (by decide +kernel), List.mem_of_getElem? (i := 743) (by decide +kernel), List.mem_of_getElem? (i := 744) (by decide +kernel)⟩
theorem lw_p34 : lw_okq (⟨"WakefulBedModel", "awakeFor", "(II)I"⟩, 27) := ⟨⟨by decide +kernel, by decide +kernel⟩, List.mem_of_getElem? (i := 497) (by decide +kernel), List.mem_of_getElem? (i := 747) (by decide +kernel), List.mem_of_getElem? (i := 748) (by decide +kernel)⟩
theorem lw_p35 : lw_okq (⟨"WakefulBedModel", "nightsNow", "(III)I"⟩, 27) := ⟨⟨by decide +kernel, by decide +kernel⟩, List.mem_of_getElem? (i := 497) (by decide +kernel), List.mem_of_getElem? (i := 763) (by decide +kernel), List.mem_of_getElem? (i := 764) (by decide +kernel)⟩
theorem lw_p36 : lw_okq (⟨"WakefulBedModel", "draw", "(I)I"⟩, 27) := ⟨⟨by decide +kernel, by decide +kernel⟩, List.mem_of_getElem? (i := 497) (by decide +kernel), List.mem_of_getElem? (i := 767) (by decide +kernel), List.mem_of_getElem? (i := 768) (by decide +kernel)⟩
theorem lw_p37 : lw_okq (⟨"WakefulBedModel", "howMany", "(I)I"⟩, 27) := ⟨⟨by decide +kernel, by decide +kernel⟩, List.mem_of_getElem? (i := 497) (by decide +kernel), List.mem_of_getElem? (i := 787) (by decide +kernel), List.mem_of_getElem? (i := 788) (by decide +kernel)⟩
theorem lw_p38 : lw_okq (⟨"WakefulBedModel", "tiredAll", "()I"⟩, 27) := ⟨⟨by decide +kernel, by decide +kernel⟩, List.mem_of_getElem? (i := 497) (by decide +kernel), List.mem_of_getElem? (i := 791) (by decide +kernel), List.mem_of_getElem? (i := 792) (by decide +kernel)⟩
theorem lw_p39 : lw_okq (⟨"WakefulBedModel", "mix", "(J)V"⟩, 27) := ⟨⟨by decide +kernel, by decide +kernel⟩, List.mem_of_getElem? (i := 497) (by decide +kernel), List.mem_of_getElem? (i := 800) (by decide +kernel), List.mem_of_getElem? (i := 801) (by decide +kernel)⟩
def lw_privs_3 : List (MethodName × Nat) := [(⟨"WakefulBedModel", "sundayNow", "(I)I"⟩, 27), (⟨"WakefulBedModel", "mayLie", "(I)Z"⟩, 27), (⟨"WakefulBedModel", "awakeFor", "(II)I"⟩, 27), (⟨"WakefulBedModel", "nightsNow", "(III)I"⟩, 27), (⟨"WakefulBedModel", "draw", "(I)I"⟩, 27), (⟨"WakefulBedModel", "howMany", "(I)I"⟩, 27), (⟨"WakefulBedModel", "tiredAll", "()I"⟩, 27), (⟨"WakefulBedModel", "mix", "(J)V"⟩, 27)]
theorem lw_r3 : ∀ q ∈ lw_privs_3, lw_okq q := List.forall_mem_cons.mpr ⟨lw_p32, List.forall_mem_cons.mpr ⟨lw_p33, List.forall_mem_cons.mpr ⟨lw_p34, List.forall_mem_cons.mpr ⟨lw_p35, List.forall_mem_cons.mpr ⟨lw_p36, List.forall_mem_cons.mpr ⟨lw_p37, List.forall_mem_cons.mpr ⟨lw_p38, List.forall_mem_cons.mpr ⟨lw_p39, fun _ h => absurd h List.not_mem_nil⟩⟩⟩⟩⟩⟩⟩⟩
def lw_privs : List (MethodName × Nat) := lw_privs_1 ++ (lw_privs_2 ++ (lw_privs_3))
def lw_tbl : List Cond := k2_sels lw_privs ++ tables_1
theorem lw_privs_ok : ∀ q ∈ lw_privs, lw_okq q := by
  show ∀ q ∈ lw_privs_1 ++ (lw_privs_2 ++ (lw_privs_3)), lw_okq q
  exact List.forall_mem_append.mpr ⟨lw_r1, List.forall_mem_append.mpr ⟨lw_r2, lw_r3⟩⟩
end
section
def RX0 : String := "WakefulBed$Guess"
def TX0 : u_T := fun k => match k with
  | 0 => ("WakefulBed$Guess", "would", "LWakefulBed$Night;", true)
  | 1 => ("WakefulBed$Guess", "beds", "[[I", true)
  | 2 => ("WakefulBed$Guess", "lodgers", "I", false)
  | _ => ("WakefulBed$Guess", "bits", "I", false)
def tyX0 : Nat → FieldType := fun k => match k with
  | 0 => .object "WakefulBed$Night"
  | 1 => .array (.array .int)
  | 2 => .int
  | _ => .int
theorem nmX0 : ∀ a, a < 4 → ∀ b, b < 4 → a ≠ b → (TX0 a).2.1 ≠ (TX0 b).2.1 := by decide +kernel
theorem tyX0_ok : ∀ k, k < 4 → parseFieldDescriptor (TX0 k).2.2.1 = some (tyX0 k) := by decide +kernel
abbrev cX0_init : ByteArray := prog_2_method_1_code
def yX0_init : MethodName := ⟨RX0, "<init>", "()V"⟩
abbrev cX0_possible : ByteArray := prog_2_method_2_code
def yX0_possible : MethodName := ⟨RX0, "possible", "()I"⟩
abbrev cX0_make : ByteArray := prog_2_method_3_code
def yX0_make : MethodName := ⟨RX0, "make", "(LWakefulBed$Night;LWakefulBed$Seen;I)V"⟩
abbrev cX0_bestLook : ByteArray := prog_2_method_4_code
def yX0_bestLook : MethodName := ⟨RX0, "bestLook", "()I"⟩
abbrev cX0_isAsSeen : ByteArray := prog_2_method_5_code
def yX0_isAsSeen : MethodName := ⟨RX0, "isAsSeen", "(LWakefulBed$Seen;I)Z"⟩
abbrev cX0_leftAtWorst : ByteArray := prog_2_method_6_code
def yX0_leftAtWorst : MethodName := ⟨RX0, "leftAtWorst", "(I)I"⟩
abbrev cX0_leftBy : ByteArray := prog_2_method_7_code
def yX0_leftBy : MethodName := ⟨RX0, "leftBy", "(II)I"⟩
def RX1 : String := "WakefulBed$LecturePlan"
def TX1 : u_T := fun k => match k with
  | 0 => ("WakefulBed$LecturePlan", "nights", "[LWakefulBed$Night;", true)
  | 1 => ("WakefulBed$LecturePlan", "hoursInBed", "I", false)
  | _ => ("WakefulBed$LecturePlan", "firstHearer", "I", false)
def tyX1 : Nat → FieldType := fun k => match k with
  | 0 => .array (.object "WakefulBed$Night")
  | 1 => .int
  | _ => .int
theorem nmX1 : ∀ a, a < 3 → ∀ b, b < 3 → a ≠ b → (TX1 a).2.1 ≠ (TX1 b).2.1 := by decide +kernel
theorem tyX1_ok : ∀ k, k < 3 → parseFieldDescriptor (TX1 k).2.2.1 = some (tyX1 k) := by decide +kernel
abbrev cX1_init : ByteArray := prog_3_method_1_code
def yX1_init : MethodName := ⟨RX1, "<init>", "()V"⟩
abbrev cX1_hoursInBed : ByteArray := prog_3_method_2_code
def yX1_hoursInBed : MethodName := ⟨RX1, "hoursInBed", "()I"⟩
abbrev cX1_firstHearer : ByteArray := prog_3_method_3_code
def yX1_firstHearer : MethodName := ⟨RX1, "firstHearer", "()I"⟩
abbrev cX1_make : ByteArray := prog_3_method_4_code
def yX1_make : MethodName := ⟨RX1, "make", "(LWakefulBed$Night;II)V"⟩
abbrev cX1_most : ByteArray := prog_3_method_5_code
def yX1_most : MethodName := ⟨RX1, "most", "(LWakefulBed$Night;III)I"⟩
def RX2 : String := "WakefulBed$Night"
def TX2 : u_T := fun k => match k with
  | 0 => ("WakefulBed$Night", "kinds", "[I", true)
  | 1 => ("WakefulBed$Night", "tired", "[I", true)
  | 2 => ("WakefulBed$Night", "asleep", "[Z", true)
  | 3 => ("WakefulBed$Night", "bedHours", "[I", true)
  | 4 => ("WakefulBed$Night", "lodgers", "I", false)
  | 5 => ("WakefulBed$Night", "drowse", "I", false)
  | _ => ("WakefulBed$Night", "hoursPassed", "I", false)
def tyX2 : Nat → FieldType := fun k => match k with
  | 0 => .array .int
  | 1 => .array .int
  | 2 => .array .boolean
  | 3 => .array .int
  | 4 => .int
  | 5 => .int
  | _ => .int
theorem nmX2 : ∀ a, a < 7 → ∀ b, b < 7 → a ≠ b → (TX2 a).2.1 ≠ (TX2 b).2.1 := by decide +kernel
theorem tyX2_ok : ∀ k, k < 7 → parseFieldDescriptor (TX2 k).2.2.1 = some (tyX2 k) := by decide +kernel
abbrev cX2_init : ByteArray := prog_4_method_1_code
def yX2_init : MethodName := ⟨RX2, "<init>", "()V"⟩
abbrev cX2_begin : ByteArray := prog_4_method_2_code
def yX2_begin : MethodName := ⟨RX2, "begin", "(LWakefulBed$Page;)V"⟩
abbrev cX2_copyFrom : ByteArray := prog_4_method_3_code
def yX2_copyFrom : MethodName := ⟨RX2, "copyFrom", "(LWakefulBed$Night;)V"⟩
abbrev cX2_knows : ByteArray := prog_4_method_4_code
def yX2_knows : MethodName := ⟨RX2, "knows", "(I)Z"⟩
abbrev cX2_lodgers : ByteArray := prog_4_method_5_code
def yX2_lodgers : MethodName := ⟨RX2, "lodgers", "()I"⟩
abbrev cX2_drowse : ByteArray := prog_4_method_6_code
def yX2_drowse : MethodName := ⟨RX2, "drowse", "()I"⟩
abbrev cX2_hoursPassed : ByteArray := prog_4_method_7_code
def yX2_hoursPassed : MethodName := ⟨RX2, "hoursPassed", "()I"⟩
abbrev cX2_kindOf : ByteArray := prog_4_method_8_code
def yX2_kindOf : MethodName := ⟨RX2, "kindOf", "(I)I"⟩
abbrev cX2_tiredOf : ByteArray := prog_4_method_9_code
def yX2_tiredOf : MethodName := ⟨RX2, "tiredOf", "(I)I"⟩
abbrev cX2_sleeps : ByteArray := prog_4_method_10_code
def yX2_sleeps : MethodName := ⟨RX2, "sleeps", "(I)Z"⟩
abbrev cX2_bedHoursOf : ByteArray := prog_4_method_11_code
def yX2_bedHoursOf : MethodName := ⟨RX2, "bedHoursOf", "(I)I"⟩
abbrev cX2_sleepers : ByteArray := prog_4_method_12_code
def yX2_sleepers : MethodName := ⟨RX2, "sleepers", "()I"⟩
abbrev cX2_tiredTogether : ByteArray := prog_4_method_13_code
def yX2_tiredTogether : MethodName := ⟨RX2, "tiredTogether", "()I"⟩
abbrev cX2_whoseBed : ByteArray := prog_4_method_14_code
def yX2_whoseBed : MethodName := ⟨RX2, "whoseBed", "()I"⟩
abbrev cX2_giveCoffee : ByteArray := prog_4_method_15_code
def yX2_giveCoffee : MethodName := ⟨RX2, "giveCoffee", "(I)V"⟩
abbrev cX2_giveLecture : ByteArray := prog_4_method_16_code
def yX2_giveLecture : MethodName := ⟨RX2, "giveLecture", "(I)V"⟩
abbrev cX2_passHour : ByteArray := prog_4_method_17_code
def yX2_passHour : MethodName := ⟨RX2, "passHour", "()V"⟩
abbrev cX2_wakeAs : ByteArray := prog_4_method_18_code
def yX2_wakeAs : MethodName := ⟨RX2, "wakeAs", "(II)V"⟩
abbrev cX2_keepsBed : ByteArray := prog_4_method_19_code
def yX2_keepsBed : MethodName := ⟨RX2, "keepsBed", "(II)Z"⟩
abbrev cX2_mostWakefulPair : ByteArray := prog_4_method_20_code
def yX2_mostWakefulPair : MethodName := ⟨RX2, "mostWakefulPair", "()I"⟩
abbrev cX2_hoursTogether : ByteArray := prog_4_method_21_code
def yX2_hoursTogether : MethodName := ⟨RX2, "hoursTogether", "(II)I"⟩
abbrev cX2_hoursAwakeInBed : ByteArray := prog_4_method_22_code
def yX2_hoursAwakeInBed : MethodName := ⟨RX2, "hoursAwakeInBed", "(I)I"⟩
abbrev cX2_mayLieIn : ByteArray := prog_4_method_23_code
def yX2_mayLieIn : MethodName := ⟨RX2, "mayLieIn", "(I)Z"⟩
abbrev cX2_settle : ByteArray := prog_4_method_24_code
def yX2_settle : MethodName := ⟨RX2, "settle", "(I)V"⟩
def RX3 : String := "WakefulBed$Page"
def TX3 : u_T := fun k => match k with
  | 0 => ("WakefulBed$Page", "codes", "[I", true)
  | _ => ("WakefulBed$Page", "length", "I", false)
def tyX3 : Nat → FieldType := fun k => match k with
  | 0 => .array .int
  | _ => .int
theorem nmX3 : ∀ a, a < 2 → ∀ b, b < 2 → a ≠ b → (TX3 a).2.1 ≠ (TX3 b).2.1 := by decide +kernel
theorem tyX3_ok : ∀ k, k < 2 → parseFieldDescriptor (TX3 k).2.2.1 = some (tyX3 k) := by decide +kernel
abbrev cX3_init : ByteArray := prog_5_method_1_code
def yX3_init : MethodName := ⟨RX3, "<init>", "()V"⟩
abbrev cX3_length : ByteArray := prog_5_method_2_code
def yX3_length : MethodName := ⟨RX3, "length", "()I"⟩
abbrev cX3_codeAt : ByteArray := prog_5_method_3_code
def yX3_codeAt : MethodName := ⟨RX3, "codeAt", "(I)I"⟩
abbrev cX3_digitAt : ByteArray := prog_5_method_4_code
def yX3_digitAt : MethodName := ⟨RX3, "digitAt", "(I)I"⟩
abbrev cX3_put : ByteArray := prog_5_method_5_code
def yX3_put : MethodName := ⟨RX3, "put", "(I)I"⟩
abbrev cX3_empty : ByteArray := prog_5_method_6_code
def yX3_empty : MethodName := ⟨RX3, "empty", "()I"⟩
abbrev cX3_firstFault : ByteArray := prog_5_method_7_code
def yX3_firstFault : MethodName := ⟨RX3, "firstFault", "()I"⟩
abbrev cX3_isHouse : ByteArray := prog_5_method_8_code
def yX3_isHouse : MethodName := ⟨RX3, "isHouse", "()Z"⟩
abbrev cX3_lodgers : ByteArray := prog_5_method_9_code
def yX3_lodgers : MethodName := ⟨RX3, "lodgers", "()I"⟩
abbrev cX3_kindOf : ByteArray := prog_5_method_10_code
def yX3_kindOf : MethodName := ⟨RX3, "kindOf", "(I)I"⟩
abbrev cX3_tiredOf : ByteArray := prog_5_method_11_code
def yX3_tiredOf : MethodName := ⟨RX3, "tiredOf", "(I)I"⟩
abbrev cX3_drowse : ByteArray := prog_5_method_12_code
def yX3_drowse : MethodName := ⟨RX3, "drowse", "()I"⟩
abbrev cX3_fits : ByteArray := prog_5_method_13_code
def yX3_fits : MethodName := ⟨RX3, "fits", "(I)Z"⟩
def RX4 : String := "WakefulBed$Seen"
def TX4 : u_T := fun k => match k with
  | 0 => ("WakefulBed$Seen", "hours", "[I", true)
  | 1 => ("WakefulBed$Seen", "lodgers", "[I", true)
  | _ => ("WakefulBed$Seen", "size", "I", false)
def tyX4 : Nat → FieldType := fun k => match k with
  | 0 => .array .int
  | 1 => .array .int
  | _ => .int
theorem nmX4 : ∀ a, a < 3 → ∀ b, b < 3 → a ≠ b → (TX4 a).2.1 ≠ (TX4 b).2.1 := by decide +kernel
theorem tyX4_ok : ∀ k, k < 3 → parseFieldDescriptor (TX4 k).2.2.1 = some (tyX4 k) := by decide +kernel
abbrev cX4_init : ByteArray := prog_6_method_1_code
def yX4_init : MethodName := ⟨RX4, "<init>", "()V"⟩
abbrev cX4_size : ByteArray := prog_6_method_2_code
def yX4_size : MethodName := ⟨RX4, "size", "()I"⟩
abbrev cX4_put : ByteArray := prog_6_method_3_code
def yX4_put : MethodName := ⟨RX4, "put", "(II)I"⟩
abbrev cX4_empty : ByteArray := prog_6_method_4_code
def yX4_empty : MethodName := ⟨RX4, "empty", "()I"⟩
abbrev cX4_copyFrom : ByteArray := prog_6_method_5_code
def yX4_copyFrom : MethodName := ⟨RX4, "copyFrom", "(LWakefulBed$Seen;)V"⟩
abbrev cX4_allows : ByteArray := prog_6_method_6_code
def yX4_allows : MethodName := ⟨RX4, "allows", "(II)Z"⟩
def RX5 : String := "WakefulBed"
def TX5 : u_T := fun k => match k with
  | 0 => ("WakefulBed", "page", "LWakefulBed$Page;", true)
  | 1 => ("WakefulBed", "now", "LWakefulBed$Night;", true)
  | 2 => ("WakefulBed", "seen", "LWakefulBed$Seen;", true)
  | 3 => ("WakefulBed", "nowKept", "LWakefulBed$Night;", true)
  | 4 => ("WakefulBed", "seenKept", "LWakefulBed$Seen;", true)
  | 5 => ("WakefulBed", "isKept", "Z", false)
  | 6 => ("WakefulBed", "would", "LWakefulBed$Night;", true)
  | 7 => ("WakefulBed", "plan", "LWakefulBed$LecturePlan;", true)
  | 8 => ("WakefulBed", "guess", "LWakefulBed$Guess;", true)
  | 9 => ("WakefulBed", "housesRead", "I", false)
  | _ => ("WakefulBed", "lecturesDone", "I", false)
def tyX5 : Nat → FieldType := fun k => match k with
  | 0 => .object "WakefulBed$Page"
  | 1 => .object "WakefulBed$Night"
  | 2 => .object "WakefulBed$Seen"
  | 3 => .object "WakefulBed$Night"
  | 4 => .object "WakefulBed$Seen"
  | 5 => .boolean
  | 6 => .object "WakefulBed$Night"
  | 7 => .object "WakefulBed$LecturePlan"
  | 8 => .object "WakefulBed$Guess"
  | 9 => .int
  | _ => .int
theorem nmX5 : ∀ a, a < 11 → ∀ b, b < 11 → a ≠ b → (TX5 a).2.1 ≠ (TX5 b).2.1 := by decide +kernel
theorem tyX5_ok : ∀ k, k < 11 → parseFieldDescriptor (TX5 k).2.2.1 = some (tyX5 k) := by decide +kernel
abbrev cX5_init : ByteArray := prog_1_method_1_code
def yX5_init : MethodName := ⟨RX5, "<init>", "()V"⟩
abbrev cX5_letter : ByteArray := prog_1_method_2_code
def yX5_letter : MethodName := ⟨RX5, "letter", "(I)I"⟩
abbrev cX5_blank : ByteArray := prog_1_method_3_code
def yX5_blank : MethodName := ⟨RX5, "blank", "()I"⟩
abbrev cX5_fault : ByteArray := prog_1_method_4_code
def yX5_fault : MethodName := ⟨RX5, "fault", "()I"⟩
abbrev cX5_house : ByteArray := prog_1_method_5_code
def yX5_house : MethodName := ⟨RX5, "house", "()I"⟩
abbrev cX5_about : ByteArray := prog_1_method_6_code
def yX5_about : MethodName := ⟨RX5, "about", "(II)I"⟩
abbrev cX5_as : ByteArray := prog_1_method_7_code
def yX5_as : MethodName := ⟨RX5, "as", "(II)I"⟩
abbrev cX5_bed : ByteArray := prog_1_method_8_code
def yX5_bed : MethodName := ⟨RX5, "bed", "()I"⟩
abbrev cX5_coffee : ByteArray := prog_1_method_9_code
def yX5_coffee : MethodName := ⟨RX5, "coffee", "(I)I"⟩
abbrev cX5_lecture : ByteArray := prog_1_method_10_code
def yX5_lecture : MethodName := ⟨RX5, "lecture", "(I)I"⟩
abbrev cX5_hour : ByteArray := prog_1_method_11_code
def yX5_hour : MethodName := ⟨RX5, "hour", "()I"⟩
abbrev cX5_cups : ByteArray := prog_1_method_12_code
def yX5_cups : MethodName := ⟨RX5, "cups", "(II)I"⟩
abbrev cX5_lectures : ByteArray := prog_1_method_13_code
def yX5_lectures : MethodName := ⟨RX5, "lectures", "(III)I"⟩
abbrev cX5_sunday : ByteArray := prog_1_method_14_code
def yX5_sunday : MethodName := ⟨RX5, "sunday", "(I)I"⟩
abbrev cX5_see : ByteArray := prog_1_method_15_code
def yX5_see : MethodName := ⟨RX5, "see", "(II)I"⟩
abbrev cX5_forget : ByteArray := prog_1_method_16_code
def yX5_forget : MethodName := ⟨RX5, "forget", "()I"⟩
abbrev cX5_nights : ByteArray := prog_1_method_17_code
def yX5_nights : MethodName := ⟨RX5, "nights", "(III)I"⟩
abbrev cX5_image : ByteArray := prog_1_method_18_code
def yX5_image : MethodName := ⟨RX5, "image", "()I"⟩
abbrev cX5_restore : ByteArray := prog_1_method_19_code
def yX5_restore : MethodName := ⟨RX5, "restore", "()I"⟩
abbrev cX5_count : ByteArray := prog_1_method_20_code
def yX5_count : MethodName := ⟨RX5, "count", "(I)I"⟩
abbrev cX5_digest : ByteArray := prog_1_method_21_code
def yX5_digest : MethodName := ⟨RX5, "digest", "()J"⟩
abbrev cX5_hasHouse : ByteArray := prog_1_method_22_code
def yX5_hasHouse : MethodName := ⟨RX5, "hasHouse", "()Z"⟩
abbrev cX5_fewestCups : ByteArray := prog_1_method_23_code
def yX5_fewestCups : MethodName := ⟨RX5, "fewestCups", "(II)I"⟩
abbrev cX5_isWithin : ByteArray := prog_1_method_24_code
def yX5_isWithin : MethodName := ⟨RX5, "isWithin", "(III)Z"⟩
abbrev cX5_mixed : ByteArray := prog_1_method_25_code
def yX5_mixed : MethodName := ⟨RX5, "mixed", "(JJ)J"⟩
abbrev cX5_nextSeed : ByteArray := prog_1_method_26_code
def yX5_nextSeed : MethodName := ⟨RX5, "nextSeed", "(I)I"⟩
abbrev cX5_drawOf : ByteArray := prog_1_method_27_code
def yX5_drawOf : MethodName := ⟨RX5, "drawOf", "(II)I"⟩
abbrev cX5_kindByLetter : ByteArray := prog_1_method_28_code
def yX5_kindByLetter : MethodName := ⟨RX5, "kindByLetter", "(I)I"⟩
abbrev cX5_isAlso : ByteArray := prog_1_method_29_code
def yX5_isAlso : MethodName := ⟨RX5, "isAlso", "(II)Z"⟩
abbrev cX5_tiredByHour : ByteArray := prog_1_method_30_code
def yX5_tiredByHour : MethodName := ⟨RX5, "tiredByHour", "(IIIZ)I"⟩
def RX6 : String := "WakefulBedModel"
def TX6 : u_T := fun k => match k with
  | 0 => ("WakefulBedModel", "houses", "I", false)
  | 1 => ("WakefulBedModel", "lodgers", "I", false)
  | 2 => ("WakefulBedModel", "drowse", "I", false)
  | 3 => ("WakefulBedModel", "kindOf", "[I", true)
  | 4 => ("WakefulBedModel", "tiredOf", "[I", true)
  | 5 => ("WakefulBedModel", "sleeps", "[Z", true)
  | 6 => ("WakefulBedModel", "hadOf", "[I", true)
  | 7 => ("WakefulBedModel", "hours", "I", false)
  | 8 => ("WakefulBedModel", "seen", "I", false)
  | 9 => ("WakefulBedModel", "seenHours", "[I", true)
  | 10 => ("WakefulBedModel", "seenWhose", "[I", true)
  | 11 => ("WakefulBedModel", "asks", "I", false)
  | 12 => ("WakefulBedModel", "pageLength", "I", false)
  | 13 => ("WakefulBedModel", "page", "[B", true)
  | 14 => ("WakefulBedModel", "isWhole", "Z", false)
  | 15 => ("WakefulBedModel", "newMany", "I", false)
  | 16 => ("WakefulBedModel", "saved", "[I", true)
  | 17 => ("WakefulBedModel", "savedHad", "[I", true)
  | 18 => ("WakefulBedModel", "whoseBy", "[I", true)
  | 19 => ("WakefulBedModel", "seedNow", "J", false)
  | 20 => ("WakefulBedModel", "isKept", "Z", false)
  | 21 => ("WakefulBedModel", "keptHouse", "I", false)
  | 22 => ("WakefulBedModel", "keptSeen", "I", false)
  | 23 => ("WakefulBedModel", "keptHad", "[I", true)
  | 24 => ("WakefulBedModel", "keptSeenHours", "[I", true)
  | 25 => ("WakefulBedModel", "keptSeenWhose", "[I", true)
  | _ => ("WakefulBedModel", "h", "J", false)
def tyX6 : Nat → FieldType := fun k => match k with
  | 0 => .int
  | 1 => .int
  | 2 => .int
  | 3 => .array .int
  | 4 => .array .int
  | 5 => .array .boolean
  | 6 => .array .int
  | 7 => .int
  | 8 => .int
  | 9 => .array .int
  | 10 => .array .int
  | 11 => .int
  | 12 => .int
  | 13 => .array .byte
  | 14 => .boolean
  | 15 => .int
  | 16 => .array .int
  | 17 => .array .int
  | 18 => .array .int
  | 19 => .long
  | 20 => .boolean
  | 21 => .int
  | 22 => .int
  | 23 => .array .int
  | 24 => .array .int
  | 25 => .array .int
  | _ => .long
theorem nmX6 : ∀ a, a < 27 → ∀ b, b < 27 → a ≠ b → (TX6 a).2.1 ≠ (TX6 b).2.1 := by decide +kernel
theorem tyX6_ok : ∀ k, k < 27 → parseFieldDescriptor (TX6 k).2.2.1 = some (tyX6 k) := by decide +kernel
abbrev cX6_init : ByteArray := prog_8_method_1_code
def yX6_init : MethodName := ⟨RX6, "<init>", "()V"⟩
abbrev cX6_within : ByteArray := prog_8_method_3_code
def yX6_within : MethodName := ⟨RX6, "within", "(III)Z"⟩
abbrev cX6_isIn : ByteArray := prog_8_method_4_code
def yX6_isIn : MethodName := ⟨RX6, "isIn", "(II)Z"⟩
abbrev cX6_letter : ByteArray := prog_8_method_5_code
def yX6_letter : MethodName := ⟨RX6, "letter", "(I)I"⟩
abbrev cX6_blank : ByteArray := prog_8_method_6_code
def yX6_blank : MethodName := ⟨RX6, "blank", "()I"⟩
abbrev cX6_kindBy : ByteArray := prog_8_method_7_code
def yX6_kindBy : MethodName := ⟨RX6, "kindBy", "(I)I"⟩
abbrev cX6_isFigure : ByteArray := prog_8_method_8_code
def yX6_isFigure : MethodName := ⟨RX6, "isFigure", "(III)Z"⟩
abbrev cX6_read : ByteArray := prog_8_method_9_code
def yX6_read : MethodName := ⟨RX6, "read", "()I"⟩
abbrev cX6_fault : ByteArray := prog_8_method_10_code
def yX6_fault : MethodName := ⟨RX6, "fault", "()I"⟩
abbrev cX6_house : ByteArray := prog_8_method_11_code
def yX6_house : MethodName := ⟨RX6, "house", "()I"⟩
abbrev cX6_isLodger : ByteArray := prog_8_method_12_code
def yX6_isLodger : MethodName := ⟨RX6, "isLodger", "(I)Z"⟩
abbrev cX6_whose : ByteArray := prog_8_method_13_code
def yX6_whose : MethodName := ⟨RX6, "whose", "()I"⟩
abbrev cX6_more : ByteArray := prog_8_method_14_code
def yX6_more : MethodName := ⟨RX6, "more", "(IIIZ)I"⟩
abbrev cX6_goHour : ByteArray := prog_8_method_15_code
def yX6_goHour : MethodName := ⟨RX6, "goHour", "()V"⟩
abbrev cX6_sleeping : ByteArray := prog_8_method_16_code
def yX6_sleeping : MethodName := ⟨RX6, "sleeping", "()I"⟩
abbrev cX6_drink : ByteArray := prog_8_method_17_code
def yX6_drink : MethodName := ⟨RX6, "drink", "(I)V"⟩
abbrev cX6_hearLecture : ByteArray := prog_8_method_18_code
def yX6_hearLecture : MethodName := ⟨RX6, "hearLecture", "(I)V"⟩
abbrev cX6_save : ByteArray := prog_8_method_19_code
def yX6_save : MethodName := ⟨RX6, "save", "(I)V"⟩
abbrev cX6_load : ByteArray := prog_8_method_20_code
def yX6_load : MethodName := ⟨RX6, "load", "(I)V"⟩
abbrev cX6_begin : ByteArray := prog_8_method_21_code
def yX6_begin : MethodName := ⟨RX6, "begin", "()V"⟩
abbrev cX6_end : ByteArray := prog_8_method_22_code
def yX6_end : MethodName := ⟨RX6, "end", "()V"⟩
abbrev cX6_lodgerNow : ByteArray := prog_8_method_23_code
def yX6_lodgerNow : MethodName := ⟨RX6, "lodgerNow", "(II)I"⟩
abbrev cX6_about : ByteArray := prog_8_method_24_code
def yX6_about : MethodName := ⟨RX6, "about", "(II)I"⟩
abbrev cX6_as : ByteArray := prog_8_method_25_code
def yX6_as : MethodName := ⟨RX6, "as", "(II)I"⟩
abbrev cX6_bed : ByteArray := prog_8_method_26_code
def yX6_bed : MethodName := ⟨RX6, "bed", "()I"⟩
abbrev cX6_coffee : ByteArray := prog_8_method_27_code
def yX6_coffee : MethodName := ⟨RX6, "coffee", "(I)I"⟩
abbrev cX6_lecture : ByteArray := prog_8_method_28_code
def yX6_lecture : MethodName := ⟨RX6, "lecture", "(I)I"⟩
abbrev cX6_hour : ByteArray := prog_8_method_29_code
def yX6_hour : MethodName := ⟨RX6, "hour", "()I"⟩
abbrev cX6_isEnough : ByteArray := prog_8_method_30_code
def yX6_isEnough : MethodName := ⟨RX6, "isEnough", "(III)Z"⟩
abbrev cX6_cupsNow : ByteArray := prog_8_method_31_code
def yX6_cupsNow : MethodName := ⟨RX6, "cupsNow", "(II)I"⟩
abbrev cX6_cups : ByteArray := prog_8_method_32_code
def yX6_cups : MethodName := ⟨RX6, "cups", "(II)I"⟩
abbrev cX6_hoursBy : ByteArray := prog_8_method_33_code
def yX6_hoursBy : MethodName := ⟨RX6, "hoursBy", "(III)I"⟩
abbrev cX6_lecturesNow : ByteArray := prog_8_method_34_code
def yX6_lecturesNow : MethodName := ⟨RX6, "lecturesNow", "(III)I"⟩
abbrev cX6_lectures : ByteArray := prog_8_method_35_code
def yX6_lectures : MethodName := ⟨RX6, "lectures", "(III)I"⟩
abbrev cX6_mayLie : ByteArray := prog_8_method_36_code
def yX6_mayLie : MethodName := ⟨RX6, "mayLie", "(I)Z"⟩
abbrev cX6_awakeFor : ByteArray := prog_8_method_37_code
def yX6_awakeFor : MethodName := ⟨RX6, "awakeFor", "(II)I"⟩
abbrev cX6_sundayNow : ByteArray := prog_8_method_38_code
def yX6_sundayNow : MethodName := ⟨RX6, "sundayNow", "(I)I"⟩
abbrev cX6_sunday : ByteArray := prog_8_method_39_code
def yX6_sunday : MethodName := ⟨RX6, "sunday", "(I)I"⟩
abbrev cX6_see : ByteArray := prog_8_method_40_code
def yX6_see : MethodName := ⟨RX6, "see", "(II)I"⟩
abbrev cX6_forget : ByteArray := prog_8_method_41_code
def yX6_forget : MethodName := ⟨RX6, "forget", "()I"⟩
abbrev cX6_layTired : ByteArray := prog_8_method_42_code
def yX6_layTired : MethodName := ⟨RX6, "layTired", "(I)V"⟩
abbrev cX6_fitting : ByteArray := prog_8_method_43_code
def yX6_fitting : MethodName := ⟨RX6, "fitting", "()I"⟩
abbrev cX6_howTired : ByteArray := prog_8_method_44_code
def yX6_howTired : MethodName := ⟨RX6, "howTired", "(I)I"⟩
abbrev cX6_worstBehind : ByteArray := prog_8_method_45_code
def yX6_worstBehind : MethodName := ⟨RX6, "worstBehind", "(II)I"⟩
abbrev cX6_lookOf : ByteArray := prog_8_method_46_code
def yX6_lookOf : MethodName := ⟨RX6, "lookOf", "(I)I"⟩
abbrev cX6_draw : ByteArray := prog_8_method_47_code
def yX6_draw : MethodName := ⟨RX6, "draw", "(I)I"⟩
abbrev cX6_nightsNow : ByteArray := prog_8_method_48_code
def yX6_nightsNow : MethodName := ⟨RX6, "nightsNow", "(III)I"⟩
abbrev cX6_nights : ByteArray := prog_8_method_49_code
def yX6_nights : MethodName := ⟨RX6, "nights", "(III)I"⟩
abbrev cX6_image : ByteArray := prog_8_method_50_code
def yX6_image : MethodName := ⟨RX6, "image", "()I"⟩
abbrev cX6_restore : ByteArray := prog_8_method_51_code
def yX6_restore : MethodName := ⟨RX6, "restore", "()I"⟩
abbrev cX6_tiredAll : ByteArray := prog_8_method_52_code
def yX6_tiredAll : MethodName := ⟨RX6, "tiredAll", "()I"⟩
abbrev cX6_howMany : ByteArray := prog_8_method_53_code
def yX6_howMany : MethodName := ⟨RX6, "howMany", "(I)I"⟩
abbrev cX6_count : ByteArray := prog_8_method_54_code
def yX6_count : MethodName := ⟨RX6, "count", "(I)I"⟩
abbrev cX6_mix : ByteArray := prog_8_method_55_code
def yX6_mix : MethodName := ⟨RX6, "mix", "(J)V"⟩
abbrev cX6_digest : ByteArray := prog_8_method_56_code
def yX6_digest : MethodName := ⟨RX6, "digest", "()J"⟩
def RL : String := "WakefulBedLaw"
abbrev cL_law : ByteArray := code
def yL_law : MethodName := ⟨RL, "law", "([I)Z"⟩
abbrev vwCl : List vw_C := [(RX0, TX0, 4), (RX1, TX1, 3), (RX2, TX2, 7), (RX3, TX3, 2), (RX4, TX4, 3), (RX5, TX5, 11), (RX6, TX6, 27)]
end
section
theorem dX0_init_0 : decode cX0_init 0 = .ok (.aload_n 0, 1) := by decide +kernel
theorem dX0_init_1 : decode cX0_init 1 = .ok (.invokespecial 3, 3) := by decide +kernel
theorem dX0_init_4 : decode cX0_init 4 = .ok (.aload_n 0, 1) := by decide +kernel
theorem dX0_init_5 : decode cX0_init 5 = .ok (.new 9, 3) := by decide +kernel
theorem dX0_init_8 : decode cX0_init 8 = .ok (.dup, 1) := by decide +kernel
theorem dX0_init_9 : decode cX0_init 9 = .ok (.invokespecial 11, 3) := by decide +kernel
theorem dX0_init_12 : decode cX0_init 12 = .ok (.putfield 12, 3) := by decide +kernel
theorem dX0_init_15 : decode cX0_init 15 = .ok (.aload_n 0, 1) := by decide +kernel
theorem dX0_init_16 : decode cX0_init 16 = .ok (.bipush 10, 2) := by decide +kernel
theorem dX0_init_18 : decode cX0_init 18 = .ok (.bipush 13, 2) := by decide +kernel
theorem dX0_init_20 : decode cX0_init 20 = .ok (.multianewarray 18 2, 4) := by decide +kernel
theorem dX0_init_24 : decode cX0_init 24 = .ok (.putfield 20, 3) := by decide +kernel
theorem dX0_init_27 : decode cX0_init 27 = .ok (.aload_n 0, 1) := by decide +kernel
theorem dX0_init_28 : decode cX0_init 28 = .ok (.iconst 0, 1) := by decide +kernel
theorem dX0_init_29 : decode cX0_init 29 = .ok (.putfield 23, 3) := by decide +kernel
theorem dX0_init_32 : decode cX0_init 32 = .ok (.aload_n 0, 1) := by decide +kernel
theorem dX0_init_33 : decode cX0_init 33 = .ok (.iconst 0, 1) := by decide +kernel
theorem dX0_init_34 : decode cX0_init 34 = .ok (.putfield 27, 3) := by decide +kernel
theorem dX0_init_37 : decode cX0_init 37 = .ok (.return_, 1) := by decide +kernel
theorem dX0_possible_0 : decode cX0_possible 0 = .ok (.aload_n 0, 1) := by decide +kernel
theorem dX0_possible_1 : decode cX0_possible 1 = .ok (.getfield 27, 3) := by decide +kernel
theorem dX0_possible_4 : decode cX0_possible 4 = .ok (.ireturn, 1) := by decide +kernel
theorem dX0_make_0 : decode cX0_make 0 = .ok (.aload_n 0, 1) := by decide +kernel
theorem dX0_make_1 : decode cX0_make 1 = .ok (.aload_n 1, 1) := by decide +kernel
theorem dX0_make_2 : decode cX0_make 2 = .ok (.invokevirtual 30, 3) := by decide +kernel
theorem dX0_make_5 : decode cX0_make 5 = .ok (.putfield 23, 3) := by decide +kernel
theorem dX0_make_8 : decode cX0_make 8 = .ok (.aload_n 0, 1) := by decide +kernel
theorem dX0_make_9 : decode cX0_make 9 = .ok (.iconst 0, 1) := by decide +kernel
theorem dX0_make_10 : decode cX0_make 10 = .ok (.putfield 27, 3) := by decide +kernel
theorem dX0_make_13 : decode cX0_make 13 = .ok (.iconst 0, 1) := by decide +kernel
theorem dX0_make_14 : decode cX0_make 14 = .ok (.istore 4, 2) := by decide +kernel
theorem dX0_make_16 : decode cX0_make 16 = .ok (.iload 4, 2) := by decide +kernel
theorem dX0_make_18 : decode cX0_make 18 = .ok (.bipush 10, 2) := by decide +kernel
theorem dX0_make_20 : decode cX0_make 20 = .ok (.if_icmp .ge 50, 3) := by decide +kernel
theorem dX0_make_23 : decode cX0_make 23 = .ok (.aload_n 0, 1) := by decide +kernel
theorem dX0_make_24 : decode cX0_make 24 = .ok (.getfield 12, 3) := by decide +kernel
theorem dX0_make_27 : decode cX0_make 27 = .ok (.aload_n 1, 1) := by decide +kernel
theorem dX0_make_28 : decode cX0_make 28 = .ok (.invokevirtual 33, 3) := by decide +kernel
theorem dX0_make_31 : decode cX0_make 31 = .ok (.aload_n 0, 1) := by decide +kernel
theorem dX0_make_32 : decode cX0_make 32 = .ok (.getfield 12, 3) := by decide +kernel
theorem dX0_make_35 : decode cX0_make 35 = .ok (.iload_n 3, 1) := by decide +kernel
theorem dX0_make_36 : decode cX0_make 36 = .ok (.iload 4, 2) := by decide +kernel
theorem dX0_make_38 : decode cX0_make 38 = .ok (.invokevirtual 37, 3) := by decide +kernel
theorem dX0_make_41 : decode cX0_make 41 = .ok (.aload_n 0, 1) := by decide +kernel
theorem dX0_make_42 : decode cX0_make 42 = .ok (.aload_n 2, 1) := by decide +kernel
theorem dX0_make_43 : decode cX0_make 43 = .ok (.iload 4, 2) := by decide +kernel
theorem dX0_make_45 : decode cX0_make 45 = .ok (.invokevirtual 41, 3) := by decide +kernel
theorem dX0_make_48 : decode cX0_make 48 = .ok (.ifCond .eq 16, 3) := by decide +kernel
theorem dX0_make_51 : decode cX0_make 51 = .ok (.aload_n 0, 1) := by decide +kernel
theorem dX0_make_52 : decode cX0_make 52 = .ok (.dup, 1) := by decide +kernel
theorem dX0_make_53 : decode cX0_make 53 = .ok (.getfield 27, 3) := by decide +kernel
theorem dX0_make_56 : decode cX0_make 56 = .ok (.iconst 1, 1) := by decide +kernel
theorem dX0_make_57 : decode cX0_make 57 = .ok (.iload 4, 2) := by decide +kernel
theorem dX0_make_59 : decode cX0_make 59 = .ok (.ishl, 1) := by decide +kernel
theorem dX0_make_60 : decode cX0_make 60 = .ok (.ior, 1) := by decide +kernel
theorem dX0_make_61 : decode cX0_make 61 = .ok (.putfield 27, 3) := by decide +kernel
theorem dX0_make_64 : decode cX0_make 64 = .ok (.iinc 4 1, 3) := by decide +kernel
theorem dX0_make_67 : decode cX0_make 67 = .ok (.goto (-51), 3) := by decide +kernel
theorem dX0_make_70 : decode cX0_make 70 = .ok (.return_, 1) := by decide +kernel
theorem dX0_bestLook_0 : decode cX0_bestLook 0 = .ok (.aload_n 0, 1) := by decide +kernel
theorem dX0_bestLook_1 : decode cX0_bestLook 1 = .ok (.getfield 27, 3) := by decide +kernel
theorem dX0_bestLook_4 : decode cX0_bestLook 4 = .ok (.ifCond .ne 5, 3) := by decide +kernel
theorem dX0_bestLook_7 : decode cX0_bestLook 7 = .ok (.iconst (-1), 1) := by decide +kernel
theorem dX0_bestLook_8 : decode cX0_bestLook 8 = .ok (.ireturn, 1) := by decide +kernel
theorem dX0_bestLook_9 : decode cX0_bestLook 9 = .ok (.iconst (-1), 1) := by decide +kernel
theorem dX0_bestLook_10 : decode cX0_bestLook 10 = .ok (.istore_n 1, 1) := by decide +kernel
theorem dX0_bestLook_11 : decode cX0_bestLook 11 = .ok (.bipush 11, 2) := by decide +kernel
theorem dX0_bestLook_13 : decode cX0_bestLook 13 = .ok (.istore_n 2, 1) := by decide +kernel
theorem dX0_bestLook_14 : decode cX0_bestLook 14 = .ok (.iconst 0, 1) := by decide +kernel
theorem dX0_bestLook_15 : decode cX0_bestLook 15 = .ok (.istore_n 3, 1) := by decide +kernel
theorem dX0_bestLook_16 : decode cX0_bestLook 16 = .ok (.iload_n 3, 1) := by decide +kernel
theorem dX0_bestLook_17 : decode cX0_bestLook 17 = .ok (.bipush 13, 2) := by decide +kernel
theorem dX0_bestLook_19 : decode cX0_bestLook 19 = .ok (.if_icmp .ge 27, 3) := by decide +kernel
theorem dX0_bestLook_22 : decode cX0_bestLook 22 = .ok (.aload_n 0, 1) := by decide +kernel
theorem dX0_bestLook_23 : decode cX0_bestLook 23 = .ok (.iload_n 3, 1) := by decide +kernel
theorem dX0_bestLook_24 : decode cX0_bestLook 24 = .ok (.invokevirtual 45, 3) := by decide +kernel
theorem dX0_bestLook_27 : decode cX0_bestLook 27 = .ok (.istore 4, 2) := by decide +kernel
theorem dX0_bestLook_29 : decode cX0_bestLook 29 = .ok (.iload 4, 2) := by decide +kernel
theorem dX0_bestLook_31 : decode cX0_bestLook 31 = .ok (.iload_n 2, 1) := by decide +kernel
theorem dX0_bestLook_32 : decode cX0_bestLook 32 = .ok (.if_icmp .ge 8, 3) := by decide +kernel
theorem dX0_bestLook_35 : decode cX0_bestLook 35 = .ok (.iload_n 3, 1) := by decide +kernel
theorem dX0_bestLook_36 : decode cX0_bestLook 36 = .ok (.istore_n 1, 1) := by decide +kernel
theorem dX0_bestLook_37 : decode cX0_bestLook 37 = .ok (.iload 4, 2) := by decide +kernel
theorem dX0_bestLook_39 : decode cX0_bestLook 39 = .ok (.istore_n 2, 1) := by decide +kernel
theorem dX0_bestLook_40 : decode cX0_bestLook 40 = .ok (.iinc 3 1, 3) := by decide +kernel
theorem dX0_bestLook_43 : decode cX0_bestLook 43 = .ok (.goto (-27), 3) := by decide +kernel
theorem dX0_bestLook_46 : decode cX0_bestLook 46 = .ok (.iload_n 1, 1) := by decide +kernel
theorem dX0_bestLook_47 : decode cX0_bestLook 47 = .ok (.ireturn, 1) := by decide +kernel
theorem dX0_isAsSeen_0 : decode cX0_isAsSeen 0 = .ok (.iconst 1, 1) := by decide +kernel
theorem dX0_isAsSeen_1 : decode cX0_isAsSeen 1 = .ok (.istore_n 3, 1) := by decide +kernel
theorem dX0_isAsSeen_2 : decode cX0_isAsSeen 2 = .ok (.iconst 0, 1) := by decide +kernel
theorem dX0_isAsSeen_3 : decode cX0_isAsSeen 3 = .ok (.istore 4, 2) := by decide +kernel
theorem dX0_isAsSeen_5 : decode cX0_isAsSeen 5 = .ok (.iload 4, 2) := by decide +kernel
theorem dX0_isAsSeen_7 : decode cX0_isAsSeen 7 = .ok (.bipush 13, 2) := by decide +kernel
theorem dX0_isAsSeen_9 : decode cX0_isAsSeen 9 = .ok (.if_icmp .ge 65, 3) := by decide +kernel
theorem dX0_isAsSeen_12 : decode cX0_isAsSeen 12 = .ok (.iload 4, 2) := by decide +kernel
theorem dX0_isAsSeen_14 : decode cX0_isAsSeen 14 = .ok (.ifCond .le 10, 3) := by decide +kernel
theorem dX0_isAsSeen_17 : decode cX0_isAsSeen 17 = .ok (.aload_n 0, 1) := by decide +kernel
theorem dX0_isAsSeen_18 : decode cX0_isAsSeen 18 = .ok (.getfield 12, 3) := by decide +kernel
theorem dX0_isAsSeen_21 : decode cX0_isAsSeen 21 = .ok (.invokevirtual 49, 3) := by decide +kernel
theorem dX0_isAsSeen_24 : decode cX0_isAsSeen 24 = .ok (.aload_n 0, 1) := by decide +kernel
theorem dX0_isAsSeen_25 : decode cX0_isAsSeen 25 = .ok (.getfield 20, 3) := by decide +kernel
theorem dX0_isAsSeen_28 : decode cX0_isAsSeen 28 = .ok (.iload_n 2, 1) := by decide +kernel
theorem dX0_isAsSeen_29 : decode cX0_isAsSeen 29 = .ok (.aaload, 1) := by decide +kernel
theorem dX0_isAsSeen_30 : decode cX0_isAsSeen 30 = .ok (.iload 4, 2) := by decide +kernel
theorem dX0_isAsSeen_32 : decode cX0_isAsSeen 32 = .ok (.aload_n 0, 1) := by decide +kernel
theorem dX0_isAsSeen_33 : decode cX0_isAsSeen 33 = .ok (.getfield 12, 3) := by decide +kernel
theorem dX0_isAsSeen_36 : decode cX0_isAsSeen 36 = .ok (.invokevirtual 52, 3) := by decide +kernel
theorem dX0_isAsSeen_39 : decode cX0_isAsSeen 39 = .ok (.iastore, 1) := by decide +kernel
theorem dX0_isAsSeen_40 : decode cX0_isAsSeen 40 = .ok (.iload_n 3, 1) := by decide +kernel
theorem dX0_isAsSeen_41 : decode cX0_isAsSeen 41 = .ok (.ifCond .eq 25, 3) := by decide +kernel
theorem dX0_isAsSeen_44 : decode cX0_isAsSeen 44 = .ok (.aload_n 1, 1) := by decide +kernel
theorem dX0_isAsSeen_45 : decode cX0_isAsSeen 45 = .ok (.iload 4, 2) := by decide +kernel
theorem dX0_isAsSeen_47 : decode cX0_isAsSeen 47 = .ok (.aload_n 0, 1) := by decide +kernel
theorem dX0_isAsSeen_48 : decode cX0_isAsSeen 48 = .ok (.getfield 20, 3) := by decide +kernel
theorem dX0_isAsSeen_51 : decode cX0_isAsSeen 51 = .ok (.iload_n 2, 1) := by decide +kernel
theorem dX0_isAsSeen_52 : decode cX0_isAsSeen 52 = .ok (.aaload, 1) := by decide +kernel
theorem dX0_isAsSeen_53 : decode cX0_isAsSeen 53 = .ok (.iload 4, 2) := by decide +kernel
theorem dX0_isAsSeen_55 : decode cX0_isAsSeen 55 = .ok (.iaload, 1) := by decide +kernel
theorem dX0_isAsSeen_56 : decode cX0_isAsSeen 56 = .ok (.invokevirtual 55, 3) := by decide +kernel
theorem dX0_isAsSeen_59 : decode cX0_isAsSeen 59 = .ok (.ifCond .eq 7, 3) := by decide +kernel
theorem dX0_isAsSeen_62 : decode cX0_isAsSeen 62 = .ok (.iconst 1, 1) := by decide +kernel
theorem dX0_isAsSeen_63 : decode cX0_isAsSeen 63 = .ok (.goto 4, 3) := by decide +kernel
theorem dX0_isAsSeen_66 : decode cX0_isAsSeen 66 = .ok (.iconst 0, 1) := by decide +kernel
theorem dX0_isAsSeen_67 : decode cX0_isAsSeen 67 = .ok (.istore_n 3, 1) := by decide +kernel
theorem dX0_isAsSeen_68 : decode cX0_isAsSeen 68 = .ok (.iinc 4 1, 3) := by decide +kernel
theorem dX0_isAsSeen_71 : decode cX0_isAsSeen 71 = .ok (.goto (-66), 3) := by decide +kernel
theorem dX0_isAsSeen_74 : decode cX0_isAsSeen 74 = .ok (.iload_n 3, 1) := by decide +kernel
theorem dX0_isAsSeen_75 : decode cX0_isAsSeen 75 = .ok (.ireturn, 1) := by decide +kernel
theorem dX0_leftAtWorst_0 : decode cX0_leftAtWorst 0 = .ok (.iconst 0, 1) := by decide +kernel
theorem dX0_leftAtWorst_1 : decode cX0_leftAtWorst 1 = .ok (.istore_n 2, 1) := by decide +kernel
theorem dX0_leftAtWorst_2 : decode cX0_leftAtWorst 2 = .ok (.iconst (-1), 1) := by decide +kernel
theorem dX0_leftAtWorst_3 : decode cX0_leftAtWorst 3 = .ok (.istore_n 3, 1) := by decide +kernel
theorem dX0_leftAtWorst_4 : decode cX0_leftAtWorst 4 = .ok (.iload_n 3, 1) := by decide +kernel
theorem dX0_leftAtWorst_5 : decode cX0_leftAtWorst 5 = .ok (.aload_n 0, 1) := by decide +kernel
theorem dX0_leftAtWorst_6 : decode cX0_leftAtWorst 6 = .ok (.getfield 23, 3) := by decide +kernel
theorem dX0_leftAtWorst_9 : decode cX0_leftAtWorst 9 = .ok (.if_icmp .ge 20, 3) := by decide +kernel
theorem dX0_leftAtWorst_12 : decode cX0_leftAtWorst 12 = .ok (.iload_n 2, 1) := by decide +kernel
theorem dX0_leftAtWorst_13 : decode cX0_leftAtWorst 13 = .ok (.aload_n 0, 1) := by decide +kernel
theorem dX0_leftAtWorst_14 : decode cX0_leftAtWorst 14 = .ok (.iload_n 1, 1) := by decide +kernel
theorem dX0_leftAtWorst_15 : decode cX0_leftAtWorst 15 = .ok (.iload_n 3, 1) := by decide +kernel
theorem dX0_leftAtWorst_16 : decode cX0_leftAtWorst 16 = .ok (.invokevirtual 61, 3) := by decide +kernel
theorem dX0_leftAtWorst_19 : decode cX0_leftAtWorst 19 = .ok (.invokestatic 65, 3) := by decide +kernel
theorem dX0_leftAtWorst_22 : decode cX0_leftAtWorst 22 = .ok (.istore_n 2, 1) := by decide +kernel
theorem dX0_leftAtWorst_23 : decode cX0_leftAtWorst 23 = .ok (.iinc 3 1, 3) := by decide +kernel
theorem dX0_leftAtWorst_26 : decode cX0_leftAtWorst 26 = .ok (.goto (-22), 3) := by decide +kernel
theorem dX0_leftAtWorst_29 : decode cX0_leftAtWorst 29 = .ok (.iload_n 2, 1) := by decide +kernel
theorem dX0_leftAtWorst_30 : decode cX0_leftAtWorst 30 = .ok (.ireturn, 1) := by decide +kernel
theorem dX0_leftBy_0 : decode cX0_leftBy 0 = .ok (.iconst 0, 1) := by decide +kernel
theorem dX0_leftBy_1 : decode cX0_leftBy 1 = .ok (.istore_n 3, 1) := by decide +kernel
theorem dX0_leftBy_2 : decode cX0_leftBy 2 = .ok (.iconst 0, 1) := by decide +kernel
theorem dX0_leftBy_3 : decode cX0_leftBy 3 = .ok (.istore 4, 2) := by decide +kernel
theorem dX0_leftBy_5 : decode cX0_leftBy 5 = .ok (.iload 4, 2) := by decide +kernel
theorem dX0_leftBy_7 : decode cX0_leftBy 7 = .ok (.bipush 10, 2) := by decide +kernel
theorem dX0_leftBy_9 : decode cX0_leftBy 9 = .ok (.if_icmp .ge 55, 3) := by decide +kernel
theorem dX0_leftBy_12 : decode cX0_leftBy 12 = .ok (.aload_n 0, 1) := by decide +kernel
theorem dX0_leftBy_13 : decode cX0_leftBy 13 = .ok (.getfield 27, 3) := by decide +kernel
theorem dX0_leftBy_16 : decode cX0_leftBy 16 = .ok (.iload 4, 2) := by decide +kernel
theorem dX0_leftBy_18 : decode cX0_leftBy 18 = .ok (.ishr, 1) := by decide +kernel
theorem dX0_leftBy_19 : decode cX0_leftBy 19 = .ok (.iconst 1, 1) := by decide +kernel
theorem dX0_leftBy_20 : decode cX0_leftBy 20 = .ok (.iand, 1) := by decide +kernel
theorem dX0_leftBy_21 : decode cX0_leftBy 21 = .ok (.iconst 1, 1) := by decide +kernel
theorem dX0_leftBy_22 : decode cX0_leftBy 22 = .ok (.if_icmp .ne 7, 3) := by decide +kernel
theorem dX0_leftBy_25 : decode cX0_leftBy 25 = .ok (.iconst 1, 1) := by decide +kernel
theorem dX0_leftBy_26 : decode cX0_leftBy 26 = .ok (.goto 4, 3) := by decide +kernel
theorem dX0_leftBy_29 : decode cX0_leftBy 29 = .ok (.iconst 0, 1) := by decide +kernel
theorem dX0_leftBy_30 : decode cX0_leftBy 30 = .ok (.istore 5, 2) := by decide +kernel
theorem dX0_leftBy_32 : decode cX0_leftBy 32 = .ok (.iload_n 3, 1) := by decide +kernel
theorem dX0_leftBy_33 : decode cX0_leftBy 33 = .ok (.iload 5, 2) := by decide +kernel
theorem dX0_leftBy_35 : decode cX0_leftBy 35 = .ok (.ifCond .eq 20, 3) := by decide +kernel
theorem dX0_leftBy_38 : decode cX0_leftBy 38 = .ok (.aload_n 0, 1) := by decide +kernel
theorem dX0_leftBy_39 : decode cX0_leftBy 39 = .ok (.getfield 20, 3) := by decide +kernel
theorem dX0_leftBy_42 : decode cX0_leftBy 42 = .ok (.iload 4, 2) := by decide +kernel
theorem dX0_leftBy_44 : decode cX0_leftBy 44 = .ok (.aaload, 1) := by decide +kernel
theorem dX0_leftBy_45 : decode cX0_leftBy 45 = .ok (.iload_n 1, 1) := by decide +kernel
theorem dX0_leftBy_46 : decode cX0_leftBy 46 = .ok (.iaload, 1) := by decide +kernel
theorem dX0_leftBy_47 : decode cX0_leftBy 47 = .ok (.iload_n 2, 1) := by decide +kernel
theorem dX0_leftBy_48 : decode cX0_leftBy 48 = .ok (.if_icmp .ne 7, 3) := by decide +kernel
theorem dX0_leftBy_51 : decode cX0_leftBy 51 = .ok (.iconst 1, 1) := by decide +kernel
theorem dX0_leftBy_52 : decode cX0_leftBy 52 = .ok (.goto 4, 3) := by decide +kernel
theorem dX0_leftBy_55 : decode cX0_leftBy 55 = .ok (.iconst 0, 1) := by decide +kernel
theorem dX0_leftBy_56 : decode cX0_leftBy 56 = .ok (.iadd, 1) := by decide +kernel
theorem dX0_leftBy_57 : decode cX0_leftBy 57 = .ok (.istore_n 3, 1) := by decide +kernel
theorem dX0_leftBy_58 : decode cX0_leftBy 58 = .ok (.iinc 4 1, 3) := by decide +kernel
theorem dX0_leftBy_61 : decode cX0_leftBy 61 = .ok (.goto (-56), 3) := by decide +kernel
theorem dX0_leftBy_64 : decode cX0_leftBy 64 = .ok (.iload_n 3, 1) := by decide +kernel
theorem dX0_leftBy_65 : decode cX0_leftBy 65 = .ok (.ireturn, 1) := by decide +kernel
theorem dX1_init_0 : decode cX1_init 0 = .ok (.aload_n 0, 1) := by decide +kernel
theorem dX1_init_1 : decode cX1_init 1 = .ok (.invokespecial 3, 3) := by decide +kernel
theorem dX1_init_4 : decode cX1_init 4 = .ok (.aload_n 0, 1) := by decide +kernel
theorem dX1_init_5 : decode cX1_init 5 = .ok (.iconst 3, 1) := by decide +kernel
theorem dX1_init_6 : decode cX1_init 6 = .ok (.anewarray 9, 3) := by decide +kernel
theorem dX1_init_9 : decode cX1_init 9 = .ok (.putfield 11, 3) := by decide +kernel
theorem dX1_init_12 : decode cX1_init 12 = .ok (.iconst 0, 1) := by decide +kernel
theorem dX1_init_13 : decode cX1_init 13 = .ok (.istore_n 1, 1) := by decide +kernel
theorem dX1_init_14 : decode cX1_init 14 = .ok (.iload_n 1, 1) := by decide +kernel
theorem dX1_init_15 : decode cX1_init 15 = .ok (.iconst 3, 1) := by decide +kernel
theorem dX1_init_16 : decode cX1_init 16 = .ok (.if_icmp .ge 22, 3) := by decide +kernel
theorem dX1_init_19 : decode cX1_init 19 = .ok (.aload_n 0, 1) := by decide +kernel
theorem dX1_init_20 : decode cX1_init 20 = .ok (.getfield 11, 3) := by decide +kernel
theorem dX1_init_23 : decode cX1_init 23 = .ok (.iload_n 1, 1) := by decide +kernel
theorem dX1_init_24 : decode cX1_init 24 = .ok (.new 9, 3) := by decide +kernel
theorem dX1_init_27 : decode cX1_init 27 = .ok (.dup, 1) := by decide +kernel
theorem dX1_init_28 : decode cX1_init 28 = .ok (.invokespecial 17, 3) := by decide +kernel
theorem dX1_init_31 : decode cX1_init 31 = .ok (.aastore, 1) := by decide +kernel
theorem dX1_init_32 : decode cX1_init 32 = .ok (.iinc 1 1, 3) := by decide +kernel
theorem dX1_init_35 : decode cX1_init 35 = .ok (.goto (-21), 3) := by decide +kernel
theorem dX1_init_38 : decode cX1_init 38 = .ok (.aload_n 0, 1) := by decide +kernel
theorem dX1_init_39 : decode cX1_init 39 = .ok (.iconst 0, 1) := by decide +kernel
theorem dX1_init_40 : decode cX1_init 40 = .ok (.putfield 18, 3) := by decide +kernel
theorem dX1_init_43 : decode cX1_init 43 = .ok (.aload_n 0, 1) := by decide +kernel
theorem dX1_init_44 : decode cX1_init 44 = .ok (.iconst (-1), 1) := by decide +kernel
theorem dX1_init_45 : decode cX1_init 45 = .ok (.putfield 22, 3) := by decide +kernel
theorem dX1_init_48 : decode cX1_init 48 = .ok (.return_, 1) := by decide +kernel
theorem dX1_hoursInBed_0 : decode cX1_hoursInBed 0 = .ok (.aload_n 0, 1) := by decide +kernel
theorem dX1_hoursInBed_1 : decode cX1_hoursInBed 1 = .ok (.getfield 18, 3) := by decide +kernel
theorem dX1_hoursInBed_4 : decode cX1_hoursInBed 4 = .ok (.ireturn, 1) := by decide +kernel
theorem dX1_firstHearer_0 : decode cX1_firstHearer 0 = .ok (.aload_n 0, 1) := by decide +kernel
theorem dX1_firstHearer_1 : decode cX1_firstHearer 1 = .ok (.getfield 22, 3) := by decide +kernel
theorem dX1_firstHearer_4 : decode cX1_firstHearer 4 = .ok (.ireturn, 1) := by decide +kernel
theorem dX1_make_0 : decode cX1_make 0 = .ok (.aload_n 0, 1) := by decide +kernel
theorem dX1_make_1 : decode cX1_make 1 = .ok (.iconst (-1), 1) := by decide +kernel
theorem dX1_make_2 : decode cX1_make 2 = .ok (.putfield 22, 3) := by decide +kernel
theorem dX1_make_5 : decode cX1_make 5 = .ok (.aload_n 0, 1) := by decide +kernel
theorem dX1_make_6 : decode cX1_make 6 = .ok (.aload_n 0, 1) := by decide +kernel
theorem dX1_make_7 : decode cX1_make 7 = .ok (.aload_n 1, 1) := by decide +kernel
theorem dX1_make_8 : decode cX1_make 8 = .ok (.iload_n 2, 1) := by decide +kernel
theorem dX1_make_9 : decode cX1_make 9 = .ok (.iconst 0, 1) := by decide +kernel
theorem dX1_make_10 : decode cX1_make 10 = .ok (.iload_n 3, 1) := by decide +kernel
theorem dX1_make_11 : decode cX1_make 11 = .ok (.iconst 3, 1) := by decide +kernel
theorem dX1_make_12 : decode cX1_make 12 = .ok (.invokestatic 25, 3) := by decide +kernel
theorem dX1_make_15 : decode cX1_make 15 = .ok (.invokevirtual 31, 3) := by decide +kernel
theorem dX1_make_18 : decode cX1_make 18 = .ok (.putfield 18, 3) := by decide +kernel
theorem dX1_make_21 : decode cX1_make 21 = .ok (.return_, 1) := by decide +kernel
theorem dX1_most_0 : decode cX1_most 0 = .ok (.iload_n 3, 1) := by decide +kernel
theorem dX1_most_1 : decode cX1_most 1 = .ok (.iload 4, 2) := by decide +kernel
theorem dX1_most_3 : decode cX1_most 3 = .ok (.if_icmp .ge 12, 3) := by decide +kernel
theorem dX1_most_6 : decode cX1_most 6 = .ok (.iload_n 3, 1) := by decide +kernel
theorem dX1_most_7 : decode cX1_most 7 = .ok (.aload_n 0, 1) := by decide +kernel
theorem dX1_most_8 : decode cX1_most 8 = .ok (.getfield 11, 3) := by decide +kernel
theorem dX1_most_11 : decode cX1_most 11 = .ok (.arraylength, 1) := by decide +kernel
theorem dX1_most_12 : decode cX1_most 12 = .ok (.if_icmp .lt 5, 3) := by decide +kernel
theorem dX1_most_15 : decode cX1_most 15 = .ok (.iconst 0, 1) := by decide +kernel
theorem dX1_most_16 : decode cX1_most 16 = .ok (.ireturn, 1) := by decide +kernel
theorem dX1_most_17 : decode cX1_most 17 = .ok (.aload_n 0, 1) := by decide +kernel
theorem dX1_most_18 : decode cX1_most 18 = .ok (.getfield 11, 3) := by decide +kernel
theorem dX1_most_21 : decode cX1_most 21 = .ok (.iload_n 3, 1) := by decide +kernel
theorem dX1_most_22 : decode cX1_most 22 = .ok (.aaload, 1) := by decide +kernel
theorem dX1_most_23 : decode cX1_most 23 = .ok (.astore 5, 2) := by decide +kernel
theorem dX1_most_25 : decode cX1_most 25 = .ok (.iconst (-1), 1) := by decide +kernel
theorem dX1_most_26 : decode cX1_most 26 = .ok (.istore 6, 2) := by decide +kernel
theorem dX1_most_28 : decode cX1_most 28 = .ok (.iconst (-1), 1) := by decide +kernel
theorem dX1_most_29 : decode cX1_most 29 = .ok (.istore 7, 2) := by decide +kernel
theorem dX1_most_31 : decode cX1_most 31 = .ok (.iload 7, 2) := by decide +kernel
theorem dX1_most_33 : decode cX1_most 33 = .ok (.aload_n 1, 1) := by decide +kernel
theorem dX1_most_34 : decode cX1_most 34 = .ok (.invokevirtual 35, 3) := by decide +kernel
theorem dX1_most_37 : decode cX1_most 37 = .ok (.if_icmp .ge 97, 3) := by decide +kernel
theorem dX1_most_40 : decode cX1_most 40 = .ok (.iload 7, 2) := by decide +kernel
theorem dX1_most_42 : decode cX1_most 42 = .ok (.iload_n 2, 1) := by decide +kernel
theorem dX1_most_43 : decode cX1_most 43 = .ok (.if_icmp .ne 6, 3) := by decide +kernel
theorem dX1_most_46 : decode cX1_most 46 = .ok (.goto 82, 3) := by decide +kernel
theorem dX1_most_49 : decode cX1_most 49 = .ok (.aload 5, 2) := by decide +kernel
theorem dX1_most_51 : decode cX1_most 51 = .ok (.aload_n 1, 1) := by decide +kernel
theorem dX1_most_52 : decode cX1_most 52 = .ok (.invokevirtual 39, 3) := by decide +kernel
theorem dX1_most_55 : decode cX1_most 55 = .ok (.aload 5, 2) := by decide +kernel
theorem dX1_most_57 : decode cX1_most 57 = .ok (.iload 7, 2) := by decide +kernel
theorem dX1_most_59 : decode cX1_most 59 = .ok (.invokevirtual 43, 3) := by decide +kernel
theorem dX1_most_62 : decode cX1_most 62 = .ok (.aload 5, 2) := by decide +kernel
theorem dX1_most_64 : decode cX1_most 64 = .ok (.invokevirtual 47, 3) := by decide +kernel
theorem dX1_most_67 : decode cX1_most 67 = .ok (.iload_n 2, 1) := by decide +kernel
theorem dX1_most_68 : decode cX1_most 68 = .ok (.if_icmp .ne 7, 3) := by decide +kernel
theorem dX1_most_71 : decode cX1_most 71 = .ok (.iconst 1, 1) := by decide +kernel
theorem dX1_most_72 : decode cX1_most 72 = .ok (.goto 4, 3) := by decide +kernel
theorem dX1_most_75 : decode cX1_most 75 = .ok (.iconst 0, 1) := by decide +kernel
theorem dX1_most_76 : decode cX1_most 76 = .ok (.istore 8, 2) := by decide +kernel
theorem dX1_most_78 : decode cX1_most 78 = .ok (.aload 5, 2) := by decide +kernel
theorem dX1_most_80 : decode cX1_most 80 = .ok (.invokevirtual 50, 3) := by decide +kernel
theorem dX1_most_83 : decode cX1_most 83 = .ok (.iload 8, 2) := by decide +kernel
theorem dX1_most_85 : decode cX1_most 85 = .ok (.aload_n 0, 1) := by decide +kernel
theorem dX1_most_86 : decode cX1_most 86 = .ok (.aload 5, 2) := by decide +kernel
theorem dX1_most_88 : decode cX1_most 88 = .ok (.iload_n 2, 1) := by decide +kernel
theorem dX1_most_89 : decode cX1_most 89 = .ok (.iload_n 3, 1) := by decide +kernel
theorem dX1_most_90 : decode cX1_most 90 = .ok (.iconst 1, 1) := by decide +kernel
theorem dX1_most_91 : decode cX1_most 91 = .ok (.iadd, 1) := by decide +kernel
theorem dX1_most_92 : decode cX1_most 92 = .ok (.iload 4, 2) := by decide +kernel
theorem dX1_most_94 : decode cX1_most 94 = .ok (.invokevirtual 31, 3) := by decide +kernel
theorem dX1_most_97 : decode cX1_most 97 = .ok (.iadd, 1) := by decide +kernel
theorem dX1_most_98 : decode cX1_most 98 = .ok (.istore 8, 2) := by decide +kernel
theorem dX1_most_100 : decode cX1_most 100 = .ok (.iload 8, 2) := by decide +kernel
theorem dX1_most_102 : decode cX1_most 102 = .ok (.iload 6, 2) := by decide +kernel
theorem dX1_most_104 : decode cX1_most 104 = .ok (.if_icmp .le 24, 3) := by decide +kernel
theorem dX1_most_107 : decode cX1_most 107 = .ok (.iload 8, 2) := by decide +kernel
theorem dX1_most_109 : decode cX1_most 109 = .ok (.istore 6, 2) := by decide +kernel
theorem dX1_most_111 : decode cX1_most 111 = .ok (.aload_n 0, 1) := by decide +kernel
theorem dX1_most_112 : decode cX1_most 112 = .ok (.iload_n 3, 1) := by decide +kernel
theorem dX1_most_113 : decode cX1_most 113 = .ok (.ifCond .ne 8, 3) := by decide +kernel
theorem dX1_most_116 : decode cX1_most 116 = .ok (.iload 7, 2) := by decide +kernel
theorem dX1_most_118 : decode cX1_most 118 = .ok (.goto 7, 3) := by decide +kernel
theorem dX1_most_121 : decode cX1_most 121 = .ok (.aload_n 0, 1) := by decide +kernel
theorem dX1_most_122 : decode cX1_most 122 = .ok (.getfield 22, 3) := by decide +kernel
theorem dX1_most_125 : decode cX1_most 125 = .ok (.putfield 22, 3) := by decide +kernel
theorem dX1_most_128 : decode cX1_most 128 = .ok (.iinc 7 1, 3) := by decide +kernel
theorem dX1_most_131 : decode cX1_most 131 = .ok (.goto (-100), 3) := by decide +kernel
theorem dX1_most_134 : decode cX1_most 134 = .ok (.iload 6, 2) := by decide +kernel
theorem dX1_most_136 : decode cX1_most 136 = .ok (.ireturn, 1) := by decide +kernel
theorem dX2_init_0 : decode cX2_init 0 = .ok (.aload_n 0, 1) := by decide +kernel
theorem dX2_init_1 : decode cX2_init 1 = .ok (.invokespecial 3, 3) := by decide +kernel
theorem dX2_init_4 : decode cX2_init 4 = .ok (.aload_n 0, 1) := by decide +kernel
theorem dX2_init_5 : decode cX2_init 5 = .ok (.iconst 5, 1) := by decide +kernel
theorem dX2_init_6 : decode cX2_init 6 = .ok (.newarray .int, 2) := by decide +kernel
theorem dX2_init_8 : decode cX2_init 8 = .ok (.putfield 9, 3) := by decide +kernel
theorem dX2_init_11 : decode cX2_init 11 = .ok (.aload_n 0, 1) := by decide +kernel
theorem dX2_init_12 : decode cX2_init 12 = .ok (.iconst 5, 1) := by decide +kernel
theorem dX2_init_13 : decode cX2_init 13 = .ok (.newarray .int, 2) := by decide +kernel
theorem dX2_init_15 : decode cX2_init 15 = .ok (.putfield 15, 3) := by decide +kernel
theorem dX2_init_18 : decode cX2_init 18 = .ok (.aload_n 0, 1) := by decide +kernel
theorem dX2_init_19 : decode cX2_init 19 = .ok (.iconst 5, 1) := by decide +kernel
theorem dX2_init_20 : decode cX2_init 20 = .ok (.newarray .boolean, 2) := by decide +kernel
theorem dX2_init_22 : decode cX2_init 22 = .ok (.putfield 18, 3) := by decide +kernel
theorem dX2_init_25 : decode cX2_init 25 = .ok (.aload_n 0, 1) := by decide +kernel
theorem dX2_init_26 : decode cX2_init 26 = .ok (.iconst 5, 1) := by decide +kernel
theorem dX2_init_27 : decode cX2_init 27 = .ok (.newarray .int, 2) := by decide +kernel
theorem dX2_init_29 : decode cX2_init 29 = .ok (.putfield 22, 3) := by decide +kernel
theorem dX2_init_32 : decode cX2_init 32 = .ok (.aload_n 0, 1) := by decide +kernel
theorem dX2_init_33 : decode cX2_init 33 = .ok (.iconst 0, 1) := by decide +kernel
theorem dX2_init_34 : decode cX2_init 34 = .ok (.putfield 25, 3) := by decide +kernel
theorem dX2_init_37 : decode cX2_init 37 = .ok (.aload_n 0, 1) := by decide +kernel
theorem dX2_init_38 : decode cX2_init 38 = .ok (.iconst 0, 1) := by decide +kernel
theorem dX2_init_39 : decode cX2_init 39 = .ok (.putfield 29, 3) := by decide +kernel
theorem dX2_init_42 : decode cX2_init 42 = .ok (.aload_n 0, 1) := by decide +kernel
theorem dX2_init_43 : decode cX2_init 43 = .ok (.iconst 0, 1) := by decide +kernel
theorem dX2_init_44 : decode cX2_init 44 = .ok (.putfield 32, 3) := by decide +kernel
theorem dX2_init_47 : decode cX2_init 47 = .ok (.return_, 1) := by decide +kernel
theorem dX2_begin_0 : decode cX2_begin 0 = .ok (.aload_n 0, 1) := by decide +kernel
theorem dX2_begin_1 : decode cX2_begin 1 = .ok (.aload_n 1, 1) := by decide +kernel
theorem dX2_begin_2 : decode cX2_begin 2 = .ok (.invokevirtual 35, 3) := by decide +kernel
theorem dX2_begin_5 : decode cX2_begin 5 = .ok (.iconst 5, 1) := by decide +kernel
theorem dX2_begin_6 : decode cX2_begin 6 = .ok (.invokestatic 40, 3) := by decide +kernel
theorem dX2_begin_9 : decode cX2_begin 9 = .ok (.putfield 25, 3) := by decide +kernel
theorem dX2_begin_12 : decode cX2_begin 12 = .ok (.aload_n 0, 1) := by decide +kernel
theorem dX2_begin_13 : decode cX2_begin 13 = .ok (.aload_n 1, 1) := by decide +kernel
theorem dX2_begin_14 : decode cX2_begin 14 = .ok (.invokevirtual 46, 3) := by decide +kernel
theorem dX2_begin_17 : decode cX2_begin 17 = .ok (.putfield 29, 3) := by decide +kernel
theorem dX2_begin_20 : decode cX2_begin 20 = .ok (.aload_n 0, 1) := by decide +kernel
theorem dX2_begin_21 : decode cX2_begin 21 = .ok (.iconst 0, 1) := by decide +kernel
theorem dX2_begin_22 : decode cX2_begin 22 = .ok (.putfield 32, 3) := by decide +kernel
theorem dX2_begin_25 : decode cX2_begin 25 = .ok (.iconst 0, 1) := by decide +kernel
theorem dX2_begin_26 : decode cX2_begin 26 = .ok (.istore_n 2, 1) := by decide +kernel
theorem dX2_begin_27 : decode cX2_begin 27 = .ok (.iload_n 2, 1) := by decide +kernel
theorem dX2_begin_28 : decode cX2_begin 28 = .ok (.aload_n 0, 1) := by decide +kernel
theorem dX2_begin_29 : decode cX2_begin 29 = .ok (.getfield 25, 3) := by decide +kernel
theorem dX2_begin_32 : decode cX2_begin 32 = .ok (.if_icmp .ge 45, 3) := by decide +kernel
theorem dX2_begin_35 : decode cX2_begin 35 = .ok (.aload_n 0, 1) := by decide +kernel
theorem dX2_begin_36 : decode cX2_begin 36 = .ok (.getfield 9, 3) := by decide +kernel
theorem dX2_begin_39 : decode cX2_begin 39 = .ok (.iload_n 2, 1) := by decide +kernel
theorem dX2_begin_40 : decode cX2_begin 40 = .ok (.aload_n 1, 1) := by decide +kernel
theorem dX2_begin_41 : decode cX2_begin 41 = .ok (.iload_n 2, 1) := by decide +kernel
theorem dX2_begin_42 : decode cX2_begin 42 = .ok (.invokevirtual 48, 3) := by decide +kernel
theorem dX2_begin_45 : decode cX2_begin 45 = .ok (.iastore, 1) := by decide +kernel
theorem dX2_begin_46 : decode cX2_begin 46 = .ok (.aload_n 0, 1) := by decide +kernel
theorem dX2_begin_47 : decode cX2_begin 47 = .ok (.getfield 15, 3) := by decide +kernel
theorem dX2_begin_50 : decode cX2_begin 50 = .ok (.iload_n 2, 1) := by decide +kernel
theorem dX2_begin_51 : decode cX2_begin 51 = .ok (.aload_n 1, 1) := by decide +kernel
theorem dX2_begin_52 : decode cX2_begin 52 = .ok (.iload_n 2, 1) := by decide +kernel
theorem dX2_begin_53 : decode cX2_begin 53 = .ok (.invokevirtual 52, 3) := by decide +kernel
theorem dX2_begin_56 : decode cX2_begin 56 = .ok (.iastore, 1) := by decide +kernel
theorem dX2_begin_57 : decode cX2_begin 57 = .ok (.aload_n 0, 1) := by decide +kernel
theorem dX2_begin_58 : decode cX2_begin 58 = .ok (.getfield 18, 3) := by decide +kernel
theorem dX2_begin_61 : decode cX2_begin 61 = .ok (.iload_n 2, 1) := by decide +kernel
theorem dX2_begin_62 : decode cX2_begin 62 = .ok (.iconst 0, 1) := by decide +kernel
theorem dX2_begin_63 : decode cX2_begin 63 = .ok (.bastore, 1) := by decide +kernel
theorem dX2_begin_64 : decode cX2_begin 64 = .ok (.aload_n 0, 1) := by decide +kernel
theorem dX2_begin_65 : decode cX2_begin 65 = .ok (.getfield 22, 3) := by decide +kernel
theorem dX2_begin_68 : decode cX2_begin 68 = .ok (.iload_n 2, 1) := by decide +kernel
theorem dX2_begin_69 : decode cX2_begin 69 = .ok (.iconst 0, 1) := by decide +kernel
theorem dX2_begin_70 : decode cX2_begin 70 = .ok (.iastore, 1) := by decide +kernel
theorem dX2_begin_71 : decode cX2_begin 71 = .ok (.iinc 2 1, 3) := by decide +kernel
theorem dX2_begin_74 : decode cX2_begin 74 = .ok (.goto (-47), 3) := by decide +kernel
theorem dX2_begin_77 : decode cX2_begin 77 = .ok (.return_, 1) := by decide +kernel
theorem dX2_copyFrom_0 : decode cX2_copyFrom 0 = .ok (.aload_n 0, 1) := by decide +kernel
theorem dX2_copyFrom_1 : decode cX2_copyFrom 1 = .ok (.aload_n 1, 1) := by decide +kernel
theorem dX2_copyFrom_2 : decode cX2_copyFrom 2 = .ok (.getfield 25, 3) := by decide +kernel
theorem dX2_copyFrom_5 : decode cX2_copyFrom 5 = .ok (.putfield 25, 3) := by decide +kernel
theorem dX2_copyFrom_8 : decode cX2_copyFrom 8 = .ok (.aload_n 0, 1) := by decide +kernel
theorem dX2_copyFrom_9 : decode cX2_copyFrom 9 = .ok (.aload_n 1, 1) := by decide +kernel
theorem dX2_copyFrom_10 : decode cX2_copyFrom 10 = .ok (.getfield 29, 3) := by decide +kernel
theorem dX2_copyFrom_13 : decode cX2_copyFrom 13 = .ok (.putfield 29, 3) := by decide +kernel
theorem dX2_copyFrom_16 : decode cX2_copyFrom 16 = .ok (.aload_n 0, 1) := by decide +kernel
theorem dX2_copyFrom_17 : decode cX2_copyFrom 17 = .ok (.aload_n 1, 1) := by decide +kernel
theorem dX2_copyFrom_18 : decode cX2_copyFrom 18 = .ok (.getfield 32, 3) := by decide +kernel
theorem dX2_copyFrom_21 : decode cX2_copyFrom 21 = .ok (.putfield 32, 3) := by decide +kernel
theorem dX2_copyFrom_24 : decode cX2_copyFrom 24 = .ok (.iconst 0, 1) := by decide +kernel
theorem dX2_copyFrom_25 : decode cX2_copyFrom 25 = .ok (.istore_n 2, 1) := by decide +kernel
theorem dX2_copyFrom_26 : decode cX2_copyFrom 26 = .ok (.iload_n 2, 1) := by decide +kernel
theorem dX2_copyFrom_27 : decode cX2_copyFrom 27 = .ok (.aload_n 0, 1) := by decide +kernel
theorem dX2_copyFrom_28 : decode cX2_copyFrom 28 = .ok (.getfield 25, 3) := by decide +kernel
theorem dX2_copyFrom_31 : decode cX2_copyFrom 31 = .ok (.if_icmp .ge 57, 3) := by decide +kernel
theorem dX2_copyFrom_34 : decode cX2_copyFrom 34 = .ok (.aload_n 0, 1) := by decide +kernel
theorem dX2_copyFrom_35 : decode cX2_copyFrom 35 = .ok (.getfield 9, 3) := by decide +kernel
theorem dX2_copyFrom_38 : decode cX2_copyFrom 38 = .ok (.iload_n 2, 1) := by decide +kernel
theorem dX2_copyFrom_39 : decode cX2_copyFrom 39 = .ok (.aload_n 1, 1) := by decide +kernel
theorem dX2_copyFrom_40 : decode cX2_copyFrom 40 = .ok (.getfield 9, 3) := by decide +kernel
theorem dX2_copyFrom_43 : decode cX2_copyFrom 43 = .ok (.iload_n 2, 1) := by decide +kernel
theorem dX2_copyFrom_44 : decode cX2_copyFrom 44 = .ok (.iaload, 1) := by decide +kernel
theorem dX2_copyFrom_45 : decode cX2_copyFrom 45 = .ok (.iastore, 1) := by decide +kernel
theorem dX2_copyFrom_46 : decode cX2_copyFrom 46 = .ok (.aload_n 0, 1) := by decide +kernel
theorem dX2_copyFrom_47 : decode cX2_copyFrom 47 = .ok (.getfield 15, 3) := by decide +kernel
theorem dX2_copyFrom_50 : decode cX2_copyFrom 50 = .ok (.iload_n 2, 1) := by decide +kernel
theorem dX2_copyFrom_51 : decode cX2_copyFrom 51 = .ok (.aload_n 1, 1) := by decide +kernel
theorem dX2_copyFrom_52 : decode cX2_copyFrom 52 = .ok (.getfield 15, 3) := by decide +kernel
theorem dX2_copyFrom_55 : decode cX2_copyFrom 55 = .ok (.iload_n 2, 1) := by decide +kernel
theorem dX2_copyFrom_56 : decode cX2_copyFrom 56 = .ok (.iaload, 1) := by decide +kernel
theorem dX2_copyFrom_57 : decode cX2_copyFrom 57 = .ok (.iastore, 1) := by decide +kernel
theorem dX2_copyFrom_58 : decode cX2_copyFrom 58 = .ok (.aload_n 0, 1) := by decide +kernel
theorem dX2_copyFrom_59 : decode cX2_copyFrom 59 = .ok (.getfield 18, 3) := by decide +kernel
theorem dX2_copyFrom_62 : decode cX2_copyFrom 62 = .ok (.iload_n 2, 1) := by decide +kernel
theorem dX2_copyFrom_63 : decode cX2_copyFrom 63 = .ok (.aload_n 1, 1) := by decide +kernel
theorem dX2_copyFrom_64 : decode cX2_copyFrom 64 = .ok (.getfield 18, 3) := by decide +kernel
theorem dX2_copyFrom_67 : decode cX2_copyFrom 67 = .ok (.iload_n 2, 1) := by decide +kernel
theorem dX2_copyFrom_68 : decode cX2_copyFrom 68 = .ok (.baload, 1) := by decide +kernel
theorem dX2_copyFrom_69 : decode cX2_copyFrom 69 = .ok (.bastore, 1) := by decide +kernel
theorem dX2_copyFrom_70 : decode cX2_copyFrom 70 = .ok (.aload_n 0, 1) := by decide +kernel
theorem dX2_copyFrom_71 : decode cX2_copyFrom 71 = .ok (.getfield 22, 3) := by decide +kernel
theorem dX2_copyFrom_74 : decode cX2_copyFrom 74 = .ok (.iload_n 2, 1) := by decide +kernel
theorem dX2_copyFrom_75 : decode cX2_copyFrom 75 = .ok (.aload_n 1, 1) := by decide +kernel
theorem dX2_copyFrom_76 : decode cX2_copyFrom 76 = .ok (.getfield 22, 3) := by decide +kernel
theorem dX2_copyFrom_79 : decode cX2_copyFrom 79 = .ok (.iload_n 2, 1) := by decide +kernel
theorem dX2_copyFrom_80 : decode cX2_copyFrom 80 = .ok (.iaload, 1) := by decide +kernel
theorem dX2_copyFrom_81 : decode cX2_copyFrom 81 = .ok (.iastore, 1) := by decide +kernel
theorem dX2_copyFrom_82 : decode cX2_copyFrom 82 = .ok (.iinc 2 1, 3) := by decide +kernel
theorem dX2_copyFrom_85 : decode cX2_copyFrom 85 = .ok (.goto (-59), 3) := by decide +kernel
theorem dX2_copyFrom_88 : decode cX2_copyFrom 88 = .ok (.return_, 1) := by decide +kernel
theorem dX2_knows_0 : decode cX2_knows 0 = .ok (.iload_n 1, 1) := by decide +kernel
theorem dX2_knows_1 : decode cX2_knows 1 = .ok (.ifCond .lt 15, 3) := by decide +kernel
theorem dX2_knows_4 : decode cX2_knows 4 = .ok (.iload_n 1, 1) := by decide +kernel
theorem dX2_knows_5 : decode cX2_knows 5 = .ok (.aload_n 0, 1) := by decide +kernel
theorem dX2_knows_6 : decode cX2_knows 6 = .ok (.getfield 25, 3) := by decide +kernel
theorem dX2_knows_9 : decode cX2_knows 9 = .ok (.if_icmp .ge 7, 3) := by decide +kernel
theorem dX2_knows_12 : decode cX2_knows 12 = .ok (.iconst 1, 1) := by decide +kernel
theorem dX2_knows_13 : decode cX2_knows 13 = .ok (.goto 4, 3) := by decide +kernel
theorem dX2_knows_16 : decode cX2_knows 16 = .ok (.iconst 0, 1) := by decide +kernel
theorem dX2_knows_17 : decode cX2_knows 17 = .ok (.ireturn, 1) := by decide +kernel
theorem dX2_lodgers_0 : decode cX2_lodgers 0 = .ok (.aload_n 0, 1) := by decide +kernel
theorem dX2_lodgers_1 : decode cX2_lodgers 1 = .ok (.getfield 25, 3) := by decide +kernel
theorem dX2_lodgers_4 : decode cX2_lodgers 4 = .ok (.ireturn, 1) := by decide +kernel
theorem dX2_drowse_0 : decode cX2_drowse 0 = .ok (.aload_n 0, 1) := by decide +kernel
theorem dX2_drowse_1 : decode cX2_drowse 1 = .ok (.getfield 29, 3) := by decide +kernel
theorem dX2_drowse_4 : decode cX2_drowse 4 = .ok (.ireturn, 1) := by decide +kernel
theorem dX2_hoursPassed_0 : decode cX2_hoursPassed 0 = .ok (.aload_n 0, 1) := by decide +kernel
theorem dX2_hoursPassed_1 : decode cX2_hoursPassed 1 = .ok (.getfield 32, 3) := by decide +kernel
theorem dX2_hoursPassed_4 : decode cX2_hoursPassed 4 = .ok (.ireturn, 1) := by decide +kernel
theorem dX2_kindOf_0 : decode cX2_kindOf 0 = .ok (.aload_n 0, 1) := by decide +kernel
theorem dX2_kindOf_1 : decode cX2_kindOf 1 = .ok (.iload_n 1, 1) := by decide +kernel
theorem dX2_kindOf_2 : decode cX2_kindOf 2 = .ok (.invokevirtual 55, 3) := by decide +kernel
theorem dX2_kindOf_5 : decode cX2_kindOf 5 = .ok (.ifCond .eq 12, 3) := by decide +kernel
theorem dX2_kindOf_8 : decode cX2_kindOf 8 = .ok (.aload_n 0, 1) := by decide +kernel
theorem dX2_kindOf_9 : decode cX2_kindOf 9 = .ok (.getfield 9, 3) := by decide +kernel
theorem dX2_kindOf_12 : decode cX2_kindOf 12 = .ok (.iload_n 1, 1) := by decide +kernel
theorem dX2_kindOf_13 : decode cX2_kindOf 13 = .ok (.iaload, 1) := by decide +kernel
theorem dX2_kindOf_14 : decode cX2_kindOf 14 = .ok (.goto 4, 3) := by decide +kernel
theorem dX2_kindOf_17 : decode cX2_kindOf 17 = .ok (.iconst (-1), 1) := by decide +kernel
theorem dX2_kindOf_18 : decode cX2_kindOf 18 = .ok (.ireturn, 1) := by decide +kernel
theorem dX2_tiredOf_0 : decode cX2_tiredOf 0 = .ok (.aload_n 0, 1) := by decide +kernel
theorem dX2_tiredOf_1 : decode cX2_tiredOf 1 = .ok (.iload_n 1, 1) := by decide +kernel
theorem dX2_tiredOf_2 : decode cX2_tiredOf 2 = .ok (.invokevirtual 55, 3) := by decide +kernel
theorem dX2_tiredOf_5 : decode cX2_tiredOf 5 = .ok (.ifCond .eq 12, 3) := by decide +kernel
theorem dX2_tiredOf_8 : decode cX2_tiredOf 8 = .ok (.aload_n 0, 1) := by decide +kernel
theorem dX2_tiredOf_9 : decode cX2_tiredOf 9 = .ok (.getfield 15, 3) := by decide +kernel
theorem dX2_tiredOf_12 : decode cX2_tiredOf 12 = .ok (.iload_n 1, 1) := by decide +kernel
theorem dX2_tiredOf_13 : decode cX2_tiredOf 13 = .ok (.iaload, 1) := by decide +kernel
theorem dX2_tiredOf_14 : decode cX2_tiredOf 14 = .ok (.goto 4, 3) := by decide +kernel
theorem dX2_tiredOf_17 : decode cX2_tiredOf 17 = .ok (.iconst (-1), 1) := by decide +kernel
theorem dX2_tiredOf_18 : decode cX2_tiredOf 18 = .ok (.ireturn, 1) := by decide +kernel
theorem dX2_sleeps_0 : decode cX2_sleeps 0 = .ok (.aload_n 0, 1) := by decide +kernel
theorem dX2_sleeps_1 : decode cX2_sleeps 1 = .ok (.iload_n 1, 1) := by decide +kernel
theorem dX2_sleeps_2 : decode cX2_sleeps 2 = .ok (.invokevirtual 55, 3) := by decide +kernel
theorem dX2_sleeps_5 : decode cX2_sleeps 5 = .ok (.ifCond .eq 16, 3) := by decide +kernel
theorem dX2_sleeps_8 : decode cX2_sleeps 8 = .ok (.aload_n 0, 1) := by decide +kernel
theorem dX2_sleeps_9 : decode cX2_sleeps 9 = .ok (.getfield 18, 3) := by decide +kernel
theorem dX2_sleeps_12 : decode cX2_sleeps 12 = .ok (.iload_n 1, 1) := by decide +kernel
theorem dX2_sleeps_13 : decode cX2_sleeps 13 = .ok (.baload, 1) := by decide +kernel
theorem dX2_sleeps_14 : decode cX2_sleeps 14 = .ok (.ifCond .eq 7, 3) := by decide +kernel
theorem dX2_sleeps_17 : decode cX2_sleeps 17 = .ok (.iconst 1, 1) := by decide +kernel
theorem dX2_sleeps_18 : decode cX2_sleeps 18 = .ok (.goto 4, 3) := by decide +kernel
theorem dX2_sleeps_21 : decode cX2_sleeps 21 = .ok (.iconst 0, 1) := by decide +kernel
theorem dX2_sleeps_22 : decode cX2_sleeps 22 = .ok (.ireturn, 1) := by decide +kernel
theorem dX2_bedHoursOf_0 : decode cX2_bedHoursOf 0 = .ok (.aload_n 0, 1) := by decide +kernel
theorem dX2_bedHoursOf_1 : decode cX2_bedHoursOf 1 = .ok (.iload_n 1, 1) := by decide +kernel
theorem dX2_bedHoursOf_2 : decode cX2_bedHoursOf 2 = .ok (.invokevirtual 55, 3) := by decide +kernel
theorem dX2_bedHoursOf_5 : decode cX2_bedHoursOf 5 = .ok (.ifCond .eq 12, 3) := by decide +kernel
theorem dX2_bedHoursOf_8 : decode cX2_bedHoursOf 8 = .ok (.aload_n 0, 1) := by decide +kernel
theorem dX2_bedHoursOf_9 : decode cX2_bedHoursOf 9 = .ok (.getfield 22, 3) := by decide +kernel
theorem dX2_bedHoursOf_12 : decode cX2_bedHoursOf 12 = .ok (.iload_n 1, 1) := by decide +kernel
theorem dX2_bedHoursOf_13 : decode cX2_bedHoursOf 13 = .ok (.iaload, 1) := by decide +kernel
theorem dX2_bedHoursOf_14 : decode cX2_bedHoursOf 14 = .ok (.goto 4, 3) := by decide +kernel
theorem dX2_bedHoursOf_17 : decode cX2_bedHoursOf 17 = .ok (.iconst (-1), 1) := by decide +kernel
theorem dX2_bedHoursOf_18 : decode cX2_bedHoursOf 18 = .ok (.ireturn, 1) := by decide +kernel
theorem dX2_sleepers_0 : decode cX2_sleepers 0 = .ok (.iconst 0, 1) := by decide +kernel
theorem dX2_sleepers_1 : decode cX2_sleepers 1 = .ok (.istore_n 1, 1) := by decide +kernel
theorem dX2_sleepers_2 : decode cX2_sleepers 2 = .ok (.iconst 0, 1) := by decide +kernel
theorem dX2_sleepers_3 : decode cX2_sleepers 3 = .ok (.istore_n 2, 1) := by decide +kernel
theorem dX2_sleepers_4 : decode cX2_sleepers 4 = .ok (.iload_n 2, 1) := by decide +kernel
theorem dX2_sleepers_5 : decode cX2_sleepers 5 = .ok (.aload_n 0, 1) := by decide +kernel
theorem dX2_sleepers_6 : decode cX2_sleepers 6 = .ok (.getfield 25, 3) := by decide +kernel
theorem dX2_sleepers_9 : decode cX2_sleepers 9 = .ok (.if_icmp .ge 26, 3) := by decide +kernel
theorem dX2_sleepers_12 : decode cX2_sleepers 12 = .ok (.iload_n 1, 1) := by decide +kernel
theorem dX2_sleepers_13 : decode cX2_sleepers 13 = .ok (.aload_n 0, 1) := by decide +kernel
theorem dX2_sleepers_14 : decode cX2_sleepers 14 = .ok (.getfield 18, 3) := by decide +kernel
theorem dX2_sleepers_17 : decode cX2_sleepers 17 = .ok (.iload_n 2, 1) := by decide +kernel
theorem dX2_sleepers_18 : decode cX2_sleepers 18 = .ok (.baload, 1) := by decide +kernel
theorem dX2_sleepers_19 : decode cX2_sleepers 19 = .ok (.ifCond .eq 7, 3) := by decide +kernel
theorem dX2_sleepers_22 : decode cX2_sleepers 22 = .ok (.iconst 1, 1) := by decide +kernel
theorem dX2_sleepers_23 : decode cX2_sleepers 23 = .ok (.goto 4, 3) := by decide +kernel
theorem dX2_sleepers_26 : decode cX2_sleepers 26 = .ok (.iconst 0, 1) := by decide +kernel
theorem dX2_sleepers_27 : decode cX2_sleepers 27 = .ok (.iadd, 1) := by decide +kernel
theorem dX2_sleepers_28 : decode cX2_sleepers 28 = .ok (.istore_n 1, 1) := by decide +kernel
theorem dX2_sleepers_29 : decode cX2_sleepers 29 = .ok (.iinc 2 1, 3) := by decide +kernel
theorem dX2_sleepers_32 : decode cX2_sleepers 32 = .ok (.goto (-28), 3) := by decide +kernel
theorem dX2_sleepers_35 : decode cX2_sleepers 35 = .ok (.iload_n 1, 1) := by decide +kernel
theorem dX2_sleepers_36 : decode cX2_sleepers 36 = .ok (.ireturn, 1) := by decide +kernel
theorem dX2_tiredTogether_0 : decode cX2_tiredTogether 0 = .ok (.iconst 0, 1) := by decide +kernel
theorem dX2_tiredTogether_1 : decode cX2_tiredTogether 1 = .ok (.istore_n 1, 1) := by decide +kernel
theorem dX2_tiredTogether_2 : decode cX2_tiredTogether 2 = .ok (.iconst 0, 1) := by decide +kernel
theorem dX2_tiredTogether_3 : decode cX2_tiredTogether 3 = .ok (.istore_n 2, 1) := by decide +kernel
theorem dX2_tiredTogether_4 : decode cX2_tiredTogether 4 = .ok (.iload_n 2, 1) := by decide +kernel
theorem dX2_tiredTogether_5 : decode cX2_tiredTogether 5 = .ok (.aload_n 0, 1) := by decide +kernel
theorem dX2_tiredTogether_6 : decode cX2_tiredTogether 6 = .ok (.getfield 25, 3) := by decide +kernel
theorem dX2_tiredTogether_9 : decode cX2_tiredTogether 9 = .ok (.if_icmp .ge 18, 3) := by decide +kernel
theorem dX2_tiredTogether_12 : decode cX2_tiredTogether 12 = .ok (.iload_n 1, 1) := by decide +kernel
theorem dX2_tiredTogether_13 : decode cX2_tiredTogether 13 = .ok (.aload_n 0, 1) := by decide +kernel
theorem dX2_tiredTogether_14 : decode cX2_tiredTogether 14 = .ok (.getfield 15, 3) := by decide +kernel
theorem dX2_tiredTogether_17 : decode cX2_tiredTogether 17 = .ok (.iload_n 2, 1) := by decide +kernel
theorem dX2_tiredTogether_18 : decode cX2_tiredTogether 18 = .ok (.iaload, 1) := by decide +kernel
theorem dX2_tiredTogether_19 : decode cX2_tiredTogether 19 = .ok (.iadd, 1) := by decide +kernel
theorem dX2_tiredTogether_20 : decode cX2_tiredTogether 20 = .ok (.istore_n 1, 1) := by decide +kernel
theorem dX2_tiredTogether_21 : decode cX2_tiredTogether 21 = .ok (.iinc 2 1, 3) := by decide +kernel
theorem dX2_tiredTogether_24 : decode cX2_tiredTogether 24 = .ok (.goto (-20), 3) := by decide +kernel
theorem dX2_tiredTogether_27 : decode cX2_tiredTogether 27 = .ok (.iload_n 1, 1) := by decide +kernel
theorem dX2_tiredTogether_28 : decode cX2_tiredTogether 28 = .ok (.ireturn, 1) := by decide +kernel
theorem dX2_whoseBed_0 : decode cX2_whoseBed 0 = .ok (.iconst (-1), 1) := by decide +kernel
theorem dX2_whoseBed_1 : decode cX2_whoseBed 1 = .ok (.istore_n 1, 1) := by decide +kernel
theorem dX2_whoseBed_2 : decode cX2_whoseBed 2 = .ok (.iconst 0, 1) := by decide +kernel
theorem dX2_whoseBed_3 : decode cX2_whoseBed 3 = .ok (.istore_n 2, 1) := by decide +kernel
theorem dX2_whoseBed_4 : decode cX2_whoseBed 4 = .ok (.iload_n 2, 1) := by decide +kernel
theorem dX2_whoseBed_5 : decode cX2_whoseBed 5 = .ok (.aload_n 0, 1) := by decide +kernel
theorem dX2_whoseBed_6 : decode cX2_whoseBed 6 = .ok (.getfield 25, 3) := by decide +kernel
theorem dX2_whoseBed_9 : decode cX2_whoseBed 9 = .ok (.if_icmp .ge 39, 3) := by decide +kernel
theorem dX2_whoseBed_12 : decode cX2_whoseBed 12 = .ok (.aload_n 0, 1) := by decide +kernel
theorem dX2_whoseBed_13 : decode cX2_whoseBed 13 = .ok (.iload_n 2, 1) := by decide +kernel
theorem dX2_whoseBed_14 : decode cX2_whoseBed 14 = .ok (.invokevirtual 59, 3) := by decide +kernel
theorem dX2_whoseBed_17 : decode cX2_whoseBed 17 = .ok (.ifCond .eq 25, 3) := by decide +kernel
theorem dX2_whoseBed_20 : decode cX2_whoseBed 20 = .ok (.iload_n 1, 1) := by decide +kernel
theorem dX2_whoseBed_21 : decode cX2_whoseBed 21 = .ok (.iconst (-1), 1) := by decide +kernel
theorem dX2_whoseBed_22 : decode cX2_whoseBed 22 = .ok (.if_icmp .eq 18, 3) := by decide +kernel
theorem dX2_whoseBed_25 : decode cX2_whoseBed 25 = .ok (.aload_n 0, 1) := by decide +kernel
theorem dX2_whoseBed_26 : decode cX2_whoseBed 26 = .ok (.getfield 15, 3) := by decide +kernel
theorem dX2_whoseBed_29 : decode cX2_whoseBed 29 = .ok (.iload_n 2, 1) := by decide +kernel
theorem dX2_whoseBed_30 : decode cX2_whoseBed 30 = .ok (.iaload, 1) := by decide +kernel
theorem dX2_whoseBed_31 : decode cX2_whoseBed 31 = .ok (.aload_n 0, 1) := by decide +kernel
theorem dX2_whoseBed_32 : decode cX2_whoseBed 32 = .ok (.getfield 15, 3) := by decide +kernel
theorem dX2_whoseBed_35 : decode cX2_whoseBed 35 = .ok (.iload_n 1, 1) := by decide +kernel
theorem dX2_whoseBed_36 : decode cX2_whoseBed 36 = .ok (.iaload, 1) := by decide +kernel
theorem dX2_whoseBed_37 : decode cX2_whoseBed 37 = .ok (.if_icmp .ge 5, 3) := by decide +kernel
theorem dX2_whoseBed_40 : decode cX2_whoseBed 40 = .ok (.iload_n 2, 1) := by decide +kernel
theorem dX2_whoseBed_41 : decode cX2_whoseBed 41 = .ok (.istore_n 1, 1) := by decide +kernel
theorem dX2_whoseBed_42 : decode cX2_whoseBed 42 = .ok (.iinc 2 1, 3) := by decide +kernel
theorem dX2_whoseBed_45 : decode cX2_whoseBed 45 = .ok (.goto (-41), 3) := by decide +kernel
theorem dX2_whoseBed_48 : decode cX2_whoseBed 48 = .ok (.iload_n 1, 1) := by decide +kernel
theorem dX2_whoseBed_49 : decode cX2_whoseBed 49 = .ok (.ireturn, 1) := by decide +kernel
theorem dX2_giveCoffee_0 : decode cX2_giveCoffee 0 = .ok (.aload_n 0, 1) := by decide +kernel
theorem dX2_giveCoffee_1 : decode cX2_giveCoffee 1 = .ok (.iload_n 1, 1) := by decide +kernel
theorem dX2_giveCoffee_2 : decode cX2_giveCoffee 2 = .ok (.invokevirtual 55, 3) := by decide +kernel
theorem dX2_giveCoffee_5 : decode cX2_giveCoffee 5 = .ok (.ifCond .eq 30, 3) := by decide +kernel
theorem dX2_giveCoffee_8 : decode cX2_giveCoffee 8 = .ok (.aload_n 0, 1) := by decide +kernel
theorem dX2_giveCoffee_9 : decode cX2_giveCoffee 9 = .ok (.getfield 18, 3) := by decide +kernel
theorem dX2_giveCoffee_12 : decode cX2_giveCoffee 12 = .ok (.iload_n 1, 1) := by decide +kernel
theorem dX2_giveCoffee_13 : decode cX2_giveCoffee 13 = .ok (.baload, 1) := by decide +kernel
theorem dX2_giveCoffee_14 : decode cX2_giveCoffee 14 = .ok (.ifCond .ne 21, 3) := by decide +kernel
theorem dX2_giveCoffee_17 : decode cX2_giveCoffee 17 = .ok (.aload_n 0, 1) := by decide +kernel
theorem dX2_giveCoffee_18 : decode cX2_giveCoffee 18 = .ok (.getfield 15, 3) := by decide +kernel
theorem dX2_giveCoffee_21 : decode cX2_giveCoffee 21 = .ok (.iload_n 1, 1) := by decide +kernel
theorem dX2_giveCoffee_22 : decode cX2_giveCoffee 22 = .ok (.iconst 0, 1) := by decide +kernel
theorem dX2_giveCoffee_23 : decode cX2_giveCoffee 23 = .ok (.aload_n 0, 1) := by decide +kernel
theorem dX2_giveCoffee_24 : decode cX2_giveCoffee 24 = .ok (.getfield 15, 3) := by decide +kernel
theorem dX2_giveCoffee_27 : decode cX2_giveCoffee 27 = .ok (.iload_n 1, 1) := by decide +kernel
theorem dX2_giveCoffee_28 : decode cX2_giveCoffee 28 = .ok (.iaload, 1) := by decide +kernel
theorem dX2_giveCoffee_29 : decode cX2_giveCoffee 29 = .ok (.iconst 3, 1) := by decide +kernel
theorem dX2_giveCoffee_30 : decode cX2_giveCoffee 30 = .ok (.isub, 1) := by decide +kernel
theorem dX2_giveCoffee_31 : decode cX2_giveCoffee 31 = .ok (.invokestatic 62, 3) := by decide +kernel
theorem dX2_giveCoffee_34 : decode cX2_giveCoffee 34 = .ok (.iastore, 1) := by decide +kernel
theorem dX2_giveCoffee_35 : decode cX2_giveCoffee 35 = .ok (.return_, 1) := by decide +kernel
theorem dX2_giveLecture_0 : decode cX2_giveLecture 0 = .ok (.aload_n 0, 1) := by decide +kernel
theorem dX2_giveLecture_1 : decode cX2_giveLecture 1 = .ok (.iload_n 1, 1) := by decide +kernel
theorem dX2_giveLecture_2 : decode cX2_giveLecture 2 = .ok (.invokevirtual 55, 3) := by decide +kernel
theorem dX2_giveLecture_5 : decode cX2_giveLecture 5 = .ok (.ifCond .eq 27, 3) := by decide +kernel
theorem dX2_giveLecture_8 : decode cX2_giveLecture 8 = .ok (.aload_n 0, 1) := by decide +kernel
theorem dX2_giveLecture_9 : decode cX2_giveLecture 9 = .ok (.getfield 18, 3) := by decide +kernel
theorem dX2_giveLecture_12 : decode cX2_giveLecture 12 = .ok (.iload_n 1, 1) := by decide +kernel
theorem dX2_giveLecture_13 : decode cX2_giveLecture 13 = .ok (.baload, 1) := by decide +kernel
theorem dX2_giveLecture_14 : decode cX2_giveLecture 14 = .ok (.ifCond .ne 18, 3) := by decide +kernel
theorem dX2_giveLecture_17 : decode cX2_giveLecture 17 = .ok (.aload_n 0, 1) := by decide +kernel
theorem dX2_giveLecture_18 : decode cX2_giveLecture 18 = .ok (.getfield 15, 3) := by decide +kernel
theorem dX2_giveLecture_21 : decode cX2_giveLecture 21 = .ok (.iload_n 1, 1) := by decide +kernel
theorem dX2_giveLecture_22 : decode cX2_giveLecture 22 = .ok (.dup2, 1) := by decide +kernel
theorem dX2_giveLecture_23 : decode cX2_giveLecture 23 = .ok (.iaload, 1) := by decide +kernel
theorem dX2_giveLecture_24 : decode cX2_giveLecture 24 = .ok (.iconst 2, 1) := by decide +kernel
theorem dX2_giveLecture_25 : decode cX2_giveLecture 25 = .ok (.iadd, 1) := by decide +kernel
theorem dX2_giveLecture_26 : decode cX2_giveLecture 26 = .ok (.iastore, 1) := by decide +kernel
theorem dX2_giveLecture_27 : decode cX2_giveLecture 27 = .ok (.aload_n 0, 1) := by decide +kernel
theorem dX2_giveLecture_28 : decode cX2_giveLecture 28 = .ok (.iload_n 1, 1) := by decide +kernel
theorem dX2_giveLecture_29 : decode cX2_giveLecture 29 = .ok (.invokevirtual 65, 3) := by decide +kernel
theorem dX2_giveLecture_32 : decode cX2_giveLecture 32 = .ok (.return_, 1) := by decide +kernel
theorem dX2_passHour_0 : decode cX2_passHour 0 = .ok (.aload_n 0, 1) := by decide +kernel
theorem dX2_passHour_1 : decode cX2_passHour 1 = .ok (.invokevirtual 69, 3) := by decide +kernel
theorem dX2_passHour_4 : decode cX2_passHour 4 = .ok (.istore_n 1, 1) := by decide +kernel
theorem dX2_passHour_5 : decode cX2_passHour 5 = .ok (.aload_n 0, 1) := by decide +kernel
theorem dX2_passHour_6 : decode cX2_passHour 6 = .ok (.dup, 1) := by decide +kernel
theorem dX2_passHour_7 : decode cX2_passHour 7 = .ok (.getfield 32, 3) := by decide +kernel
theorem dX2_passHour_10 : decode cX2_passHour 10 = .ok (.iconst 1, 1) := by decide +kernel
theorem dX2_passHour_11 : decode cX2_passHour 11 = .ok (.iadd, 1) := by decide +kernel
theorem dX2_passHour_12 : decode cX2_passHour 12 = .ok (.putfield 32, 3) := by decide +kernel
theorem dX2_passHour_15 : decode cX2_passHour 15 = .ok (.aload_n 0, 1) := by decide +kernel
theorem dX2_passHour_16 : decode cX2_passHour 16 = .ok (.iload_n 1, 1) := by decide +kernel
theorem dX2_passHour_17 : decode cX2_passHour 17 = .ok (.invokevirtual 55, 3) := by decide +kernel
theorem dX2_passHour_20 : decode cX2_passHour 20 = .ok (.ifCond .eq 26, 3) := by decide +kernel
theorem dX2_passHour_23 : decode cX2_passHour 23 = .ok (.aload_n 0, 1) := by decide +kernel
theorem dX2_passHour_24 : decode cX2_passHour 24 = .ok (.getfield 22, 3) := by decide +kernel
theorem dX2_passHour_27 : decode cX2_passHour 27 = .ok (.iload_n 1, 1) := by decide +kernel
theorem dX2_passHour_28 : decode cX2_passHour 28 = .ok (.dup2, 1) := by decide +kernel
theorem dX2_passHour_29 : decode cX2_passHour 29 = .ok (.iaload, 1) := by decide +kernel
theorem dX2_passHour_30 : decode cX2_passHour 30 = .ok (.iconst 1, 1) := by decide +kernel
theorem dX2_passHour_31 : decode cX2_passHour 31 = .ok (.iadd, 1) := by decide +kernel
theorem dX2_passHour_32 : decode cX2_passHour 32 = .ok (.iastore, 1) := by decide +kernel
theorem dX2_passHour_33 : decode cX2_passHour 33 = .ok (.aload_n 0, 1) := by decide +kernel
theorem dX2_passHour_34 : decode cX2_passHour 34 = .ok (.getfield 15, 3) := by decide +kernel
theorem dX2_passHour_37 : decode cX2_passHour 37 = .ok (.iload_n 1, 1) := by decide +kernel
theorem dX2_passHour_38 : decode cX2_passHour 38 = .ok (.dup2, 1) := by decide +kernel
theorem dX2_passHour_39 : decode cX2_passHour 39 = .ok (.iaload, 1) := by decide +kernel
theorem dX2_passHour_40 : decode cX2_passHour 40 = .ok (.aload_n 0, 1) := by decide +kernel
theorem dX2_passHour_41 : decode cX2_passHour 41 = .ok (.getfield 29, 3) := by decide +kernel
theorem dX2_passHour_44 : decode cX2_passHour 44 = .ok (.iadd, 1) := by decide +kernel
theorem dX2_passHour_45 : decode cX2_passHour 45 = .ok (.iastore, 1) := by decide +kernel
theorem dX2_passHour_46 : decode cX2_passHour 46 = .ok (.iconst 0, 1) := by decide +kernel
theorem dX2_passHour_47 : decode cX2_passHour 47 = .ok (.istore_n 2, 1) := by decide +kernel
theorem dX2_passHour_48 : decode cX2_passHour 48 = .ok (.iload_n 2, 1) := by decide +kernel
theorem dX2_passHour_49 : decode cX2_passHour 49 = .ok (.aload_n 0, 1) := by decide +kernel
theorem dX2_passHour_50 : decode cX2_passHour 50 = .ok (.getfield 25, 3) := by decide +kernel
theorem dX2_passHour_53 : decode cX2_passHour 53 = .ok (.if_icmp .ge 82, 3) := by decide +kernel
theorem dX2_passHour_56 : decode cX2_passHour 56 = .ok (.aload_n 0, 1) := by decide +kernel
theorem dX2_passHour_57 : decode cX2_passHour 57 = .ok (.getfield 18, 3) := by decide +kernel
theorem dX2_passHour_60 : decode cX2_passHour 60 = .ok (.iload_n 2, 1) := by decide +kernel
theorem dX2_passHour_61 : decode cX2_passHour 61 = .ok (.baload, 1) := by decide +kernel
theorem dX2_passHour_62 : decode cX2_passHour 62 = .ok (.ifCond .eq 24, 3) := by decide +kernel
theorem dX2_passHour_65 : decode cX2_passHour 65 = .ok (.aload_n 0, 1) := by decide +kernel
theorem dX2_passHour_66 : decode cX2_passHour 66 = .ok (.getfield 15, 3) := by decide +kernel
theorem dX2_passHour_69 : decode cX2_passHour 69 = .ok (.iload_n 2, 1) := by decide +kernel
theorem dX2_passHour_70 : decode cX2_passHour 70 = .ok (.iconst 0, 1) := by decide +kernel
theorem dX2_passHour_71 : decode cX2_passHour 71 = .ok (.aload_n 0, 1) := by decide +kernel
theorem dX2_passHour_72 : decode cX2_passHour 72 = .ok (.getfield 15, 3) := by decide +kernel
theorem dX2_passHour_75 : decode cX2_passHour 75 = .ok (.iload_n 2, 1) := by decide +kernel
theorem dX2_passHour_76 : decode cX2_passHour 76 = .ok (.iaload, 1) := by decide +kernel
theorem dX2_passHour_77 : decode cX2_passHour 77 = .ok (.iconst 3, 1) := by decide +kernel
theorem dX2_passHour_78 : decode cX2_passHour 78 = .ok (.isub, 1) := by decide +kernel
theorem dX2_passHour_79 : decode cX2_passHour 79 = .ok (.invokestatic 62, 3) := by decide +kernel
theorem dX2_passHour_82 : decode cX2_passHour 82 = .ok (.iastore, 1) := by decide +kernel
theorem dX2_passHour_83 : decode cX2_passHour 83 = .ok (.goto 41, 3) := by decide +kernel
theorem dX2_passHour_86 : decode cX2_passHour 86 = .ok (.aload_n 0, 1) := by decide +kernel
theorem dX2_passHour_87 : decode cX2_passHour 87 = .ok (.getfield 15, 3) := by decide +kernel
theorem dX2_passHour_90 : decode cX2_passHour 90 = .ok (.iload_n 2, 1) := by decide +kernel
theorem dX2_passHour_91 : decode cX2_passHour 91 = .ok (.dup2, 1) := by decide +kernel
theorem dX2_passHour_92 : decode cX2_passHour 92 = .ok (.iaload, 1) := by decide +kernel
theorem dX2_passHour_93 : decode cX2_passHour 93 = .ok (.aload_n 0, 1) := by decide +kernel
theorem dX2_passHour_94 : decode cX2_passHour 94 = .ok (.getfield 9, 3) := by decide +kernel
theorem dX2_passHour_97 : decode cX2_passHour 97 = .ok (.iload_n 2, 1) := by decide +kernel
theorem dX2_passHour_98 : decode cX2_passHour 98 = .ok (.iaload, 1) := by decide +kernel
theorem dX2_passHour_99 : decode cX2_passHour 99 = .ok (.aload_n 0, 1) := by decide +kernel
theorem dX2_passHour_100 : decode cX2_passHour 100 = .ok (.getfield 15, 3) := by decide +kernel
theorem dX2_passHour_103 : decode cX2_passHour 103 = .ok (.iload_n 2, 1) := by decide +kernel
theorem dX2_passHour_104 : decode cX2_passHour 104 = .ok (.iaload, 1) := by decide +kernel
theorem dX2_passHour_105 : decode cX2_passHour 105 = .ok (.aload_n 0, 1) := by decide +kernel
theorem dX2_passHour_106 : decode cX2_passHour 106 = .ok (.getfield 32, 3) := by decide +kernel
theorem dX2_passHour_109 : decode cX2_passHour 109 = .ok (.iload_n 2, 1) := by decide +kernel
theorem dX2_passHour_110 : decode cX2_passHour 110 = .ok (.iload_n 1, 1) := by decide +kernel
theorem dX2_passHour_111 : decode cX2_passHour 111 = .ok (.if_icmp .ne 7, 3) := by decide +kernel
theorem dX2_passHour_114 : decode cX2_passHour 114 = .ok (.iconst 1, 1) := by decide +kernel
theorem dX2_passHour_115 : decode cX2_passHour 115 = .ok (.goto 4, 3) := by decide +kernel
theorem dX2_passHour_118 : decode cX2_passHour 118 = .ok (.iconst 0, 1) := by decide +kernel
theorem dX2_passHour_119 : decode cX2_passHour 119 = .ok (.invokestatic 72, 3) := by decide +kernel
theorem dX2_passHour_122 : decode cX2_passHour 122 = .ok (.iadd, 1) := by decide +kernel
theorem dX2_passHour_123 : decode cX2_passHour 123 = .ok (.iastore, 1) := by decide +kernel
theorem dX2_passHour_124 : decode cX2_passHour 124 = .ok (.aload_n 0, 1) := by decide +kernel
theorem dX2_passHour_125 : decode cX2_passHour 125 = .ok (.iload_n 2, 1) := by decide +kernel
theorem dX2_passHour_126 : decode cX2_passHour 126 = .ok (.invokevirtual 65, 3) := by decide +kernel
theorem dX2_passHour_129 : decode cX2_passHour 129 = .ok (.iinc 2 1, 3) := by decide +kernel
theorem dX2_passHour_132 : decode cX2_passHour 132 = .ok (.goto (-84), 3) := by decide +kernel
theorem dX2_passHour_135 : decode cX2_passHour 135 = .ok (.return_, 1) := by decide +kernel
theorem dX2_wakeAs_0 : decode cX2_wakeAs 0 = .ok (.aload_n 0, 1) := by decide +kernel
theorem dX2_wakeAs_1 : decode cX2_wakeAs 1 = .ok (.iload_n 1, 1) := by decide +kernel
theorem dX2_wakeAs_2 : decode cX2_wakeAs 2 = .ok (.invokevirtual 55, 3) := by decide +kernel
theorem dX2_wakeAs_5 : decode cX2_wakeAs 5 = .ok (.ifCond .eq 17, 3) := by decide +kernel
theorem dX2_wakeAs_8 : decode cX2_wakeAs 8 = .ok (.aload_n 0, 1) := by decide +kernel
theorem dX2_wakeAs_9 : decode cX2_wakeAs 9 = .ok (.getfield 15, 3) := by decide +kernel
theorem dX2_wakeAs_12 : decode cX2_wakeAs 12 = .ok (.iload_n 1, 1) := by decide +kernel
theorem dX2_wakeAs_13 : decode cX2_wakeAs 13 = .ok (.iload_n 2, 1) := by decide +kernel
theorem dX2_wakeAs_14 : decode cX2_wakeAs 14 = .ok (.iastore, 1) := by decide +kernel
theorem dX2_wakeAs_15 : decode cX2_wakeAs 15 = .ok (.aload_n 0, 1) := by decide +kernel
theorem dX2_wakeAs_16 : decode cX2_wakeAs 16 = .ok (.getfield 18, 3) := by decide +kernel
theorem dX2_wakeAs_19 : decode cX2_wakeAs 19 = .ok (.iload_n 1, 1) := by decide +kernel
theorem dX2_wakeAs_20 : decode cX2_wakeAs 20 = .ok (.iconst 0, 1) := by decide +kernel
theorem dX2_wakeAs_21 : decode cX2_wakeAs 21 = .ok (.bastore, 1) := by decide +kernel
theorem dX2_wakeAs_22 : decode cX2_wakeAs 22 = .ok (.return_, 1) := by decide +kernel
theorem dX2_keepsBed_0 : decode cX2_keepsBed 0 = .ok (.iconst 1, 1) := by decide +kernel
theorem dX2_keepsBed_1 : decode cX2_keepsBed 1 = .ok (.istore_n 3, 1) := by decide +kernel
theorem dX2_keepsBed_2 : decode cX2_keepsBed 2 = .ok (.iload_n 3, 1) := by decide +kernel
theorem dX2_keepsBed_3 : decode cX2_keepsBed 3 = .ok (.iload_n 2, 1) := by decide +kernel
theorem dX2_keepsBed_4 : decode cX2_keepsBed 4 = .ok (.if_icmp .ge 21, 3) := by decide +kernel
theorem dX2_keepsBed_7 : decode cX2_keepsBed 7 = .ok (.aload_n 0, 1) := by decide +kernel
theorem dX2_keepsBed_8 : decode cX2_keepsBed 8 = .ok (.invokevirtual 69, 3) := by decide +kernel
theorem dX2_keepsBed_11 : decode cX2_keepsBed 11 = .ok (.iload_n 1, 1) := by decide +kernel
theorem dX2_keepsBed_12 : decode cX2_keepsBed 12 = .ok (.if_icmp .ne 13, 3) := by decide +kernel
theorem dX2_keepsBed_15 : decode cX2_keepsBed 15 = .ok (.aload_n 0, 1) := by decide +kernel
theorem dX2_keepsBed_16 : decode cX2_keepsBed 16 = .ok (.invokevirtual 76, 3) := by decide +kernel
theorem dX2_keepsBed_19 : decode cX2_keepsBed 19 = .ok (.iinc 3 1, 3) := by decide +kernel
theorem dX2_keepsBed_22 : decode cX2_keepsBed 22 = .ok (.goto (-20), 3) := by decide +kernel
theorem dX2_keepsBed_25 : decode cX2_keepsBed 25 = .ok (.aload_n 0, 1) := by decide +kernel
theorem dX2_keepsBed_26 : decode cX2_keepsBed 26 = .ok (.invokevirtual 69, 3) := by decide +kernel
theorem dX2_keepsBed_29 : decode cX2_keepsBed 29 = .ok (.iload_n 1, 1) := by decide +kernel
theorem dX2_keepsBed_30 : decode cX2_keepsBed 30 = .ok (.if_icmp .ne 7, 3) := by decide +kernel
theorem dX2_keepsBed_33 : decode cX2_keepsBed 33 = .ok (.iconst 1, 1) := by decide +kernel
theorem dX2_keepsBed_34 : decode cX2_keepsBed 34 = .ok (.goto 4, 3) := by decide +kernel
theorem dX2_keepsBed_37 : decode cX2_keepsBed 37 = .ok (.iconst 0, 1) := by decide +kernel
theorem dX2_keepsBed_38 : decode cX2_keepsBed 38 = .ok (.ireturn, 1) := by decide +kernel
theorem dX2_mostWakefulPair_0 : decode cX2_mostWakefulPair 0 = .ok (.iconst (-1), 1) := by decide +kernel
theorem dX2_mostWakefulPair_1 : decode cX2_mostWakefulPair 1 = .ok (.istore_n 1, 1) := by decide +kernel
theorem dX2_mostWakefulPair_2 : decode cX2_mostWakefulPair 2 = .ok (.iconst (-1), 1) := by decide +kernel
theorem dX2_mostWakefulPair_3 : decode cX2_mostWakefulPair 3 = .ok (.istore_n 2, 1) := by decide +kernel
theorem dX2_mostWakefulPair_4 : decode cX2_mostWakefulPair 4 = .ok (.iconst 0, 1) := by decide +kernel
theorem dX2_mostWakefulPair_5 : decode cX2_mostWakefulPair 5 = .ok (.istore_n 3, 1) := by decide +kernel
theorem dX2_mostWakefulPair_6 : decode cX2_mostWakefulPair 6 = .ok (.iload_n 3, 1) := by decide +kernel
theorem dX2_mostWakefulPair_7 : decode cX2_mostWakefulPair 7 = .ok (.aload_n 0, 1) := by decide +kernel
theorem dX2_mostWakefulPair_8 : decode cX2_mostWakefulPair 8 = .ok (.getfield 25, 3) := by decide +kernel
theorem dX2_mostWakefulPair_11 : decode cX2_mostWakefulPair 11 = .ok (.if_icmp .ge 73, 3) := by decide +kernel
theorem dX2_mostWakefulPair_14 : decode cX2_mostWakefulPair 14 = .ok (.iload_n 3, 1) := by decide +kernel
theorem dX2_mostWakefulPair_15 : decode cX2_mostWakefulPair 15 = .ok (.iconst 1, 1) := by decide +kernel
theorem dX2_mostWakefulPair_16 : decode cX2_mostWakefulPair 16 = .ok (.iadd, 1) := by decide +kernel
theorem dX2_mostWakefulPair_17 : decode cX2_mostWakefulPair 17 = .ok (.istore 4, 2) := by decide +kernel
theorem dX2_mostWakefulPair_19 : decode cX2_mostWakefulPair 19 = .ok (.iload 4, 2) := by decide +kernel
theorem dX2_mostWakefulPair_21 : decode cX2_mostWakefulPair 21 = .ok (.aload_n 0, 1) := by decide +kernel
theorem dX2_mostWakefulPair_22 : decode cX2_mostWakefulPair 22 = .ok (.getfield 25, 3) := by decide +kernel
theorem dX2_mostWakefulPair_25 : decode cX2_mostWakefulPair 25 = .ok (.if_icmp .ge 53, 3) := by decide +kernel
theorem dX2_mostWakefulPair_28 : decode cX2_mostWakefulPair 28 = .ok (.aload_n 0, 1) := by decide +kernel
theorem dX2_mostWakefulPair_29 : decode cX2_mostWakefulPair 29 = .ok (.iload_n 3, 1) := by decide +kernel
theorem dX2_mostWakefulPair_30 : decode cX2_mostWakefulPair 30 = .ok (.invokevirtual 59, 3) := by decide +kernel
theorem dX2_mostWakefulPair_33 : decode cX2_mostWakefulPair 33 = .ok (.ifCond .eq 39, 3) := by decide +kernel
theorem dX2_mostWakefulPair_36 : decode cX2_mostWakefulPair 36 = .ok (.aload_n 0, 1) := by decide +kernel
theorem dX2_mostWakefulPair_37 : decode cX2_mostWakefulPair 37 = .ok (.iload 4, 2) := by decide +kernel
theorem dX2_mostWakefulPair_39 : decode cX2_mostWakefulPair 39 = .ok (.invokevirtual 59, 3) := by decide +kernel
theorem dX2_mostWakefulPair_42 : decode cX2_mostWakefulPair 42 = .ok (.ifCond .eq 30, 3) := by decide +kernel
theorem dX2_mostWakefulPair_45 : decode cX2_mostWakefulPair 45 = .ok (.aload_n 0, 1) := by decide +kernel
theorem dX2_mostWakefulPair_46 : decode cX2_mostWakefulPair 46 = .ok (.iload_n 3, 1) := by decide +kernel
theorem dX2_mostWakefulPair_47 : decode cX2_mostWakefulPair 47 = .ok (.iload 4, 2) := by decide +kernel
theorem dX2_mostWakefulPair_49 : decode cX2_mostWakefulPair 49 = .ok (.invokevirtual 79, 3) := by decide +kernel
theorem dX2_mostWakefulPair_52 : decode cX2_mostWakefulPair 52 = .ok (.iload_n 2, 1) := by decide +kernel
theorem dX2_mostWakefulPair_53 : decode cX2_mostWakefulPair 53 = .ok (.if_icmp .le 19, 3) := by decide +kernel
theorem dX2_mostWakefulPair_56 : decode cX2_mostWakefulPair 56 = .ok (.bipush 10, 2) := by decide +kernel
theorem dX2_mostWakefulPair_58 : decode cX2_mostWakefulPair 58 = .ok (.iload_n 3, 1) := by decide +kernel
theorem dX2_mostWakefulPair_59 : decode cX2_mostWakefulPair 59 = .ok (.imul, 1) := by decide +kernel
theorem dX2_mostWakefulPair_60 : decode cX2_mostWakefulPair 60 = .ok (.iload 4, 2) := by decide +kernel
theorem dX2_mostWakefulPair_62 : decode cX2_mostWakefulPair 62 = .ok (.iadd, 1) := by decide +kernel
theorem dX2_mostWakefulPair_63 : decode cX2_mostWakefulPair 63 = .ok (.istore_n 1, 1) := by decide +kernel
theorem dX2_mostWakefulPair_64 : decode cX2_mostWakefulPair 64 = .ok (.aload_n 0, 1) := by decide +kernel
theorem dX2_mostWakefulPair_65 : decode cX2_mostWakefulPair 65 = .ok (.iload_n 3, 1) := by decide +kernel
theorem dX2_mostWakefulPair_66 : decode cX2_mostWakefulPair 66 = .ok (.iload 4, 2) := by decide +kernel
theorem dX2_mostWakefulPair_68 : decode cX2_mostWakefulPair 68 = .ok (.invokevirtual 79, 3) := by decide +kernel
theorem dX2_mostWakefulPair_71 : decode cX2_mostWakefulPair 71 = .ok (.istore_n 2, 1) := by decide +kernel
theorem dX2_mostWakefulPair_72 : decode cX2_mostWakefulPair 72 = .ok (.iinc 4 1, 3) := by decide +kernel
theorem dX2_mostWakefulPair_75 : decode cX2_mostWakefulPair 75 = .ok (.goto (-56), 3) := by decide +kernel
theorem dX2_mostWakefulPair_78 : decode cX2_mostWakefulPair 78 = .ok (.iinc 3 1, 3) := by decide +kernel
theorem dX2_mostWakefulPair_81 : decode cX2_mostWakefulPair 81 = .ok (.goto (-75), 3) := by decide +kernel
theorem dX2_mostWakefulPair_84 : decode cX2_mostWakefulPair 84 = .ok (.iload_n 1, 1) := by decide +kernel
theorem dX2_mostWakefulPair_85 : decode cX2_mostWakefulPair 85 = .ok (.ireturn, 1) := by decide +kernel
theorem dX2_hoursTogether_0 : decode cX2_hoursTogether 0 = .ok (.aload_n 0, 1) := by decide +kernel
theorem dX2_hoursTogether_1 : decode cX2_hoursTogether 1 = .ok (.iload_n 1, 1) := by decide +kernel
theorem dX2_hoursTogether_2 : decode cX2_hoursTogether 2 = .ok (.invokevirtual 82, 3) := by decide +kernel
theorem dX2_hoursTogether_5 : decode cX2_hoursTogether 5 = .ok (.aload_n 0, 1) := by decide +kernel
theorem dX2_hoursTogether_6 : decode cX2_hoursTogether 6 = .ok (.iload_n 2, 1) := by decide +kernel
theorem dX2_hoursTogether_7 : decode cX2_hoursTogether 7 = .ok (.invokevirtual 82, 3) := by decide +kernel
theorem dX2_hoursTogether_10 : decode cX2_hoursTogether 10 = .ok (.invokestatic 40, 3) := by decide +kernel
theorem dX2_hoursTogether_13 : decode cX2_hoursTogether 13 = .ok (.ireturn, 1) := by decide +kernel
theorem dX2_hoursAwakeInBed_0 : decode cX2_hoursAwakeInBed 0 = .ok (.aload_n 0, 1) := by decide +kernel
theorem dX2_hoursAwakeInBed_1 : decode cX2_hoursAwakeInBed 1 = .ok (.iload_n 1, 1) := by decide +kernel
theorem dX2_hoursAwakeInBed_2 : decode cX2_hoursAwakeInBed 2 = .ok (.invokevirtual 85, 3) := by decide +kernel
theorem dX2_hoursAwakeInBed_5 : decode cX2_hoursAwakeInBed 5 = .ok (.istore_n 2, 1) := by decide +kernel
theorem dX2_hoursAwakeInBed_6 : decode cX2_hoursAwakeInBed 6 = .ok (.aload_n 0, 1) := by decide +kernel
theorem dX2_hoursAwakeInBed_7 : decode cX2_hoursAwakeInBed 7 = .ok (.iload_n 1, 1) := by decide +kernel
theorem dX2_hoursAwakeInBed_8 : decode cX2_hoursAwakeInBed 8 = .ok (.invokevirtual 86, 3) := by decide +kernel
theorem dX2_hoursAwakeInBed_11 : decode cX2_hoursAwakeInBed 11 = .ok (.istore_n 3, 1) := by decide +kernel
theorem dX2_hoursAwakeInBed_12 : decode cX2_hoursAwakeInBed 12 = .ok (.iconst 1, 1) := by decide +kernel
theorem dX2_hoursAwakeInBed_13 : decode cX2_hoursAwakeInBed 13 = .ok (.istore 4, 2) := by decide +kernel
theorem dX2_hoursAwakeInBed_15 : decode cX2_hoursAwakeInBed 15 = .ok (.iload 4, 2) := by decide +kernel
theorem dX2_hoursAwakeInBed_17 : decode cX2_hoursAwakeInBed 17 = .ok (.bipush 60, 2) := by decide +kernel
theorem dX2_hoursAwakeInBed_19 : decode cX2_hoursAwakeInBed 19 = .ok (.if_icmp .gt 34, 3) := by decide +kernel
theorem dX2_hoursAwakeInBed_22 : decode cX2_hoursAwakeInBed 22 = .ok (.iload_n 3, 1) := by decide +kernel
theorem dX2_hoursAwakeInBed_23 : decode cX2_hoursAwakeInBed 23 = .ok (.iload_n 2, 1) := by decide +kernel
theorem dX2_hoursAwakeInBed_24 : decode cX2_hoursAwakeInBed 24 = .ok (.iload_n 3, 1) := by decide +kernel
theorem dX2_hoursAwakeInBed_25 : decode cX2_hoursAwakeInBed 25 = .ok (.aload_n 0, 1) := by decide +kernel
theorem dX2_hoursAwakeInBed_26 : decode cX2_hoursAwakeInBed 26 = .ok (.getfield 32, 3) := by decide +kernel
theorem dX2_hoursAwakeInBed_29 : decode cX2_hoursAwakeInBed 29 = .ok (.iload 4, 2) := by decide +kernel
theorem dX2_hoursAwakeInBed_31 : decode cX2_hoursAwakeInBed 31 = .ok (.iadd, 1) := by decide +kernel
theorem dX2_hoursAwakeInBed_32 : decode cX2_hoursAwakeInBed 32 = .ok (.iconst 1, 1) := by decide +kernel
theorem dX2_hoursAwakeInBed_33 : decode cX2_hoursAwakeInBed 33 = .ok (.invokestatic 72, 3) := by decide +kernel
theorem dX2_hoursAwakeInBed_36 : decode cX2_hoursAwakeInBed 36 = .ok (.iadd, 1) := by decide +kernel
theorem dX2_hoursAwakeInBed_37 : decode cX2_hoursAwakeInBed 37 = .ok (.istore_n 3, 1) := by decide +kernel
theorem dX2_hoursAwakeInBed_38 : decode cX2_hoursAwakeInBed 38 = .ok (.iload_n 3, 1) := by decide +kernel
theorem dX2_hoursAwakeInBed_39 : decode cX2_hoursAwakeInBed 39 = .ok (.bipush 10, 2) := by decide +kernel
theorem dX2_hoursAwakeInBed_41 : decode cX2_hoursAwakeInBed 41 = .ok (.if_icmp .lt 6, 3) := by decide +kernel
theorem dX2_hoursAwakeInBed_44 : decode cX2_hoursAwakeInBed 44 = .ok (.iload 4, 2) := by decide +kernel
theorem dX2_hoursAwakeInBed_46 : decode cX2_hoursAwakeInBed 46 = .ok (.ireturn, 1) := by decide +kernel
theorem dX2_hoursAwakeInBed_47 : decode cX2_hoursAwakeInBed 47 = .ok (.iinc 4 1, 3) := by decide +kernel
theorem dX2_hoursAwakeInBed_50 : decode cX2_hoursAwakeInBed 50 = .ok (.goto (-35), 3) := by decide +kernel
theorem dX2_hoursAwakeInBed_53 : decode cX2_hoursAwakeInBed 53 = .ok (.bipush 60, 2) := by decide +kernel
theorem dX2_hoursAwakeInBed_55 : decode cX2_hoursAwakeInBed 55 = .ok (.ireturn, 1) := by decide +kernel
theorem dX2_mayLieIn_0 : decode cX2_mayLieIn 0 = .ok (.aload_n 0, 1) := by decide +kernel
theorem dX2_mayLieIn_1 : decode cX2_mayLieIn 1 = .ok (.getfield 18, 3) := by decide +kernel
theorem dX2_mayLieIn_4 : decode cX2_mayLieIn 4 = .ok (.iload_n 1, 1) := by decide +kernel
theorem dX2_mayLieIn_5 : decode cX2_mayLieIn 5 = .ok (.baload, 1) := by decide +kernel
theorem dX2_mayLieIn_6 : decode cX2_mayLieIn 6 = .ok (.ifCond .ne 17, 3) := by decide +kernel
theorem dX2_mayLieIn_9 : decode cX2_mayLieIn 9 = .ok (.aload_n 0, 1) := by decide +kernel
theorem dX2_mayLieIn_10 : decode cX2_mayLieIn 10 = .ok (.getfield 9, 3) := by decide +kernel
theorem dX2_mayLieIn_13 : decode cX2_mayLieIn 13 = .ok (.iload_n 1, 1) := by decide +kernel
theorem dX2_mayLieIn_14 : decode cX2_mayLieIn 14 = .ok (.iaload, 1) := by decide +kernel
theorem dX2_mayLieIn_15 : decode cX2_mayLieIn 15 = .ok (.iconst 1, 1) := by decide +kernel
theorem dX2_mayLieIn_16 : decode cX2_mayLieIn 16 = .ok (.if_icmp .eq 7, 3) := by decide +kernel
theorem dX2_mayLieIn_19 : decode cX2_mayLieIn 19 = .ok (.iconst 1, 1) := by decide +kernel
theorem dX2_mayLieIn_20 : decode cX2_mayLieIn 20 = .ok (.goto 4, 3) := by decide +kernel
theorem dX2_mayLieIn_23 : decode cX2_mayLieIn 23 = .ok (.iconst 0, 1) := by decide +kernel
theorem dX2_mayLieIn_24 : decode cX2_mayLieIn 24 = .ok (.ireturn, 1) := by decide +kernel
theorem dX2_settle_0 : decode cX2_settle 0 = .ok (.aload_n 0, 1) := by decide +kernel
theorem dX2_settle_1 : decode cX2_settle 1 = .ok (.getfield 15, 3) := by decide +kernel
theorem dX2_settle_4 : decode cX2_settle 4 = .ok (.iload_n 1, 1) := by decide +kernel
theorem dX2_settle_5 : decode cX2_settle 5 = .ok (.iaload, 1) := by decide +kernel
theorem dX2_settle_6 : decode cX2_settle 6 = .ok (.bipush 10, 2) := by decide +kernel
theorem dX2_settle_8 : decode cX2_settle 8 = .ok (.if_icmp .lt 21, 3) := by decide +kernel
theorem dX2_settle_11 : decode cX2_settle 11 = .ok (.aload_n 0, 1) := by decide +kernel
theorem dX2_settle_12 : decode cX2_settle 12 = .ok (.getfield 15, 3) := by decide +kernel
theorem dX2_settle_15 : decode cX2_settle 15 = .ok (.iload_n 1, 1) := by decide +kernel
theorem dX2_settle_16 : decode cX2_settle 16 = .ok (.bipush 10, 2) := by decide +kernel
theorem dX2_settle_18 : decode cX2_settle 18 = .ok (.iastore, 1) := by decide +kernel
theorem dX2_settle_19 : decode cX2_settle 19 = .ok (.aload_n 0, 1) := by decide +kernel
theorem dX2_settle_20 : decode cX2_settle 20 = .ok (.getfield 18, 3) := by decide +kernel
theorem dX2_settle_23 : decode cX2_settle 23 = .ok (.iload_n 1, 1) := by decide +kernel
theorem dX2_settle_24 : decode cX2_settle 24 = .ok (.iconst 1, 1) := by decide +kernel
theorem dX2_settle_25 : decode cX2_settle 25 = .ok (.bastore, 1) := by decide +kernel
theorem dX2_settle_26 : decode cX2_settle 26 = .ok (.goto 20, 3) := by decide +kernel
theorem dX2_settle_29 : decode cX2_settle 29 = .ok (.aload_n 0, 1) := by decide +kernel
theorem dX2_settle_30 : decode cX2_settle 30 = .ok (.getfield 15, 3) := by decide +kernel
theorem dX2_settle_33 : decode cX2_settle 33 = .ok (.iload_n 1, 1) := by decide +kernel
theorem dX2_settle_34 : decode cX2_settle 34 = .ok (.iaload, 1) := by decide +kernel
theorem dX2_settle_35 : decode cX2_settle 35 = .ok (.iconst 2, 1) := by decide +kernel
theorem dX2_settle_36 : decode cX2_settle 36 = .ok (.if_icmp .gt 10, 3) := by decide +kernel
theorem dX2_settle_39 : decode cX2_settle 39 = .ok (.aload_n 0, 1) := by decide +kernel
theorem dX2_settle_40 : decode cX2_settle 40 = .ok (.getfield 18, 3) := by decide +kernel
theorem dX2_settle_43 : decode cX2_settle 43 = .ok (.iload_n 1, 1) := by decide +kernel
theorem dX2_settle_44 : decode cX2_settle 44 = .ok (.iconst 0, 1) := by decide +kernel
theorem dX2_settle_45 : decode cX2_settle 45 = .ok (.bastore, 1) := by decide +kernel
theorem dX2_settle_46 : decode cX2_settle 46 = .ok (.return_, 1) := by decide +kernel
theorem dX3_init_0 : decode cX3_init 0 = .ok (.aload_n 0, 1) := by decide +kernel
theorem dX3_init_1 : decode cX3_init 1 = .ok (.invokespecial 5, 3) := by decide +kernel
theorem dX3_init_4 : decode cX3_init 4 = .ok (.aload_n 0, 1) := by decide +kernel
theorem dX3_init_5 : decode cX3_init 5 = .ok (.bipush 18, 2) := by decide +kernel
theorem dX3_init_7 : decode cX3_init 7 = .ok (.newarray .int, 2) := by decide +kernel
theorem dX3_init_9 : decode cX3_init 9 = .ok (.putfield 11, 3) := by decide +kernel
theorem dX3_init_12 : decode cX3_init 12 = .ok (.aload_n 0, 1) := by decide +kernel
theorem dX3_init_13 : decode cX3_init 13 = .ok (.iconst 0, 1) := by decide +kernel
theorem dX3_init_14 : decode cX3_init 14 = .ok (.putfield 15, 3) := by decide +kernel
theorem dX3_init_17 : decode cX3_init 17 = .ok (.return_, 1) := by decide +kernel
theorem dX3_length_0 : decode cX3_length 0 = .ok (.aload_n 0, 1) := by decide +kernel
theorem dX3_length_1 : decode cX3_length 1 = .ok (.getfield 15, 3) := by decide +kernel
theorem dX3_length_4 : decode cX3_length 4 = .ok (.ireturn, 1) := by decide +kernel
theorem dX3_codeAt_0 : decode cX3_codeAt 0 = .ok (.iload_n 1, 1) := by decide +kernel
theorem dX3_codeAt_1 : decode cX3_codeAt 1 = .ok (.ifCond .lt 20, 3) := by decide +kernel
theorem dX3_codeAt_4 : decode cX3_codeAt 4 = .ok (.iload_n 1, 1) := by decide +kernel
theorem dX3_codeAt_5 : decode cX3_codeAt 5 = .ok (.aload_n 0, 1) := by decide +kernel
theorem dX3_codeAt_6 : decode cX3_codeAt 6 = .ok (.getfield 15, 3) := by decide +kernel
theorem dX3_codeAt_9 : decode cX3_codeAt 9 = .ok (.if_icmp .ge 12, 3) := by decide +kernel
theorem dX3_codeAt_12 : decode cX3_codeAt 12 = .ok (.aload_n 0, 1) := by decide +kernel
theorem dX3_codeAt_13 : decode cX3_codeAt 13 = .ok (.getfield 11, 3) := by decide +kernel
theorem dX3_codeAt_16 : decode cX3_codeAt 16 = .ok (.iload_n 1, 1) := by decide +kernel
theorem dX3_codeAt_17 : decode cX3_codeAt 17 = .ok (.iaload, 1) := by decide +kernel
theorem dX3_codeAt_18 : decode cX3_codeAt 18 = .ok (.goto 4, 3) := by decide +kernel
theorem dX3_codeAt_21 : decode cX3_codeAt 21 = .ok (.iconst 0, 1) := by decide +kernel
theorem dX3_codeAt_22 : decode cX3_codeAt 22 = .ok (.ireturn, 1) := by decide +kernel
theorem dX3_digitAt_0 : decode cX3_digitAt 0 = .ok (.aload_n 0, 1) := by decide +kernel
theorem dX3_digitAt_1 : decode cX3_digitAt 1 = .ok (.iload_n 1, 1) := by decide +kernel
theorem dX3_digitAt_2 : decode cX3_digitAt 2 = .ok (.invokevirtual 19, 3) := by decide +kernel
theorem dX3_digitAt_5 : decode cX3_digitAt 5 = .ok (.bipush 48, 2) := by decide +kernel
theorem dX3_digitAt_7 : decode cX3_digitAt 7 = .ok (.isub, 1) := by decide +kernel
theorem dX3_digitAt_8 : decode cX3_digitAt 8 = .ok (.ireturn, 1) := by decide +kernel
theorem dX3_put_0 : decode cX3_put 0 = .ok (.aload_n 0, 1) := by decide +kernel
theorem dX3_put_1 : decode cX3_put 1 = .ok (.getfield 15, 3) := by decide +kernel
end
section
theorem dX3_put_4 : decode cX3_put 4 = .ok (.aload_n 0, 1) := by decide +kernel
theorem dX3_put_5 : decode cX3_put 5 = .ok (.getfield 11, 3) := by decide +kernel
theorem dX3_put_8 : decode cX3_put 8 = .ok (.arraylength, 1) := by decide +kernel
theorem dX3_put_9 : decode cX3_put 9 = .ok (.if_icmp .ge 23, 3) := by decide +kernel
theorem dX3_put_12 : decode cX3_put 12 = .ok (.aload_n 0, 1) := by decide +kernel
theorem dX3_put_13 : decode cX3_put 13 = .ok (.getfield 11, 3) := by decide +kernel
theorem dX3_put_16 : decode cX3_put 16 = .ok (.aload_n 0, 1) := by decide +kernel
theorem dX3_put_17 : decode cX3_put 17 = .ok (.getfield 15, 3) := by decide +kernel
theorem dX3_put_20 : decode cX3_put 20 = .ok (.iload_n 1, 1) := by decide +kernel
theorem dX3_put_21 : decode cX3_put 21 = .ok (.iastore, 1) := by decide +kernel
theorem dX3_put_22 : decode cX3_put 22 = .ok (.aload_n 0, 1) := by decide +kernel
theorem dX3_put_23 : decode cX3_put 23 = .ok (.dup, 1) := by decide +kernel
theorem dX3_put_24 : decode cX3_put 24 = .ok (.getfield 15, 3) := by decide +kernel
theorem dX3_put_27 : decode cX3_put 27 = .ok (.iconst 1, 1) := by decide +kernel
theorem dX3_put_28 : decode cX3_put 28 = .ok (.iadd, 1) := by decide +kernel
theorem dX3_put_29 : decode cX3_put 29 = .ok (.putfield 15, 3) := by decide +kernel
theorem dX3_put_32 : decode cX3_put 32 = .ok (.aload_n 0, 1) := by decide +kernel
theorem dX3_put_33 : decode cX3_put 33 = .ok (.getfield 15, 3) := by decide +kernel
theorem dX3_put_36 : decode cX3_put 36 = .ok (.ireturn, 1) := by decide +kernel
theorem dX3_empty_0 : decode cX3_empty 0 = .ok (.aload_n 0, 1) := by decide +kernel
theorem dX3_empty_1 : decode cX3_empty 1 = .ok (.getfield 15, 3) := by decide +kernel
theorem dX3_empty_4 : decode cX3_empty 4 = .ok (.istore_n 1, 1) := by decide +kernel
theorem dX3_empty_5 : decode cX3_empty 5 = .ok (.aload_n 0, 1) := by decide +kernel
theorem dX3_empty_6 : decode cX3_empty 6 = .ok (.iconst 0, 1) := by decide +kernel
theorem dX3_empty_7 : decode cX3_empty 7 = .ok (.putfield 15, 3) := by decide +kernel
theorem dX3_empty_10 : decode cX3_empty 10 = .ok (.iload_n 1, 1) := by decide +kernel
theorem dX3_empty_11 : decode cX3_empty 11 = .ok (.ireturn, 1) := by decide +kernel
theorem dX3_firstFault_0 : decode cX3_firstFault 0 = .ok (.iconst 0, 1) := by decide +kernel
theorem dX3_firstFault_1 : decode cX3_firstFault 1 = .ok (.istore_n 1, 1) := by decide +kernel
theorem dX3_firstFault_2 : decode cX3_firstFault 2 = .ok (.iload_n 1, 1) := by decide +kernel
theorem dX3_firstFault_3 : decode cX3_firstFault 3 = .ok (.aload_n 0, 1) := by decide +kernel
theorem dX3_firstFault_4 : decode cX3_firstFault 4 = .ok (.getfield 15, 3) := by decide +kernel
theorem dX3_firstFault_7 : decode cX3_firstFault 7 = .ok (.if_icmp .ge 19, 3) := by decide +kernel
theorem dX3_firstFault_10 : decode cX3_firstFault 10 = .ok (.aload_n 0, 1) := by decide +kernel
theorem dX3_firstFault_11 : decode cX3_firstFault 11 = .ok (.iload_n 1, 1) := by decide +kernel
theorem dX3_firstFault_12 : decode cX3_firstFault 12 = .ok (.invokevirtual 23, 3) := by decide +kernel
theorem dX3_firstFault_15 : decode cX3_firstFault 15 = .ok (.ifCond .ne 5, 3) := by decide +kernel
theorem dX3_firstFault_18 : decode cX3_firstFault 18 = .ok (.iload_n 1, 1) := by decide +kernel
theorem dX3_firstFault_19 : decode cX3_firstFault 19 = .ok (.ireturn, 1) := by decide +kernel
theorem dX3_firstFault_20 : decode cX3_firstFault 20 = .ok (.iinc 1 1, 3) := by decide +kernel
theorem dX3_firstFault_23 : decode cX3_firstFault 23 = .ok (.goto (-21), 3) := by decide +kernel
theorem dX3_firstFault_26 : decode cX3_firstFault 26 = .ok (.aload_n 0, 1) := by decide +kernel
theorem dX3_firstFault_27 : decode cX3_firstFault 27 = .ok (.getfield 15, 3) := by decide +kernel
theorem dX3_firstFault_30 : decode cX3_firstFault 30 = .ok (.ireturn, 1) := by decide +kernel
theorem dX3_isHouse_0 : decode cX3_isHouse 0 = .ok (.aload_n 0, 1) := by decide +kernel
theorem dX3_isHouse_1 : decode cX3_isHouse 1 = .ok (.aload_n 0, 1) := by decide +kernel
theorem dX3_isHouse_2 : decode cX3_isHouse 2 = .ok (.getfield 15, 3) := by decide +kernel
theorem dX3_isHouse_5 : decode cX3_isHouse 5 = .ok (.iconst 2, 1) := by decide +kernel
theorem dX3_isHouse_6 : decode cX3_isHouse 6 = .ok (.isub, 1) := by decide +kernel
theorem dX3_isHouse_7 : decode cX3_isHouse 7 = .ok (.invokevirtual 19, 3) := by decide +kernel
theorem dX3_isHouse_10 : decode cX3_isHouse 10 = .ok (.bipush 59, 2) := by decide +kernel
theorem dX3_isHouse_12 : decode cX3_isHouse 12 = .ok (.if_icmp .ne 18, 3) := by decide +kernel
theorem dX3_isHouse_15 : decode cX3_isHouse 15 = .ok (.aload_n 0, 1) := by decide +kernel
theorem dX3_isHouse_16 : decode cX3_isHouse 16 = .ok (.invokevirtual 27, 3) := by decide +kernel
theorem dX3_isHouse_19 : decode cX3_isHouse 19 = .ok (.aload_n 0, 1) := by decide +kernel
theorem dX3_isHouse_20 : decode cX3_isHouse 20 = .ok (.getfield 15, 3) := by decide +kernel
theorem dX3_isHouse_23 : decode cX3_isHouse 23 = .ok (.if_icmp .ne 7, 3) := by decide +kernel
theorem dX3_isHouse_26 : decode cX3_isHouse 26 = .ok (.iconst 1, 1) := by decide +kernel
theorem dX3_isHouse_27 : decode cX3_isHouse 27 = .ok (.goto 4, 3) := by decide +kernel
theorem dX3_isHouse_30 : decode cX3_isHouse 30 = .ok (.iconst 0, 1) := by decide +kernel
theorem dX3_isHouse_31 : decode cX3_isHouse 31 = .ok (.ireturn, 1) := by decide +kernel
theorem dX3_lodgers_0 : decode cX3_lodgers 0 = .ok (.aload_n 0, 1) := by decide +kernel
theorem dX3_lodgers_1 : decode cX3_lodgers 1 = .ok (.getfield 15, 3) := by decide +kernel
theorem dX3_lodgers_4 : decode cX3_lodgers 4 = .ok (.iconst 3, 1) := by decide +kernel
theorem dX3_lodgers_5 : decode cX3_lodgers 5 = .ok (.idiv, 1) := by decide +kernel
theorem dX3_lodgers_6 : decode cX3_lodgers 6 = .ok (.ireturn, 1) := by decide +kernel
theorem dX3_kindOf_0 : decode cX3_kindOf 0 = .ok (.aload_n 0, 1) := by decide +kernel
theorem dX3_kindOf_1 : decode cX3_kindOf 1 = .ok (.iload_n 1, 1) := by decide +kernel
theorem dX3_kindOf_2 : decode cX3_kindOf 2 = .ok (.iconst 3, 1) := by decide +kernel
theorem dX3_kindOf_3 : decode cX3_kindOf 3 = .ok (.imul, 1) := by decide +kernel
theorem dX3_kindOf_4 : decode cX3_kindOf 4 = .ok (.invokevirtual 19, 3) := by decide +kernel
theorem dX3_kindOf_7 : decode cX3_kindOf 7 = .ok (.invokestatic 31, 3) := by decide +kernel
theorem dX3_kindOf_10 : decode cX3_kindOf 10 = .ok (.ireturn, 1) := by decide +kernel
theorem dX3_tiredOf_0 : decode cX3_tiredOf 0 = .ok (.aload_n 0, 1) := by decide +kernel
theorem dX3_tiredOf_1 : decode cX3_tiredOf 1 = .ok (.iload_n 1, 1) := by decide +kernel
theorem dX3_tiredOf_2 : decode cX3_tiredOf 2 = .ok (.iconst 3, 1) := by decide +kernel
theorem dX3_tiredOf_3 : decode cX3_tiredOf 3 = .ok (.imul, 1) := by decide +kernel
theorem dX3_tiredOf_4 : decode cX3_tiredOf 4 = .ok (.iconst 1, 1) := by decide +kernel
theorem dX3_tiredOf_5 : decode cX3_tiredOf 5 = .ok (.iadd, 1) := by decide +kernel
theorem dX3_tiredOf_6 : decode cX3_tiredOf 6 = .ok (.invokevirtual 34, 3) := by decide +kernel
theorem dX3_tiredOf_9 : decode cX3_tiredOf 9 = .ok (.ireturn, 1) := by decide +kernel
theorem dX3_drowse_0 : decode cX3_drowse 0 = .ok (.aload_n 0, 1) := by decide +kernel
theorem dX3_drowse_1 : decode cX3_drowse 1 = .ok (.aload_n 0, 1) := by decide +kernel
theorem dX3_drowse_2 : decode cX3_drowse 2 = .ok (.getfield 15, 3) := by decide +kernel
theorem dX3_drowse_5 : decode cX3_drowse 5 = .ok (.iconst 1, 1) := by decide +kernel
theorem dX3_drowse_6 : decode cX3_drowse 6 = .ok (.isub, 1) := by decide +kernel
theorem dX3_drowse_7 : decode cX3_drowse 7 = .ok (.invokevirtual 34, 3) := by decide +kernel
theorem dX3_drowse_10 : decode cX3_drowse 10 = .ok (.ireturn, 1) := by decide +kernel
theorem dX3_fits_0 : decode cX3_fits 0 = .ok (.aload_n 0, 1) := by decide +kernel
theorem dX3_fits_1 : decode cX3_fits 1 = .ok (.iload_n 1, 1) := by decide +kernel
theorem dX3_fits_2 : decode cX3_fits 2 = .ok (.invokevirtual 19, 3) := by decide +kernel
theorem dX3_fits_5 : decode cX3_fits 5 = .ok (.istore_n 2, 1) := by decide +kernel
theorem dX3_fits_6 : decode cX3_fits 6 = .ok (.aload_n 0, 1) := by decide +kernel
theorem dX3_fits_7 : decode cX3_fits 7 = .ok (.iload_n 1, 1) := by decide +kernel
theorem dX3_fits_8 : decode cX3_fits 8 = .ok (.iconst 1, 1) := by decide +kernel
theorem dX3_fits_9 : decode cX3_fits 9 = .ok (.isub, 1) := by decide +kernel
theorem dX3_fits_10 : decode cX3_fits 10 = .ok (.invokevirtual 19, 3) := by decide +kernel
theorem dX3_fits_13 : decode cX3_fits 13 = .ok (.bipush 59, 2) := by decide +kernel
theorem dX3_fits_15 : decode cX3_fits 15 = .ok (.if_icmp .ne 12, 3) := by decide +kernel
theorem dX3_fits_18 : decode cX3_fits 18 = .ok (.iload_n 2, 1) := by decide +kernel
theorem dX3_fits_19 : decode cX3_fits 19 = .ok (.bipush 49, 2) := by decide +kernel
theorem dX3_fits_21 : decode cX3_fits 21 = .ok (.bipush 52, 2) := by decide +kernel
theorem dX3_fits_23 : decode cX3_fits 23 = .ok (.invokestatic 37, 3) := by decide +kernel
theorem dX3_fits_26 : decode cX3_fits 26 = .ok (.ireturn, 1) := by decide +kernel
theorem dX3_fits_27 : decode cX3_fits 27 = .ok (.aload_n 0, 1) := by decide +kernel
theorem dX3_fits_28 : decode cX3_fits 28 = .ok (.iload_n 1, 1) := by decide +kernel
theorem dX3_fits_29 : decode cX3_fits 29 = .ok (.iconst 2, 1) := by decide +kernel
theorem dX3_fits_30 : decode cX3_fits 30 = .ok (.isub, 1) := by decide +kernel
theorem dX3_fits_31 : decode cX3_fits 31 = .ok (.invokevirtual 19, 3) := by decide +kernel
theorem dX3_fits_34 : decode cX3_fits 34 = .ok (.bipush 59, 2) := by decide +kernel
theorem dX3_fits_36 : decode cX3_fits 36 = .ok (.if_icmp .ne 5, 3) := by decide +kernel
theorem dX3_fits_39 : decode cX3_fits 39 = .ok (.iconst 0, 1) := by decide +kernel
theorem dX3_fits_40 : decode cX3_fits 40 = .ok (.ireturn, 1) := by decide +kernel
theorem dX3_fits_41 : decode cX3_fits 41 = .ok (.iload_n 1, 1) := by decide +kernel
theorem dX3_fits_42 : decode cX3_fits 42 = .ok (.iconst 3, 1) := by decide +kernel
theorem dX3_fits_43 : decode cX3_fits 43 = .ok (.irem, 1) := by decide +kernel
theorem dX3_fits_44 : decode cX3_fits 44 = .ok (.lookupswitch 51 #[(0, 28), (1, 42)], 28) := by decide +kernel
theorem dX3_fits_72 : decode cX3_fits 72 = .ok (.iload_n 2, 1) := by decide +kernel
theorem dX3_fits_73 : decode cX3_fits 73 = .ok (.invokestatic 31, 3) := by decide +kernel
theorem dX3_fits_76 : decode cX3_fits 76 = .ok (.iconst (-1), 1) := by decide +kernel
theorem dX3_fits_77 : decode cX3_fits 77 = .ok (.if_icmp .eq 7, 3) := by decide +kernel
theorem dX3_fits_80 : decode cX3_fits 80 = .ok (.iconst 1, 1) := by decide +kernel
theorem dX3_fits_81 : decode cX3_fits 81 = .ok (.goto 4, 3) := by decide +kernel
theorem dX3_fits_84 : decode cX3_fits 84 = .ok (.iconst 0, 1) := by decide +kernel
theorem dX3_fits_85 : decode cX3_fits 85 = .ok (.ireturn, 1) := by decide +kernel
theorem dX3_fits_86 : decode cX3_fits 86 = .ok (.iload_n 2, 1) := by decide +kernel
theorem dX3_fits_87 : decode cX3_fits 87 = .ok (.bipush 48, 2) := by decide +kernel
theorem dX3_fits_89 : decode cX3_fits 89 = .ok (.bipush 57, 2) := by decide +kernel
theorem dX3_fits_91 : decode cX3_fits 91 = .ok (.invokestatic 37, 3) := by decide +kernel
theorem dX3_fits_94 : decode cX3_fits 94 = .ok (.ireturn, 1) := by decide +kernel
theorem dX3_fits_95 : decode cX3_fits 95 = .ok (.iload_n 2, 1) := by decide +kernel
theorem dX3_fits_96 : decode cX3_fits 96 = .ok (.bipush 44, 2) := by decide +kernel
theorem dX3_fits_98 : decode cX3_fits 98 = .ok (.if_icmp .ne 9, 3) := by decide +kernel
theorem dX3_fits_101 : decode cX3_fits 101 = .ok (.iload_n 1, 1) := by decide +kernel
theorem dX3_fits_102 : decode cX3_fits 102 = .ok (.bipush 14, 2) := by decide +kernel
theorem dX3_fits_104 : decode cX3_fits 104 = .ok (.if_icmp .lt 14, 3) := by decide +kernel
theorem dX3_fits_107 : decode cX3_fits 107 = .ok (.iload_n 2, 1) := by decide +kernel
theorem dX3_fits_108 : decode cX3_fits 108 = .ok (.bipush 59, 2) := by decide +kernel
theorem dX3_fits_110 : decode cX3_fits 110 = .ok (.if_icmp .ne 12, 3) := by decide +kernel
theorem dX3_fits_113 : decode cX3_fits 113 = .ok (.iload_n 1, 1) := by decide +kernel
theorem dX3_fits_114 : decode cX3_fits 114 = .ok (.iconst 5, 1) := by decide +kernel
theorem dX3_fits_115 : decode cX3_fits 115 = .ok (.if_icmp .lt 7, 3) := by decide +kernel
theorem dX3_fits_118 : decode cX3_fits 118 = .ok (.iconst 1, 1) := by decide +kernel
theorem dX3_fits_119 : decode cX3_fits 119 = .ok (.goto 4, 3) := by decide +kernel
theorem dX3_fits_122 : decode cX3_fits 122 = .ok (.iconst 0, 1) := by decide +kernel
theorem dX3_fits_123 : decode cX3_fits 123 = .ok (.ireturn, 1) := by decide +kernel
theorem dX4_init_0 : decode cX4_init 0 = .ok (.aload_n 0, 1) := by decide +kernel
theorem dX4_init_1 : decode cX4_init 1 = .ok (.invokespecial 3, 3) := by decide +kernel
theorem dX4_init_4 : decode cX4_init 4 = .ok (.aload_n 0, 1) := by decide +kernel
theorem dX4_init_5 : decode cX4_init 5 = .ok (.bipush 6, 2) := by decide +kernel
theorem dX4_init_7 : decode cX4_init 7 = .ok (.newarray .int, 2) := by decide +kernel
theorem dX4_init_9 : decode cX4_init 9 = .ok (.putfield 9, 3) := by decide +kernel
theorem dX4_init_12 : decode cX4_init 12 = .ok (.aload_n 0, 1) := by decide +kernel
theorem dX4_init_13 : decode cX4_init 13 = .ok (.bipush 6, 2) := by decide +kernel
theorem dX4_init_15 : decode cX4_init 15 = .ok (.newarray .int, 2) := by decide +kernel
theorem dX4_init_17 : decode cX4_init 17 = .ok (.putfield 15, 3) := by decide +kernel
theorem dX4_init_20 : decode cX4_init 20 = .ok (.aload_n 0, 1) := by decide +kernel
theorem dX4_init_21 : decode cX4_init 21 = .ok (.iconst 0, 1) := by decide +kernel
theorem dX4_init_22 : decode cX4_init 22 = .ok (.putfield 18, 3) := by decide +kernel
theorem dX4_init_25 : decode cX4_init 25 = .ok (.return_, 1) := by decide +kernel
theorem dX4_size_0 : decode cX4_size 0 = .ok (.aload_n 0, 1) := by decide +kernel
theorem dX4_size_1 : decode cX4_size 1 = .ok (.getfield 18, 3) := by decide +kernel
theorem dX4_size_4 : decode cX4_size 4 = .ok (.ireturn, 1) := by decide +kernel
theorem dX4_put_0 : decode cX4_put 0 = .ok (.aload_n 0, 1) := by decide +kernel
theorem dX4_put_1 : decode cX4_put 1 = .ok (.getfield 18, 3) := by decide +kernel
theorem dX4_put_4 : decode cX4_put 4 = .ok (.bipush 6, 2) := by decide +kernel
theorem dX4_put_6 : decode cX4_put 6 = .ok (.if_icmp .ge 33, 3) := by decide +kernel
theorem dX4_put_9 : decode cX4_put 9 = .ok (.aload_n 0, 1) := by decide +kernel
theorem dX4_put_10 : decode cX4_put 10 = .ok (.getfield 9, 3) := by decide +kernel
theorem dX4_put_13 : decode cX4_put 13 = .ok (.aload_n 0, 1) := by decide +kernel
theorem dX4_put_14 : decode cX4_put 14 = .ok (.getfield 18, 3) := by decide +kernel
theorem dX4_put_17 : decode cX4_put 17 = .ok (.iload_n 1, 1) := by decide +kernel
theorem dX4_put_18 : decode cX4_put 18 = .ok (.iastore, 1) := by decide +kernel
theorem dX4_put_19 : decode cX4_put 19 = .ok (.aload_n 0, 1) := by decide +kernel
theorem dX4_put_20 : decode cX4_put 20 = .ok (.getfield 15, 3) := by decide +kernel
theorem dX4_put_23 : decode cX4_put 23 = .ok (.aload_n 0, 1) := by decide +kernel
theorem dX4_put_24 : decode cX4_put 24 = .ok (.getfield 18, 3) := by decide +kernel
theorem dX4_put_27 : decode cX4_put 27 = .ok (.iload_n 2, 1) := by decide +kernel
theorem dX4_put_28 : decode cX4_put 28 = .ok (.iastore, 1) := by decide +kernel
theorem dX4_put_29 : decode cX4_put 29 = .ok (.aload_n 0, 1) := by decide +kernel
theorem dX4_put_30 : decode cX4_put 30 = .ok (.dup, 1) := by decide +kernel
theorem dX4_put_31 : decode cX4_put 31 = .ok (.getfield 18, 3) := by decide +kernel
theorem dX4_put_34 : decode cX4_put 34 = .ok (.iconst 1, 1) := by decide +kernel
theorem dX4_put_35 : decode cX4_put 35 = .ok (.iadd, 1) := by decide +kernel
theorem dX4_put_36 : decode cX4_put 36 = .ok (.putfield 18, 3) := by decide +kernel
theorem dX4_put_39 : decode cX4_put 39 = .ok (.aload_n 0, 1) := by decide +kernel
theorem dX4_put_40 : decode cX4_put 40 = .ok (.getfield 18, 3) := by decide +kernel
theorem dX4_put_43 : decode cX4_put 43 = .ok (.ireturn, 1) := by decide +kernel
theorem dX4_empty_0 : decode cX4_empty 0 = .ok (.aload_n 0, 1) := by decide +kernel
theorem dX4_empty_1 : decode cX4_empty 1 = .ok (.getfield 18, 3) := by decide +kernel
theorem dX4_empty_4 : decode cX4_empty 4 = .ok (.istore_n 1, 1) := by decide +kernel
theorem dX4_empty_5 : decode cX4_empty 5 = .ok (.aload_n 0, 1) := by decide +kernel
theorem dX4_empty_6 : decode cX4_empty 6 = .ok (.iconst 0, 1) := by decide +kernel
theorem dX4_empty_7 : decode cX4_empty 7 = .ok (.putfield 18, 3) := by decide +kernel
theorem dX4_empty_10 : decode cX4_empty 10 = .ok (.iload_n 1, 1) := by decide +kernel
theorem dX4_empty_11 : decode cX4_empty 11 = .ok (.ireturn, 1) := by decide +kernel
theorem dX4_copyFrom_0 : decode cX4_copyFrom 0 = .ok (.aload_n 0, 1) := by decide +kernel
theorem dX4_copyFrom_1 : decode cX4_copyFrom 1 = .ok (.aload_n 1, 1) := by decide +kernel
theorem dX4_copyFrom_2 : decode cX4_copyFrom 2 = .ok (.getfield 18, 3) := by decide +kernel
theorem dX4_copyFrom_5 : decode cX4_copyFrom 5 = .ok (.putfield 18, 3) := by decide +kernel
theorem dX4_copyFrom_8 : decode cX4_copyFrom 8 = .ok (.iconst 0, 1) := by decide +kernel
theorem dX4_copyFrom_9 : decode cX4_copyFrom 9 = .ok (.istore_n 2, 1) := by decide +kernel
theorem dX4_copyFrom_10 : decode cX4_copyFrom 10 = .ok (.iload_n 2, 1) := by decide +kernel
theorem dX4_copyFrom_11 : decode cX4_copyFrom 11 = .ok (.aload_n 0, 1) := by decide +kernel
theorem dX4_copyFrom_12 : decode cX4_copyFrom 12 = .ok (.getfield 18, 3) := by decide +kernel
theorem dX4_copyFrom_15 : decode cX4_copyFrom 15 = .ok (.if_icmp .ge 33, 3) := by decide +kernel
theorem dX4_copyFrom_18 : decode cX4_copyFrom 18 = .ok (.aload_n 0, 1) := by decide +kernel
theorem dX4_copyFrom_19 : decode cX4_copyFrom 19 = .ok (.getfield 9, 3) := by decide +kernel
theorem dX4_copyFrom_22 : decode cX4_copyFrom 22 = .ok (.iload_n 2, 1) := by decide +kernel
theorem dX4_copyFrom_23 : decode cX4_copyFrom 23 = .ok (.aload_n 1, 1) := by decide +kernel
theorem dX4_copyFrom_24 : decode cX4_copyFrom 24 = .ok (.getfield 9, 3) := by decide +kernel
theorem dX4_copyFrom_27 : decode cX4_copyFrom 27 = .ok (.iload_n 2, 1) := by decide +kernel
theorem dX4_copyFrom_28 : decode cX4_copyFrom 28 = .ok (.iaload, 1) := by decide +kernel
theorem dX4_copyFrom_29 : decode cX4_copyFrom 29 = .ok (.iastore, 1) := by decide +kernel
theorem dX4_copyFrom_30 : decode cX4_copyFrom 30 = .ok (.aload_n 0, 1) := by decide +kernel
theorem dX4_copyFrom_31 : decode cX4_copyFrom 31 = .ok (.getfield 15, 3) := by decide +kernel
theorem dX4_copyFrom_34 : decode cX4_copyFrom 34 = .ok (.iload_n 2, 1) := by decide +kernel
theorem dX4_copyFrom_35 : decode cX4_copyFrom 35 = .ok (.aload_n 1, 1) := by decide +kernel
theorem dX4_copyFrom_36 : decode cX4_copyFrom 36 = .ok (.getfield 15, 3) := by decide +kernel
theorem dX4_copyFrom_39 : decode cX4_copyFrom 39 = .ok (.iload_n 2, 1) := by decide +kernel
theorem dX4_copyFrom_40 : decode cX4_copyFrom 40 = .ok (.iaload, 1) := by decide +kernel
theorem dX4_copyFrom_41 : decode cX4_copyFrom 41 = .ok (.iastore, 1) := by decide +kernel
theorem dX4_copyFrom_42 : decode cX4_copyFrom 42 = .ok (.iinc 2 1, 3) := by decide +kernel
theorem dX4_copyFrom_45 : decode cX4_copyFrom 45 = .ok (.goto (-35), 3) := by decide +kernel
theorem dX4_copyFrom_48 : decode cX4_copyFrom 48 = .ok (.return_, 1) := by decide +kernel
theorem dX4_allows_0 : decode cX4_allows 0 = .ok (.iconst 0, 1) := by decide +kernel
theorem dX4_allows_1 : decode cX4_allows 1 = .ok (.istore_n 3, 1) := by decide +kernel
theorem dX4_allows_2 : decode cX4_allows 2 = .ok (.iload_n 3, 1) := by decide +kernel
theorem dX4_allows_3 : decode cX4_allows 3 = .ok (.aload_n 0, 1) := by decide +kernel
theorem dX4_allows_4 : decode cX4_allows 4 = .ok (.getfield 18, 3) := by decide +kernel
theorem dX4_allows_7 : decode cX4_allows 7 = .ok (.if_icmp .ge 31, 3) := by decide +kernel
theorem dX4_allows_10 : decode cX4_allows 10 = .ok (.aload_n 0, 1) := by decide +kernel
theorem dX4_allows_11 : decode cX4_allows 11 = .ok (.getfield 9, 3) := by decide +kernel
theorem dX4_allows_14 : decode cX4_allows 14 = .ok (.iload_n 3, 1) := by decide +kernel
theorem dX4_allows_15 : decode cX4_allows 15 = .ok (.iaload, 1) := by decide +kernel
theorem dX4_allows_16 : decode cX4_allows 16 = .ok (.iload_n 1, 1) := by decide +kernel
theorem dX4_allows_17 : decode cX4_allows 17 = .ok (.if_icmp .ne 15, 3) := by decide +kernel
theorem dX4_allows_20 : decode cX4_allows 20 = .ok (.aload_n 0, 1) := by decide +kernel
theorem dX4_allows_21 : decode cX4_allows 21 = .ok (.getfield 15, 3) := by decide +kernel
theorem dX4_allows_24 : decode cX4_allows 24 = .ok (.iload_n 3, 1) := by decide +kernel
theorem dX4_allows_25 : decode cX4_allows 25 = .ok (.iaload, 1) := by decide +kernel
theorem dX4_allows_26 : decode cX4_allows 26 = .ok (.iload_n 2, 1) := by decide +kernel
theorem dX4_allows_27 : decode cX4_allows 27 = .ok (.if_icmp .eq 5, 3) := by decide +kernel
theorem dX4_allows_30 : decode cX4_allows 30 = .ok (.iconst 0, 1) := by decide +kernel
theorem dX4_allows_31 : decode cX4_allows 31 = .ok (.ireturn, 1) := by decide +kernel
theorem dX4_allows_32 : decode cX4_allows 32 = .ok (.iinc 3 1, 3) := by decide +kernel
theorem dX4_allows_35 : decode cX4_allows 35 = .ok (.goto (-33), 3) := by decide +kernel
theorem dX4_allows_38 : decode cX4_allows 38 = .ok (.iconst 1, 1) := by decide +kernel
theorem dX4_allows_39 : decode cX4_allows 39 = .ok (.ireturn, 1) := by decide +kernel
theorem dX5_init_0 : decode cX5_init 0 = .ok (.aload_n 0, 1) := by decide +kernel
theorem dX5_init_1 : decode cX5_init 1 = .ok (.invokespecial 1, 3) := by decide +kernel
theorem dX5_init_4 : decode cX5_init 4 = .ok (.aload_n 0, 1) := by decide +kernel
theorem dX5_init_5 : decode cX5_init 5 = .ok (.new 7, 3) := by decide +kernel
theorem dX5_init_8 : decode cX5_init 8 = .ok (.dup, 1) := by decide +kernel
theorem dX5_init_9 : decode cX5_init 9 = .ok (.invokespecial 9, 3) := by decide +kernel
theorem dX5_init_12 : decode cX5_init 12 = .ok (.putfield 10, 3) := by decide +kernel
theorem dX5_init_15 : decode cX5_init 15 = .ok (.aload_n 0, 1) := by decide +kernel
theorem dX5_init_16 : decode cX5_init 16 = .ok (.new 16, 3) := by decide +kernel
theorem dX5_init_19 : decode cX5_init 19 = .ok (.dup, 1) := by decide +kernel
theorem dX5_init_20 : decode cX5_init 20 = .ok (.invokespecial 18, 3) := by decide +kernel
theorem dX5_init_23 : decode cX5_init 23 = .ok (.putfield 19, 3) := by decide +kernel
theorem dX5_init_26 : decode cX5_init 26 = .ok (.aload_n 0, 1) := by decide +kernel
theorem dX5_init_27 : decode cX5_init 27 = .ok (.new 23, 3) := by decide +kernel
theorem dX5_init_30 : decode cX5_init 30 = .ok (.dup, 1) := by decide +kernel
theorem dX5_init_31 : decode cX5_init 31 = .ok (.invokespecial 25, 3) := by decide +kernel
theorem dX5_init_34 : decode cX5_init 34 = .ok (.putfield 26, 3) := by decide +kernel
theorem dX5_init_37 : decode cX5_init 37 = .ok (.aload_n 0, 1) := by decide +kernel
theorem dX5_init_38 : decode cX5_init 38 = .ok (.new 16, 3) := by decide +kernel
theorem dX5_init_41 : decode cX5_init 41 = .ok (.dup, 1) := by decide +kernel
theorem dX5_init_42 : decode cX5_init 42 = .ok (.invokespecial 18, 3) := by decide +kernel
theorem dX5_init_45 : decode cX5_init 45 = .ok (.putfield 30, 3) := by decide +kernel
theorem dX5_init_48 : decode cX5_init 48 = .ok (.aload_n 0, 1) := by decide +kernel
theorem dX5_init_49 : decode cX5_init 49 = .ok (.new 23, 3) := by decide +kernel
theorem dX5_init_52 : decode cX5_init 52 = .ok (.dup, 1) := by decide +kernel
theorem dX5_init_53 : decode cX5_init 53 = .ok (.invokespecial 25, 3) := by decide +kernel
theorem dX5_init_56 : decode cX5_init 56 = .ok (.putfield 33, 3) := by decide +kernel
theorem dX5_init_59 : decode cX5_init 59 = .ok (.aload_n 0, 1) := by decide +kernel
theorem dX5_init_60 : decode cX5_init 60 = .ok (.iconst 0, 1) := by decide +kernel
theorem dX5_init_61 : decode cX5_init 61 = .ok (.putfield 36, 3) := by decide +kernel
theorem dX5_init_64 : decode cX5_init 64 = .ok (.aload_n 0, 1) := by decide +kernel
theorem dX5_init_65 : decode cX5_init 65 = .ok (.new 16, 3) := by decide +kernel
theorem dX5_init_68 : decode cX5_init 68 = .ok (.dup, 1) := by decide +kernel
theorem dX5_init_69 : decode cX5_init 69 = .ok (.invokespecial 18, 3) := by decide +kernel
theorem dX5_init_72 : decode cX5_init 72 = .ok (.putfield 40, 3) := by decide +kernel
theorem dX5_init_75 : decode cX5_init 75 = .ok (.aload_n 0, 1) := by decide +kernel
theorem dX5_init_76 : decode cX5_init 76 = .ok (.new 43, 3) := by decide +kernel
theorem dX5_init_79 : decode cX5_init 79 = .ok (.dup, 1) := by decide +kernel
theorem dX5_init_80 : decode cX5_init 80 = .ok (.invokespecial 45, 3) := by decide +kernel
theorem dX5_init_83 : decode cX5_init 83 = .ok (.putfield 46, 3) := by decide +kernel
theorem dX5_init_86 : decode cX5_init 86 = .ok (.aload_n 0, 1) := by decide +kernel
theorem dX5_init_87 : decode cX5_init 87 = .ok (.new 50, 3) := by decide +kernel
theorem dX5_init_90 : decode cX5_init 90 = .ok (.dup, 1) := by decide +kernel
theorem dX5_init_91 : decode cX5_init 91 = .ok (.invokespecial 52, 3) := by decide +kernel
theorem dX5_init_94 : decode cX5_init 94 = .ok (.putfield 53, 3) := by decide +kernel
theorem dX5_init_97 : decode cX5_init 97 = .ok (.aload_n 0, 1) := by decide +kernel
theorem dX5_init_98 : decode cX5_init 98 = .ok (.iconst 0, 1) := by decide +kernel
theorem dX5_init_99 : decode cX5_init 99 = .ok (.putfield 57, 3) := by decide +kernel
theorem dX5_init_102 : decode cX5_init 102 = .ok (.aload_n 0, 1) := by decide +kernel
theorem dX5_init_103 : decode cX5_init 103 = .ok (.iconst 0, 1) := by decide +kernel
theorem dX5_init_104 : decode cX5_init 104 = .ok (.putfield 61, 3) := by decide +kernel
theorem dX5_init_107 : decode cX5_init 107 = .ok (.return_, 1) := by decide +kernel
theorem dX5_letter_0 : decode cX5_letter 0 = .ok (.iload_n 1, 1) := by decide +kernel
theorem dX5_letter_1 : decode cX5_letter 1 = .ok (.bipush 32, 2) := by decide +kernel
theorem dX5_letter_3 : decode cX5_letter 3 = .ok (.bipush 126, 2) := by decide +kernel
theorem dX5_letter_5 : decode cX5_letter 5 = .ok (.invokestatic 64, 3) := by decide +kernel
theorem dX5_letter_8 : decode cX5_letter 8 = .ok (.ifCond .ne 6, 3) := by decide +kernel
theorem dX5_letter_11 : decode cX5_letter 11 = .ok (.bipush (-102), 2) := by decide +kernel
theorem dX5_letter_13 : decode cX5_letter 13 = .ok (.ireturn, 1) := by decide +kernel
theorem dX5_letter_14 : decode cX5_letter 14 = .ok (.aload_n 0, 1) := by decide +kernel
theorem dX5_letter_15 : decode cX5_letter 15 = .ok (.getfield 10, 3) := by decide +kernel
theorem dX5_letter_18 : decode cX5_letter 18 = .ok (.invokevirtual 68, 3) := by decide +kernel
theorem dX5_letter_21 : decode cX5_letter 21 = .ok (.bipush 18, 2) := by decide +kernel
theorem dX5_letter_23 : decode cX5_letter 23 = .ok (.if_icmp .lt 6, 3) := by decide +kernel
theorem dX5_letter_26 : decode cX5_letter 26 = .ok (.bipush (-104), 2) := by decide +kernel
theorem dX5_letter_28 : decode cX5_letter 28 = .ok (.ireturn, 1) := by decide +kernel
theorem dX5_letter_29 : decode cX5_letter 29 = .ok (.aload_n 0, 1) := by decide +kernel
theorem dX5_letter_30 : decode cX5_letter 30 = .ok (.getfield 10, 3) := by decide +kernel
theorem dX5_letter_33 : decode cX5_letter 33 = .ok (.iload_n 1, 1) := by decide +kernel
theorem dX5_letter_34 : decode cX5_letter 34 = .ok (.invokevirtual 72, 3) := by decide +kernel
theorem dX5_letter_37 : decode cX5_letter 37 = .ok (.ireturn, 1) := by decide +kernel
theorem dX5_blank_0 : decode cX5_blank 0 = .ok (.aload_n 0, 1) := by decide +kernel
theorem dX5_blank_1 : decode cX5_blank 1 = .ok (.getfield 10, 3) := by decide +kernel
theorem dX5_blank_4 : decode cX5_blank 4 = .ok (.invokevirtual 76, 3) := by decide +kernel
theorem dX5_blank_7 : decode cX5_blank 7 = .ok (.ireturn, 1) := by decide +kernel
theorem dX5_fault_0 : decode cX5_fault 0 = .ok (.aload_n 0, 1) := by decide +kernel
theorem dX5_fault_1 : decode cX5_fault 1 = .ok (.getfield 10, 3) := by decide +kernel
theorem dX5_fault_4 : decode cX5_fault 4 = .ok (.invokevirtual 79, 3) := by decide +kernel
theorem dX5_fault_7 : decode cX5_fault 7 = .ok (.ireturn, 1) := by decide +kernel
theorem dX5_house_0 : decode cX5_house 0 = .ok (.aload_n 0, 1) := by decide +kernel
theorem dX5_house_1 : decode cX5_house 1 = .ok (.getfield 10, 3) := by decide +kernel
theorem dX5_house_4 : decode cX5_house 4 = .ok (.invokevirtual 82, 3) := by decide +kernel
theorem dX5_house_7 : decode cX5_house 7 = .ok (.ifCond .ne 6, 3) := by decide +kernel
theorem dX5_house_10 : decode cX5_house 10 = .ok (.bipush (-103), 2) := by decide +kernel
theorem dX5_house_12 : decode cX5_house 12 = .ok (.ireturn, 1) := by decide +kernel
theorem dX5_house_13 : decode cX5_house 13 = .ok (.aload_n 0, 1) := by decide +kernel
theorem dX5_house_14 : decode cX5_house 14 = .ok (.getfield 19, 3) := by decide +kernel
theorem dX5_house_17 : decode cX5_house 17 = .ok (.aload_n 0, 1) := by decide +kernel
theorem dX5_house_18 : decode cX5_house 18 = .ok (.getfield 10, 3) := by decide +kernel
theorem dX5_house_21 : decode cX5_house 21 = .ok (.invokevirtual 86, 3) := by decide +kernel
theorem dX5_house_24 : decode cX5_house 24 = .ok (.aload_n 0, 1) := by decide +kernel
theorem dX5_house_25 : decode cX5_house 25 = .ok (.getfield 10, 3) := by decide +kernel
theorem dX5_house_28 : decode cX5_house 28 = .ok (.invokevirtual 76, 3) := by decide +kernel
theorem dX5_house_31 : decode cX5_house 31 = .ok (.pop, 1) := by decide +kernel
theorem dX5_house_32 : decode cX5_house 32 = .ok (.aload_n 0, 1) := by decide +kernel
theorem dX5_house_33 : decode cX5_house 33 = .ok (.getfield 26, 3) := by decide +kernel
theorem dX5_house_36 : decode cX5_house 36 = .ok (.invokevirtual 90, 3) := by decide +kernel
theorem dX5_house_39 : decode cX5_house 39 = .ok (.pop, 1) := by decide +kernel
theorem dX5_house_40 : decode cX5_house 40 = .ok (.aload_n 0, 1) := by decide +kernel
theorem dX5_house_41 : decode cX5_house 41 = .ok (.iconst 0, 1) := by decide +kernel
theorem dX5_house_42 : decode cX5_house 42 = .ok (.putfield 36, 3) := by decide +kernel
theorem dX5_house_45 : decode cX5_house 45 = .ok (.aload_n 0, 1) := by decide +kernel
theorem dX5_house_46 : decode cX5_house 46 = .ok (.dup, 1) := by decide +kernel
theorem dX5_house_47 : decode cX5_house 47 = .ok (.getfield 57, 3) := by decide +kernel
theorem dX5_house_50 : decode cX5_house 50 = .ok (.iconst 1, 1) := by decide +kernel
theorem dX5_house_51 : decode cX5_house 51 = .ok (.iadd, 1) := by decide +kernel
theorem dX5_house_52 : decode cX5_house 52 = .ok (.putfield 57, 3) := by decide +kernel
theorem dX5_house_55 : decode cX5_house 55 = .ok (.aload_n 0, 1) := by decide +kernel
theorem dX5_house_56 : decode cX5_house 56 = .ok (.getfield 19, 3) := by decide +kernel
theorem dX5_house_59 : decode cX5_house 59 = .ok (.invokevirtual 91, 3) := by decide +kernel
theorem dX5_house_62 : decode cX5_house 62 = .ok (.ireturn, 1) := by decide +kernel
theorem dX5_about_0 : decode cX5_about 0 = .ok (.aload_n 0, 1) := by decide +kernel
theorem dX5_about_1 : decode cX5_about 1 = .ok (.getfield 19, 3) := by decide +kernel
theorem dX5_about_4 : decode cX5_about 4 = .ok (.iload_n 1, 1) := by decide +kernel
theorem dX5_about_5 : decode cX5_about 5 = .ok (.invokevirtual 94, 3) := by decide +kernel
theorem dX5_about_8 : decode cX5_about 8 = .ok (.ifCond .ne 6, 3) := by decide +kernel
theorem dX5_about_11 : decode cX5_about 11 = .ok (.bipush (-101), 2) := by decide +kernel
theorem dX5_about_13 : decode cX5_about 13 = .ok (.ireturn, 1) := by decide +kernel
theorem dX5_about_14 : decode cX5_about 14 = .ok (.iload_n 2, 1) := by decide +kernel
theorem dX5_about_15 : decode cX5_about 15 = .ok (.tableswitch 150 0 6 #[41, 50, 59, 76, 93, 102, 126], 41) := by decide +kernel
theorem dX5_about_56 : decode cX5_about 56 = .ok (.aload_n 0, 1) := by decide +kernel
theorem dX5_about_57 : decode cX5_about 57 = .ok (.getfield 19, 3) := by decide +kernel
theorem dX5_about_60 : decode cX5_about 60 = .ok (.iload_n 1, 1) := by decide +kernel
theorem dX5_about_61 : decode cX5_about 61 = .ok (.invokevirtual 98, 3) := by decide +kernel
theorem dX5_about_64 : decode cX5_about 64 = .ok (.ireturn, 1) := by decide +kernel
theorem dX5_about_65 : decode cX5_about 65 = .ok (.aload_n 0, 1) := by decide +kernel
theorem dX5_about_66 : decode cX5_about 66 = .ok (.getfield 19, 3) := by decide +kernel
theorem dX5_about_69 : decode cX5_about 69 = .ok (.iload_n 1, 1) := by decide +kernel
theorem dX5_about_70 : decode cX5_about 70 = .ok (.invokevirtual 101, 3) := by decide +kernel
theorem dX5_about_73 : decode cX5_about 73 = .ok (.ireturn, 1) := by decide +kernel
theorem dX5_about_74 : decode cX5_about 74 = .ok (.aload_n 0, 1) := by decide +kernel
theorem dX5_about_75 : decode cX5_about 75 = .ok (.getfield 19, 3) := by decide +kernel
theorem dX5_about_78 : decode cX5_about 78 = .ok (.iload_n 1, 1) := by decide +kernel
theorem dX5_about_79 : decode cX5_about 79 = .ok (.invokevirtual 104, 3) := by decide +kernel
theorem dX5_about_82 : decode cX5_about 82 = .ok (.ifCond .eq 7, 3) := by decide +kernel
theorem dX5_about_85 : decode cX5_about 85 = .ok (.iconst 1, 1) := by decide +kernel
theorem dX5_about_86 : decode cX5_about 86 = .ok (.goto 4, 3) := by decide +kernel
theorem dX5_about_89 : decode cX5_about 89 = .ok (.iconst 0, 1) := by decide +kernel
theorem dX5_about_90 : decode cX5_about 90 = .ok (.ireturn, 1) := by decide +kernel
theorem dX5_about_91 : decode cX5_about 91 = .ok (.aload_n 0, 1) := by decide +kernel
theorem dX5_about_92 : decode cX5_about 92 = .ok (.getfield 19, 3) := by decide +kernel
theorem dX5_about_95 : decode cX5_about 95 = .ok (.invokevirtual 107, 3) := by decide +kernel
theorem dX5_about_98 : decode cX5_about 98 = .ok (.iload_n 1, 1) := by decide +kernel
theorem dX5_about_99 : decode cX5_about 99 = .ok (.if_icmp .ne 7, 3) := by decide +kernel
theorem dX5_about_102 : decode cX5_about 102 = .ok (.iconst 1, 1) := by decide +kernel
theorem dX5_about_103 : decode cX5_about 103 = .ok (.goto 4, 3) := by decide +kernel
theorem dX5_about_106 : decode cX5_about 106 = .ok (.iconst 0, 1) := by decide +kernel
theorem dX5_about_107 : decode cX5_about 107 = .ok (.ireturn, 1) := by decide +kernel
theorem dX5_about_108 : decode cX5_about 108 = .ok (.aload_n 0, 1) := by decide +kernel
theorem dX5_about_109 : decode cX5_about 109 = .ok (.getfield 19, 3) := by decide +kernel
theorem dX5_about_112 : decode cX5_about 112 = .ok (.iload_n 1, 1) := by decide +kernel
theorem dX5_about_113 : decode cX5_about 113 = .ok (.invokevirtual 110, 3) := by decide +kernel
theorem dX5_about_116 : decode cX5_about 116 = .ok (.ireturn, 1) := by decide +kernel
theorem dX5_about_117 : decode cX5_about 117 = .ok (.aload_n 0, 1) := by decide +kernel
theorem dX5_about_118 : decode cX5_about 118 = .ok (.getfield 53, 3) := by decide +kernel
theorem dX5_about_121 : decode cX5_about 121 = .ok (.aload_n 0, 1) := by decide +kernel
theorem dX5_about_122 : decode cX5_about 122 = .ok (.getfield 19, 3) := by decide +kernel
theorem dX5_about_125 : decode cX5_about 125 = .ok (.aload_n 0, 1) := by decide +kernel
theorem dX5_about_126 : decode cX5_about 126 = .ok (.getfield 26, 3) := by decide +kernel
theorem dX5_about_129 : decode cX5_about 129 = .ok (.iload_n 1, 1) := by decide +kernel
theorem dX5_about_130 : decode cX5_about 130 = .ok (.invokevirtual 113, 3) := by decide +kernel
theorem dX5_about_133 : decode cX5_about 133 = .ok (.aload_n 0, 1) := by decide +kernel
theorem dX5_about_134 : decode cX5_about 134 = .ok (.getfield 53, 3) := by decide +kernel
theorem dX5_about_137 : decode cX5_about 137 = .ok (.invokevirtual 117, 3) := by decide +kernel
theorem dX5_about_140 : decode cX5_about 140 = .ok (.ireturn, 1) := by decide +kernel
theorem dX5_about_141 : decode cX5_about 141 = .ok (.aload_n 0, 1) := by decide +kernel
theorem dX5_about_142 : decode cX5_about 142 = .ok (.getfield 53, 3) := by decide +kernel
theorem dX5_about_145 : decode cX5_about 145 = .ok (.aload_n 0, 1) := by decide +kernel
theorem dX5_about_146 : decode cX5_about 146 = .ok (.getfield 19, 3) := by decide +kernel
theorem dX5_about_149 : decode cX5_about 149 = .ok (.aload_n 0, 1) := by decide +kernel
theorem dX5_about_150 : decode cX5_about 150 = .ok (.getfield 26, 3) := by decide +kernel
theorem dX5_about_153 : decode cX5_about 153 = .ok (.iload_n 1, 1) := by decide +kernel
theorem dX5_about_154 : decode cX5_about 154 = .ok (.invokevirtual 113, 3) := by decide +kernel
theorem dX5_about_157 : decode cX5_about 157 = .ok (.aload_n 0, 1) := by decide +kernel
theorem dX5_about_158 : decode cX5_about 158 = .ok (.getfield 53, 3) := by decide +kernel
theorem dX5_about_161 : decode cX5_about 161 = .ok (.invokevirtual 120, 3) := by decide +kernel
theorem dX5_about_164 : decode cX5_about 164 = .ok (.ireturn, 1) := by decide +kernel
theorem dX5_about_165 : decode cX5_about 165 = .ok (.bipush (-102), 2) := by decide +kernel
theorem dX5_about_167 : decode cX5_about 167 = .ok (.ireturn, 1) := by decide +kernel
theorem dX5_as_0 : decode cX5_as 0 = .ok (.aload_n 0, 1) := by decide +kernel
theorem dX5_as_1 : decode cX5_as 1 = .ok (.getfield 19, 3) := by decide +kernel
theorem dX5_as_4 : decode cX5_as 4 = .ok (.iload_n 1, 1) := by decide +kernel
theorem dX5_as_5 : decode cX5_as 5 = .ok (.invokevirtual 94, 3) := by decide +kernel
theorem dX5_as_8 : decode cX5_as 8 = .ok (.ifCond .ne 6, 3) := by decide +kernel
theorem dX5_as_11 : decode cX5_as 11 = .ok (.bipush (-101), 2) := by decide +kernel
theorem dX5_as_13 : decode cX5_as 13 = .ok (.ireturn, 1) := by decide +kernel
theorem dX5_as_14 : decode cX5_as 14 = .ok (.iload_n 2, 1) := by decide +kernel
theorem dX5_as_15 : decode cX5_as 15 = .ok (.iconst 0, 1) := by decide +kernel
theorem dX5_as_16 : decode cX5_as 16 = .ok (.iconst 4, 1) := by decide +kernel
theorem dX5_as_17 : decode cX5_as 17 = .ok (.invokestatic 64, 3) := by decide +kernel
theorem dX5_as_20 : decode cX5_as 20 = .ok (.ifCond .ne 6, 3) := by decide +kernel
theorem dX5_as_23 : decode cX5_as 23 = .ok (.bipush (-102), 2) := by decide +kernel
theorem dX5_as_25 : decode cX5_as 25 = .ok (.ireturn, 1) := by decide +kernel
theorem dX5_as_26 : decode cX5_as 26 = .ok (.aload_n 0, 1) := by decide +kernel
theorem dX5_as_27 : decode cX5_as 27 = .ok (.getfield 19, 3) := by decide +kernel
theorem dX5_as_30 : decode cX5_as 30 = .ok (.iload_n 1, 1) := by decide +kernel
theorem dX5_as_31 : decode cX5_as 31 = .ok (.invokevirtual 98, 3) := by decide +kernel
theorem dX5_as_34 : decode cX5_as 34 = .ok (.iload_n 2, 1) := by decide +kernel
theorem dX5_as_35 : decode cX5_as 35 = .ok (.invokestatic 123, 3) := by decide +kernel
theorem dX5_as_38 : decode cX5_as 38 = .ok (.ifCond .eq 7, 3) := by decide +kernel
theorem dX5_as_41 : decode cX5_as 41 = .ok (.iload_n 1, 1) := by decide +kernel
theorem dX5_as_42 : decode cX5_as 42 = .ok (.goto 4, 3) := by decide +kernel
theorem dX5_as_45 : decode cX5_as 45 = .ok (.iconst (-1), 1) := by decide +kernel
theorem dX5_as_46 : decode cX5_as 46 = .ok (.ireturn, 1) := by decide +kernel
theorem dX5_bed_0 : decode cX5_bed 0 = .ok (.aload_n 0, 1) := by decide +kernel
theorem dX5_bed_1 : decode cX5_bed 1 = .ok (.invokevirtual 127, 3) := by decide +kernel
theorem dX5_bed_4 : decode cX5_bed 4 = .ok (.ifCond .eq 13, 3) := by decide +kernel
theorem dX5_bed_7 : decode cX5_bed 7 = .ok (.aload_n 0, 1) := by decide +kernel
theorem dX5_bed_8 : decode cX5_bed 8 = .ok (.getfield 19, 3) := by decide +kernel
theorem dX5_bed_11 : decode cX5_bed 11 = .ok (.invokevirtual 107, 3) := by decide +kernel
theorem dX5_bed_14 : decode cX5_bed 14 = .ok (.goto 5, 3) := by decide +kernel
theorem dX5_bed_17 : decode cX5_bed 17 = .ok (.bipush (-103), 2) := by decide +kernel
theorem dX5_bed_19 : decode cX5_bed 19 = .ok (.ireturn, 1) := by decide +kernel
theorem dX5_coffee_0 : decode cX5_coffee 0 = .ok (.aload_n 0, 1) := by decide +kernel
theorem dX5_coffee_1 : decode cX5_coffee 1 = .ok (.getfield 19, 3) := by decide +kernel
theorem dX5_coffee_4 : decode cX5_coffee 4 = .ok (.iload_n 1, 1) := by decide +kernel
theorem dX5_coffee_5 : decode cX5_coffee 5 = .ok (.invokevirtual 94, 3) := by decide +kernel
theorem dX5_coffee_8 : decode cX5_coffee 8 = .ok (.ifCond .ne 6, 3) := by decide +kernel
theorem dX5_coffee_11 : decode cX5_coffee 11 = .ok (.bipush (-101), 2) := by decide +kernel
theorem dX5_coffee_13 : decode cX5_coffee 13 = .ok (.ireturn, 1) := by decide +kernel
theorem dX5_coffee_14 : decode cX5_coffee 14 = .ok (.aload_n 0, 1) := by decide +kernel
theorem dX5_coffee_15 : decode cX5_coffee 15 = .ok (.getfield 19, 3) := by decide +kernel
theorem dX5_coffee_18 : decode cX5_coffee 18 = .ok (.iload_n 1, 1) := by decide +kernel
theorem dX5_coffee_19 : decode cX5_coffee 19 = .ok (.invokevirtual 104, 3) := by decide +kernel
theorem dX5_coffee_22 : decode cX5_coffee 22 = .ok (.ifCond .eq 6, 3) := by decide +kernel
theorem dX5_coffee_25 : decode cX5_coffee 25 = .ok (.bipush (-103), 2) := by decide +kernel
theorem dX5_coffee_27 : decode cX5_coffee 27 = .ok (.ireturn, 1) := by decide +kernel
theorem dX5_coffee_28 : decode cX5_coffee 28 = .ok (.aload_n 0, 1) := by decide +kernel
theorem dX5_coffee_29 : decode cX5_coffee 29 = .ok (.getfield 19, 3) := by decide +kernel
theorem dX5_coffee_32 : decode cX5_coffee 32 = .ok (.iload_n 1, 1) := by decide +kernel
theorem dX5_coffee_33 : decode cX5_coffee 33 = .ok (.invokevirtual 130, 3) := by decide +kernel
theorem dX5_coffee_36 : decode cX5_coffee 36 = .ok (.aload_n 0, 1) := by decide +kernel
theorem dX5_coffee_37 : decode cX5_coffee 37 = .ok (.getfield 19, 3) := by decide +kernel
theorem dX5_coffee_40 : decode cX5_coffee 40 = .ok (.iload_n 1, 1) := by decide +kernel
theorem dX5_coffee_41 : decode cX5_coffee 41 = .ok (.invokevirtual 101, 3) := by decide +kernel
theorem dX5_coffee_44 : decode cX5_coffee 44 = .ok (.ireturn, 1) := by decide +kernel
theorem dX5_lecture_0 : decode cX5_lecture 0 = .ok (.aload_n 0, 1) := by decide +kernel
theorem dX5_lecture_1 : decode cX5_lecture 1 = .ok (.getfield 19, 3) := by decide +kernel
theorem dX5_lecture_4 : decode cX5_lecture 4 = .ok (.iload_n 1, 1) := by decide +kernel
theorem dX5_lecture_5 : decode cX5_lecture 5 = .ok (.invokevirtual 94, 3) := by decide +kernel
theorem dX5_lecture_8 : decode cX5_lecture 8 = .ok (.ifCond .ne 6, 3) := by decide +kernel
theorem dX5_lecture_11 : decode cX5_lecture 11 = .ok (.bipush (-101), 2) := by decide +kernel
theorem dX5_lecture_13 : decode cX5_lecture 13 = .ok (.ireturn, 1) := by decide +kernel
theorem dX5_lecture_14 : decode cX5_lecture 14 = .ok (.aload_n 0, 1) := by decide +kernel
theorem dX5_lecture_15 : decode cX5_lecture 15 = .ok (.getfield 19, 3) := by decide +kernel
theorem dX5_lecture_18 : decode cX5_lecture 18 = .ok (.iload_n 1, 1) := by decide +kernel
theorem dX5_lecture_19 : decode cX5_lecture 19 = .ok (.invokevirtual 104, 3) := by decide +kernel
theorem dX5_lecture_22 : decode cX5_lecture 22 = .ok (.ifCond .eq 6, 3) := by decide +kernel
theorem dX5_lecture_25 : decode cX5_lecture 25 = .ok (.bipush (-103), 2) := by decide +kernel
theorem dX5_lecture_27 : decode cX5_lecture 27 = .ok (.ireturn, 1) := by decide +kernel
theorem dX5_lecture_28 : decode cX5_lecture 28 = .ok (.aload_n 0, 1) := by decide +kernel
theorem dX5_lecture_29 : decode cX5_lecture 29 = .ok (.getfield 19, 3) := by decide +kernel
theorem dX5_lecture_32 : decode cX5_lecture 32 = .ok (.iload_n 1, 1) := by decide +kernel
theorem dX5_lecture_33 : decode cX5_lecture 33 = .ok (.invokevirtual 134, 3) := by decide +kernel
theorem dX5_lecture_36 : decode cX5_lecture 36 = .ok (.aload_n 0, 1) := by decide +kernel
theorem dX5_lecture_37 : decode cX5_lecture 37 = .ok (.getfield 19, 3) := by decide +kernel
theorem dX5_lecture_40 : decode cX5_lecture 40 = .ok (.iload_n 1, 1) := by decide +kernel
theorem dX5_lecture_41 : decode cX5_lecture 41 = .ok (.invokevirtual 101, 3) := by decide +kernel
theorem dX5_lecture_44 : decode cX5_lecture 44 = .ok (.ireturn, 1) := by decide +kernel
theorem dX5_hour_0 : decode cX5_hour 0 = .ok (.aload_n 0, 1) := by decide +kernel
theorem dX5_hour_1 : decode cX5_hour 1 = .ok (.invokevirtual 127, 3) := by decide +kernel
theorem dX5_hour_4 : decode cX5_hour 4 = .ok (.ifCond .ne 6, 3) := by decide +kernel
theorem dX5_hour_7 : decode cX5_hour 7 = .ok (.bipush (-103), 2) := by decide +kernel
theorem dX5_hour_9 : decode cX5_hour 9 = .ok (.ireturn, 1) := by decide +kernel
theorem dX5_hour_10 : decode cX5_hour 10 = .ok (.aload_n 0, 1) := by decide +kernel
theorem dX5_hour_11 : decode cX5_hour 11 = .ok (.getfield 19, 3) := by decide +kernel
theorem dX5_hour_14 : decode cX5_hour 14 = .ok (.invokevirtual 137, 3) := by decide +kernel
theorem dX5_hour_17 : decode cX5_hour 17 = .ok (.aload_n 0, 1) := by decide +kernel
theorem dX5_hour_18 : decode cX5_hour 18 = .ok (.getfield 19, 3) := by decide +kernel
theorem dX5_hour_21 : decode cX5_hour 21 = .ok (.invokevirtual 140, 3) := by decide +kernel
theorem dX5_hour_24 : decode cX5_hour 24 = .ok (.ireturn, 1) := by decide +kernel
theorem dX5_cups_0 : decode cX5_cups 0 = .ok (.aload_n 0, 1) := by decide +kernel
theorem dX5_cups_1 : decode cX5_cups 1 = .ok (.getfield 19, 3) := by decide +kernel
theorem dX5_cups_4 : decode cX5_cups 4 = .ok (.iload_n 1, 1) := by decide +kernel
theorem dX5_cups_5 : decode cX5_cups 5 = .ok (.invokevirtual 94, 3) := by decide +kernel
theorem dX5_cups_8 : decode cX5_cups 8 = .ok (.ifCond .ne 6, 3) := by decide +kernel
theorem dX5_cups_11 : decode cX5_cups 11 = .ok (.bipush (-101), 2) := by decide +kernel
theorem dX5_cups_13 : decode cX5_cups 13 = .ok (.ireturn, 1) := by decide +kernel
theorem dX5_cups_14 : decode cX5_cups 14 = .ok (.iload_n 2, 1) := by decide +kernel
theorem dX5_cups_15 : decode cX5_cups 15 = .ok (.iconst 1, 1) := by decide +kernel
theorem dX5_cups_16 : decode cX5_cups 16 = .ok (.bipush 6, 2) := by decide +kernel
theorem dX5_cups_18 : decode cX5_cups 18 = .ok (.invokestatic 64, 3) := by decide +kernel
theorem dX5_cups_21 : decode cX5_cups 21 = .ok (.ifCond .ne 6, 3) := by decide +kernel
theorem dX5_cups_24 : decode cX5_cups 24 = .ok (.bipush (-102), 2) := by decide +kernel
theorem dX5_cups_26 : decode cX5_cups 26 = .ok (.ireturn, 1) := by decide +kernel
theorem dX5_cups_27 : decode cX5_cups 27 = .ok (.aload_n 0, 1) := by decide +kernel
theorem dX5_cups_28 : decode cX5_cups 28 = .ok (.getfield 19, 3) := by decide +kernel
theorem dX5_cups_31 : decode cX5_cups 31 = .ok (.iload_n 1, 1) := by decide +kernel
theorem dX5_cups_32 : decode cX5_cups 32 = .ok (.invokevirtual 104, 3) := by decide +kernel
theorem dX5_cups_35 : decode cX5_cups 35 = .ok (.ifCond .eq 6, 3) := by decide +kernel
theorem dX5_cups_38 : decode cX5_cups 38 = .ok (.bipush (-103), 2) := by decide +kernel
theorem dX5_cups_40 : decode cX5_cups 40 = .ok (.ireturn, 1) := by decide +kernel
theorem dX5_cups_41 : decode cX5_cups 41 = .ok (.aload_n 0, 1) := by decide +kernel
theorem dX5_cups_42 : decode cX5_cups 42 = .ok (.iload_n 1, 1) := by decide +kernel
theorem dX5_cups_43 : decode cX5_cups 43 = .ok (.iload_n 2, 1) := by decide +kernel
theorem dX5_cups_44 : decode cX5_cups 44 = .ok (.invokevirtual 143, 3) := by decide +kernel
theorem dX5_cups_47 : decode cX5_cups 47 = .ok (.ireturn, 1) := by decide +kernel
theorem dX5_lectures_0 : decode cX5_lectures 0 = .ok (.aload_n 0, 1) := by decide +kernel
theorem dX5_lectures_1 : decode cX5_lectures 1 = .ok (.getfield 19, 3) := by decide +kernel
theorem dX5_lectures_4 : decode cX5_lectures 4 = .ok (.iload_n 1, 1) := by decide +kernel
theorem dX5_lectures_5 : decode cX5_lectures 5 = .ok (.invokevirtual 94, 3) := by decide +kernel
theorem dX5_lectures_8 : decode cX5_lectures 8 = .ok (.ifCond .ne 6, 3) := by decide +kernel
theorem dX5_lectures_11 : decode cX5_lectures 11 = .ok (.bipush (-101), 2) := by decide +kernel
theorem dX5_lectures_13 : decode cX5_lectures 13 = .ok (.ireturn, 1) := by decide +kernel
theorem dX5_lectures_14 : decode cX5_lectures 14 = .ok (.iload_n 2, 1) := by decide +kernel
theorem dX5_lectures_15 : decode cX5_lectures 15 = .ok (.iconst 1, 1) := by decide +kernel
theorem dX5_lectures_16 : decode cX5_lectures 16 = .ok (.iconst 3, 1) := by decide +kernel
theorem dX5_lectures_17 : decode cX5_lectures 17 = .ok (.invokestatic 64, 3) := by decide +kernel
theorem dX5_lectures_20 : decode cX5_lectures 20 = .ok (.ifCond .eq 12, 3) := by decide +kernel
theorem dX5_lectures_23 : decode cX5_lectures 23 = .ok (.iload_n 3, 1) := by decide +kernel
theorem dX5_lectures_24 : decode cX5_lectures 24 = .ok (.iconst 0, 1) := by decide +kernel
theorem dX5_lectures_25 : decode cX5_lectures 25 = .ok (.iconst 1, 1) := by decide +kernel
theorem dX5_lectures_26 : decode cX5_lectures 26 = .ok (.invokestatic 64, 3) := by decide +kernel
theorem dX5_lectures_29 : decode cX5_lectures 29 = .ok (.ifCond .ne 6, 3) := by decide +kernel
theorem dX5_lectures_32 : decode cX5_lectures 32 = .ok (.bipush (-102), 2) := by decide +kernel
theorem dX5_lectures_34 : decode cX5_lectures 34 = .ok (.ireturn, 1) := by decide +kernel
theorem dX5_lectures_35 : decode cX5_lectures 35 = .ok (.aload_n 0, 1) := by decide +kernel
theorem dX5_lectures_36 : decode cX5_lectures 36 = .ok (.getfield 61, 3) := by decide +kernel
theorem dX5_lectures_39 : decode cX5_lectures 39 = .ok (.bipush 40, 2) := by decide +kernel
theorem dX5_lectures_41 : decode cX5_lectures 41 = .ok (.if_icmp .lt 6, 3) := by decide +kernel
theorem dX5_lectures_44 : decode cX5_lectures 44 = .ok (.bipush (-103), 2) := by decide +kernel
theorem dX5_lectures_46 : decode cX5_lectures 46 = .ok (.ireturn, 1) := by decide +kernel
theorem dX5_lectures_47 : decode cX5_lectures 47 = .ok (.aload_n 0, 1) := by decide +kernel
theorem dX5_lectures_48 : decode cX5_lectures 48 = .ok (.dup, 1) := by decide +kernel
theorem dX5_lectures_49 : decode cX5_lectures 49 = .ok (.getfield 61, 3) := by decide +kernel
theorem dX5_lectures_52 : decode cX5_lectures 52 = .ok (.iconst 1, 1) := by decide +kernel
theorem dX5_lectures_53 : decode cX5_lectures 53 = .ok (.iadd, 1) := by decide +kernel
theorem dX5_lectures_54 : decode cX5_lectures 54 = .ok (.putfield 61, 3) := by decide +kernel
theorem dX5_lectures_57 : decode cX5_lectures 57 = .ok (.aload_n 0, 1) := by decide +kernel
theorem dX5_lectures_58 : decode cX5_lectures 58 = .ok (.getfield 46, 3) := by decide +kernel
theorem dX5_lectures_61 : decode cX5_lectures 61 = .ok (.aload_n 0, 1) := by decide +kernel
theorem dX5_lectures_62 : decode cX5_lectures 62 = .ok (.getfield 19, 3) := by decide +kernel
theorem dX5_lectures_65 : decode cX5_lectures 65 = .ok (.iload_n 1, 1) := by decide +kernel
theorem dX5_lectures_66 : decode cX5_lectures 66 = .ok (.iload_n 2, 1) := by decide +kernel
theorem dX5_lectures_67 : decode cX5_lectures 67 = .ok (.invokevirtual 147, 3) := by decide +kernel
theorem dX5_lectures_70 : decode cX5_lectures 70 = .ok (.iload_n 3, 1) := by decide +kernel
theorem dX5_lectures_71 : decode cX5_lectures 71 = .ok (.ifCond .ne 13, 3) := by decide +kernel
theorem dX5_lectures_74 : decode cX5_lectures 74 = .ok (.aload_n 0, 1) := by decide +kernel
theorem dX5_lectures_75 : decode cX5_lectures 75 = .ok (.getfield 46, 3) := by decide +kernel
theorem dX5_lectures_78 : decode cX5_lectures 78 = .ok (.invokevirtual 150, 3) := by decide +kernel
theorem dX5_lectures_81 : decode cX5_lectures 81 = .ok (.goto 10, 3) := by decide +kernel
theorem dX5_lectures_84 : decode cX5_lectures 84 = .ok (.aload_n 0, 1) := by decide +kernel
theorem dX5_lectures_85 : decode cX5_lectures 85 = .ok (.getfield 46, 3) := by decide +kernel
theorem dX5_lectures_88 : decode cX5_lectures 88 = .ok (.invokevirtual 153, 3) := by decide +kernel
theorem dX5_lectures_91 : decode cX5_lectures 91 = .ok (.ireturn, 1) := by decide +kernel
theorem dX5_sunday_0 : decode cX5_sunday 0 = .ok (.iload_n 1, 1) := by decide +kernel
theorem dX5_sunday_1 : decode cX5_sunday 1 = .ok (.iconst 0, 1) := by decide +kernel
theorem dX5_sunday_2 : decode cX5_sunday 2 = .ok (.iconst 1, 1) := by decide +kernel
theorem dX5_sunday_3 : decode cX5_sunday 3 = .ok (.invokestatic 64, 3) := by decide +kernel
theorem dX5_sunday_6 : decode cX5_sunday 6 = .ok (.ifCond .ne 6, 3) := by decide +kernel
theorem dX5_sunday_9 : decode cX5_sunday 9 = .ok (.bipush (-102), 2) := by decide +kernel
theorem dX5_sunday_11 : decode cX5_sunday 11 = .ok (.ireturn, 1) := by decide +kernel
theorem dX5_sunday_12 : decode cX5_sunday 12 = .ok (.aload_n 0, 1) := by decide +kernel
theorem dX5_sunday_13 : decode cX5_sunday 13 = .ok (.invokevirtual 127, 3) := by decide +kernel
theorem dX5_sunday_16 : decode cX5_sunday 16 = .ok (.ifCond .ne 6, 3) := by decide +kernel
theorem dX5_sunday_19 : decode cX5_sunday 19 = .ok (.bipush (-103), 2) := by decide +kernel
theorem dX5_sunday_21 : decode cX5_sunday 21 = .ok (.ireturn, 1) := by decide +kernel
theorem dX5_sunday_22 : decode cX5_sunday 22 = .ok (.aload_n 0, 1) := by decide +kernel
theorem dX5_sunday_23 : decode cX5_sunday 23 = .ok (.getfield 19, 3) := by decide +kernel
theorem dX5_sunday_26 : decode cX5_sunday 26 = .ok (.invokevirtual 156, 3) := by decide +kernel
theorem dX5_sunday_29 : decode cX5_sunday 29 = .ok (.istore_n 2, 1) := by decide +kernel
theorem dX5_sunday_30 : decode cX5_sunday 30 = .ok (.iload_n 2, 1) := by decide +kernel
theorem dX5_sunday_31 : decode cX5_sunday 31 = .ok (.iconst (-1), 1) := by decide +kernel
theorem dX5_sunday_32 : decode cX5_sunday 32 = .ok (.if_icmp .eq 7, 3) := by decide +kernel
theorem dX5_sunday_35 : decode cX5_sunday 35 = .ok (.iload_n 1, 1) := by decide +kernel
theorem dX5_sunday_36 : decode cX5_sunday 36 = .ok (.ifCond .ne 5, 3) := by decide +kernel
theorem dX5_sunday_39 : decode cX5_sunday 39 = .ok (.iload_n 2, 1) := by decide +kernel
theorem dX5_sunday_40 : decode cX5_sunday 40 = .ok (.ireturn, 1) := by decide +kernel
theorem dX5_sunday_41 : decode cX5_sunday 41 = .ok (.aload_n 0, 1) := by decide +kernel
theorem dX5_sunday_42 : decode cX5_sunday 42 = .ok (.getfield 19, 3) := by decide +kernel
theorem dX5_sunday_45 : decode cX5_sunday 45 = .ok (.iload_n 2, 1) := by decide +kernel
theorem dX5_sunday_46 : decode cX5_sunday 46 = .ok (.bipush 10, 2) := by decide +kernel
theorem dX5_sunday_48 : decode cX5_sunday 48 = .ok (.idiv, 1) := by decide +kernel
theorem dX5_sunday_49 : decode cX5_sunday 49 = .ok (.iload_n 2, 1) := by decide +kernel
theorem dX5_sunday_50 : decode cX5_sunday 50 = .ok (.bipush 10, 2) := by decide +kernel
theorem dX5_sunday_52 : decode cX5_sunday 52 = .ok (.irem, 1) := by decide +kernel
theorem dX5_sunday_53 : decode cX5_sunday 53 = .ok (.invokevirtual 159, 3) := by decide +kernel
theorem dX5_sunday_56 : decode cX5_sunday 56 = .ok (.ireturn, 1) := by decide +kernel
theorem dX5_see_0 : decode cX5_see 0 = .ok (.iload_n 1, 1) := by decide +kernel
theorem dX5_see_1 : decode cX5_see 1 = .ok (.iconst 0, 1) := by decide +kernel
theorem dX5_see_2 : decode cX5_see 2 = .ok (.bipush 12, 2) := by decide +kernel
theorem dX5_see_4 : decode cX5_see 4 = .ok (.invokestatic 64, 3) := by decide +kernel
theorem dX5_see_7 : decode cX5_see 7 = .ok (.ifCond .ne 6, 3) := by decide +kernel
theorem dX5_see_10 : decode cX5_see 10 = .ok (.bipush (-102), 2) := by decide +kernel
theorem dX5_see_12 : decode cX5_see 12 = .ok (.ireturn, 1) := by decide +kernel
theorem dX5_see_13 : decode cX5_see 13 = .ok (.iload_n 2, 1) := by decide +kernel
theorem dX5_see_14 : decode cX5_see 14 = .ok (.iconst (-1), 1) := by decide +kernel
theorem dX5_see_15 : decode cX5_see 15 = .ok (.if_icmp .eq 17, 3) := by decide +kernel
theorem dX5_see_18 : decode cX5_see 18 = .ok (.aload_n 0, 1) := by decide +kernel
theorem dX5_see_19 : decode cX5_see 19 = .ok (.getfield 19, 3) := by decide +kernel
theorem dX5_see_22 : decode cX5_see 22 = .ok (.iload_n 2, 1) := by decide +kernel
theorem dX5_see_23 : decode cX5_see 23 = .ok (.invokevirtual 94, 3) := by decide +kernel
theorem dX5_see_26 : decode cX5_see 26 = .ok (.ifCond .ne 6, 3) := by decide +kernel
theorem dX5_see_29 : decode cX5_see 29 = .ok (.bipush (-101), 2) := by decide +kernel
theorem dX5_see_31 : decode cX5_see 31 = .ok (.ireturn, 1) := by decide +kernel
theorem dX5_see_32 : decode cX5_see 32 = .ok (.aload_n 0, 1) := by decide +kernel
theorem dX5_see_33 : decode cX5_see 33 = .ok (.getfield 26, 3) := by decide +kernel
theorem dX5_see_36 : decode cX5_see 36 = .ok (.invokevirtual 162, 3) := by decide +kernel
theorem dX5_see_39 : decode cX5_see 39 = .ok (.bipush 6, 2) := by decide +kernel
theorem dX5_see_41 : decode cX5_see 41 = .ok (.if_icmp .lt 6, 3) := by decide +kernel
theorem dX5_see_44 : decode cX5_see 44 = .ok (.bipush (-104), 2) := by decide +kernel
theorem dX5_see_46 : decode cX5_see 46 = .ok (.ireturn, 1) := by decide +kernel
theorem dX5_see_47 : decode cX5_see 47 = .ok (.aload_n 0, 1) := by decide +kernel
theorem dX5_see_48 : decode cX5_see 48 = .ok (.getfield 26, 3) := by decide +kernel
theorem dX5_see_51 : decode cX5_see 51 = .ok (.iload_n 1, 1) := by decide +kernel
theorem dX5_see_52 : decode cX5_see 52 = .ok (.iload_n 2, 1) := by decide +kernel
theorem dX5_see_53 : decode cX5_see 53 = .ok (.invokevirtual 165, 3) := by decide +kernel
theorem dX5_see_56 : decode cX5_see 56 = .ok (.ireturn, 1) := by decide +kernel
theorem dX5_forget_0 : decode cX5_forget 0 = .ok (.aload_n 0, 1) := by decide +kernel
theorem dX5_forget_1 : decode cX5_forget 1 = .ok (.getfield 26, 3) := by decide +kernel
theorem dX5_forget_4 : decode cX5_forget 4 = .ok (.invokevirtual 90, 3) := by decide +kernel
theorem dX5_forget_7 : decode cX5_forget 7 = .ok (.ireturn, 1) := by decide +kernel
theorem dX5_nights_0 : decode cX5_nights 0 = .ok (.iload_n 1, 1) := by decide +kernel
theorem dX5_nights_1 : decode cX5_nights 1 = .ok (.iconst 1, 1) := by decide +kernel
theorem dX5_nights_2 : decode cX5_nights 2 = .ok (.bipush 60, 2) := by decide +kernel
theorem dX5_nights_4 : decode cX5_nights 4 = .ok (.invokestatic 64, 3) := by decide +kernel
theorem dX5_nights_7 : decode cX5_nights 7 = .ok (.ifCond .eq 16, 3) := by decide +kernel
theorem dX5_nights_10 : decode cX5_nights 10 = .ok (.iload_n 2, 1) := by decide +kernel
theorem dX5_nights_11 : decode cX5_nights 11 = .ok (.ifCond .lt 12, 3) := by decide +kernel
theorem dX5_nights_14 : decode cX5_nights 14 = .ok (.iload_n 3, 1) := by decide +kernel
theorem dX5_nights_15 : decode cX5_nights 15 = .ok (.iconst 0, 1) := by decide +kernel
theorem dX5_nights_16 : decode cX5_nights 16 = .ok (.iconst 2, 1) := by decide +kernel
theorem dX5_nights_17 : decode cX5_nights 17 = .ok (.invokestatic 64, 3) := by decide +kernel
theorem dX5_nights_20 : decode cX5_nights 20 = .ok (.ifCond .ne 6, 3) := by decide +kernel
theorem dX5_nights_23 : decode cX5_nights 23 = .ok (.bipush (-102), 2) := by decide +kernel
theorem dX5_nights_25 : decode cX5_nights 25 = .ok (.ireturn, 1) := by decide +kernel
theorem dX5_nights_26 : decode cX5_nights 26 = .ok (.aload_n 0, 1) := by decide +kernel
theorem dX5_nights_27 : decode cX5_nights 27 = .ok (.invokevirtual 127, 3) := by decide +kernel
theorem dX5_nights_30 : decode cX5_nights 30 = .ok (.ifCond .ne 6, 3) := by decide +kernel
theorem dX5_nights_33 : decode cX5_nights 33 = .ok (.bipush (-103), 2) := by decide +kernel
theorem dX5_nights_35 : decode cX5_nights 35 = .ok (.ireturn, 1) := by decide +kernel
theorem dX5_nights_36 : decode cX5_nights 36 = .ok (.aload_n 0, 1) := by decide +kernel
theorem dX5_nights_37 : decode cX5_nights 37 = .ok (.getfield 40, 3) := by decide +kernel
theorem dX5_nights_40 : decode cX5_nights 40 = .ok (.aload_n 0, 1) := by decide +kernel
theorem dX5_nights_41 : decode cX5_nights 41 = .ok (.getfield 19, 3) := by decide +kernel
theorem dX5_nights_44 : decode cX5_nights 44 = .ok (.invokevirtual 167, 3) := by decide +kernel
theorem dX5_nights_47 : decode cX5_nights 47 = .ok (.iload_n 2, 1) := by decide +kernel
theorem dX5_nights_48 : decode cX5_nights 48 = .ok (.istore 4, 2) := by decide +kernel
theorem dX5_nights_50 : decode cX5_nights 50 = .ok (.iconst 0, 1) := by decide +kernel
theorem dX5_nights_51 : decode cX5_nights 51 = .ok (.istore 5, 2) := by decide +kernel
theorem dX5_nights_53 : decode cX5_nights 53 = .ok (.iconst 0, 1) := by decide +kernel
theorem dX5_nights_54 : decode cX5_nights 54 = .ok (.istore 6, 2) := by decide +kernel
theorem dX5_nights_56 : decode cX5_nights 56 = .ok (.iload 6, 2) := by decide +kernel
theorem dX5_nights_58 : decode cX5_nights 58 = .ok (.iload_n 1, 1) := by decide +kernel
theorem dX5_nights_59 : decode cX5_nights 59 = .ok (.if_icmp .ge 88, 3) := by decide +kernel
theorem dX5_nights_62 : decode cX5_nights 62 = .ok (.iload 4, 2) := by decide +kernel
theorem dX5_nights_64 : decode cX5_nights 64 = .ok (.invokestatic 171, 3) := by decide +kernel
theorem dX5_nights_67 : decode cX5_nights 67 = .ok (.istore 4, 2) := by decide +kernel
theorem dX5_nights_69 : decode cX5_nights 69 = .ok (.aload_n 0, 1) := by decide +kernel
theorem dX5_nights_70 : decode cX5_nights 70 = .ok (.getfield 40, 3) := by decide +kernel
theorem dX5_nights_73 : decode cX5_nights 73 = .ok (.iload 4, 2) := by decide +kernel
theorem dX5_nights_75 : decode cX5_nights 75 = .ok (.aload_n 0, 1) := by decide +kernel
theorem dX5_nights_76 : decode cX5_nights 76 = .ok (.getfield 40, 3) := by decide +kernel
theorem dX5_nights_79 : decode cX5_nights 79 = .ok (.invokevirtual 91, 3) := by decide +kernel
theorem dX5_nights_82 : decode cX5_nights 82 = .ok (.invokestatic 174, 3) := by decide +kernel
theorem dX5_nights_85 : decode cX5_nights 85 = .ok (.invokevirtual 130, 3) := by decide +kernel
theorem dX5_nights_88 : decode cX5_nights 88 = .ok (.iload 4, 2) := by decide +kernel
theorem dX5_nights_90 : decode cX5_nights 90 = .ok (.invokestatic 171, 3) := by decide +kernel
theorem dX5_nights_93 : decode cX5_nights 93 = .ok (.istore 4, 2) := by decide +kernel
theorem dX5_nights_95 : decode cX5_nights 95 = .ok (.aload_n 0, 1) := by decide +kernel
theorem dX5_nights_96 : decode cX5_nights 96 = .ok (.getfield 40, 3) := by decide +kernel
theorem dX5_nights_99 : decode cX5_nights 99 = .ok (.iload 4, 2) := by decide +kernel
theorem dX5_nights_101 : decode cX5_nights 101 = .ok (.aload_n 0, 1) := by decide +kernel
theorem dX5_nights_102 : decode cX5_nights 102 = .ok (.getfield 40, 3) := by decide +kernel
theorem dX5_nights_105 : decode cX5_nights 105 = .ok (.invokevirtual 91, 3) := by decide +kernel
theorem dX5_nights_108 : decode cX5_nights 108 = .ok (.invokestatic 174, 3) := by decide +kernel
theorem dX5_nights_111 : decode cX5_nights 111 = .ok (.invokevirtual 134, 3) := by decide +kernel
theorem dX5_nights_114 : decode cX5_nights 114 = .ok (.iload 5, 2) := by decide +kernel
theorem dX5_nights_116 : decode cX5_nights 116 = .ok (.aload_n 0, 1) := by decide +kernel
theorem dX5_nights_117 : decode cX5_nights 117 = .ok (.getfield 40, 3) := by decide +kernel
theorem dX5_nights_120 : decode cX5_nights 120 = .ok (.invokevirtual 107, 3) := by decide +kernel
theorem dX5_nights_123 : decode cX5_nights 123 = .ok (.ifCond .ne 7, 3) := by decide +kernel
theorem dX5_nights_126 : decode cX5_nights 126 = .ok (.iconst 1, 1) := by decide +kernel
theorem dX5_nights_127 : decode cX5_nights 127 = .ok (.goto 4, 3) := by decide +kernel
theorem dX5_nights_130 : decode cX5_nights 130 = .ok (.iconst 0, 1) := by decide +kernel
theorem dX5_nights_131 : decode cX5_nights 131 = .ok (.iadd, 1) := by decide +kernel
theorem dX5_nights_132 : decode cX5_nights 132 = .ok (.istore 5, 2) := by decide +kernel
theorem dX5_nights_134 : decode cX5_nights 134 = .ok (.aload_n 0, 1) := by decide +kernel
theorem dX5_nights_135 : decode cX5_nights 135 = .ok (.getfield 40, 3) := by decide +kernel
theorem dX5_nights_138 : decode cX5_nights 138 = .ok (.invokevirtual 137, 3) := by decide +kernel
theorem dX5_nights_141 : decode cX5_nights 141 = .ok (.iinc 6 1, 3) := by decide +kernel
theorem dX5_nights_144 : decode cX5_nights 144 = .ok (.goto (-88), 3) := by decide +kernel
theorem dX5_nights_147 : decode cX5_nights 147 = .ok (.iload_n 3, 1) := by decide +kernel
theorem dX5_nights_148 : decode cX5_nights 148 = .ok (.iconst 2, 1) := by decide +kernel
theorem dX5_nights_149 : decode cX5_nights 149 = .ok (.if_icmp .ne 6, 3) := by decide +kernel
theorem dX5_nights_152 : decode cX5_nights 152 = .ok (.iload 4, 2) := by decide +kernel
theorem dX5_nights_154 : decode cX5_nights 154 = .ok (.ireturn, 1) := by decide +kernel
theorem dX5_nights_155 : decode cX5_nights 155 = .ok (.iload_n 3, 1) := by decide +kernel
theorem dX5_nights_156 : decode cX5_nights 156 = .ok (.ifCond .ne 8, 3) := by decide +kernel
theorem dX5_nights_159 : decode cX5_nights 159 = .ok (.iload 5, 2) := by decide +kernel
theorem dX5_nights_161 : decode cX5_nights 161 = .ok (.goto 10, 3) := by decide +kernel
theorem dX5_nights_164 : decode cX5_nights 164 = .ok (.aload_n 0, 1) := by decide +kernel
theorem dX5_nights_165 : decode cX5_nights 165 = .ok (.getfield 40, 3) := by decide +kernel
theorem dX5_nights_168 : decode cX5_nights 168 = .ok (.invokevirtual 140, 3) := by decide +kernel
theorem dX5_nights_171 : decode cX5_nights 171 = .ok (.ireturn, 1) := by decide +kernel
theorem dX5_image_0 : decode cX5_image 0 = .ok (.aload_n 0, 1) := by decide +kernel
theorem dX5_image_1 : decode cX5_image 1 = .ok (.invokevirtual 127, 3) := by decide +kernel
theorem dX5_image_4 : decode cX5_image 4 = .ok (.ifCond .ne 6, 3) := by decide +kernel
theorem dX5_image_7 : decode cX5_image 7 = .ok (.bipush (-103), 2) := by decide +kernel
theorem dX5_image_9 : decode cX5_image 9 = .ok (.ireturn, 1) := by decide +kernel
theorem dX5_image_10 : decode cX5_image 10 = .ok (.aload_n 0, 1) := by decide +kernel
theorem dX5_image_11 : decode cX5_image 11 = .ok (.getfield 30, 3) := by decide +kernel
theorem dX5_image_14 : decode cX5_image 14 = .ok (.aload_n 0, 1) := by decide +kernel
theorem dX5_image_15 : decode cX5_image 15 = .ok (.getfield 19, 3) := by decide +kernel
theorem dX5_image_18 : decode cX5_image 18 = .ok (.invokevirtual 167, 3) := by decide +kernel
theorem dX5_image_21 : decode cX5_image 21 = .ok (.aload_n 0, 1) := by decide +kernel
theorem dX5_image_22 : decode cX5_image 22 = .ok (.getfield 33, 3) := by decide +kernel
theorem dX5_image_25 : decode cX5_image 25 = .ok (.aload_n 0, 1) := by decide +kernel
theorem dX5_image_26 : decode cX5_image 26 = .ok (.getfield 26, 3) := by decide +kernel
theorem dX5_image_29 : decode cX5_image 29 = .ok (.invokevirtual 177, 3) := by decide +kernel
theorem dX5_image_32 : decode cX5_image 32 = .ok (.aload_n 0, 1) := by decide +kernel
theorem dX5_image_33 : decode cX5_image 33 = .ok (.iconst 1, 1) := by decide +kernel
theorem dX5_image_34 : decode cX5_image 34 = .ok (.putfield 36, 3) := by decide +kernel
theorem dX5_image_37 : decode cX5_image 37 = .ok (.aload_n 0, 1) := by decide +kernel
theorem dX5_image_38 : decode cX5_image 38 = .ok (.getfield 19, 3) := by decide +kernel
theorem dX5_image_41 : decode cX5_image 41 = .ok (.invokevirtual 180, 3) := by decide +kernel
theorem dX5_image_44 : decode cX5_image 44 = .ok (.ireturn, 1) := by decide +kernel
theorem dX5_restore_0 : decode cX5_restore 0 = .ok (.aload_n 0, 1) := by decide +kernel
theorem dX5_restore_1 : decode cX5_restore 1 = .ok (.getfield 36, 3) := by decide +kernel
theorem dX5_restore_4 : decode cX5_restore 4 = .ok (.ifCond .ne 6, 3) := by decide +kernel
theorem dX5_restore_7 : decode cX5_restore 7 = .ok (.bipush (-103), 2) := by decide +kernel
theorem dX5_restore_9 : decode cX5_restore 9 = .ok (.ireturn, 1) := by decide +kernel
theorem dX5_restore_10 : decode cX5_restore 10 = .ok (.aload_n 0, 1) := by decide +kernel
theorem dX5_restore_11 : decode cX5_restore 11 = .ok (.getfield 19, 3) := by decide +kernel
theorem dX5_restore_14 : decode cX5_restore 14 = .ok (.aload_n 0, 1) := by decide +kernel
theorem dX5_restore_15 : decode cX5_restore 15 = .ok (.getfield 30, 3) := by decide +kernel
theorem dX5_restore_18 : decode cX5_restore 18 = .ok (.invokevirtual 167, 3) := by decide +kernel
theorem dX5_restore_21 : decode cX5_restore 21 = .ok (.aload_n 0, 1) := by decide +kernel
theorem dX5_restore_22 : decode cX5_restore 22 = .ok (.getfield 26, 3) := by decide +kernel
theorem dX5_restore_25 : decode cX5_restore 25 = .ok (.aload_n 0, 1) := by decide +kernel
theorem dX5_restore_26 : decode cX5_restore 26 = .ok (.getfield 33, 3) := by decide +kernel
theorem dX5_restore_29 : decode cX5_restore 29 = .ok (.invokevirtual 177, 3) := by decide +kernel
theorem dX5_restore_32 : decode cX5_restore 32 = .ok (.aload_n 0, 1) := by decide +kernel
theorem dX5_restore_33 : decode cX5_restore 33 = .ok (.getfield 19, 3) := by decide +kernel
theorem dX5_restore_36 : decode cX5_restore 36 = .ok (.invokevirtual 180, 3) := by decide +kernel
theorem dX5_restore_39 : decode cX5_restore 39 = .ok (.ireturn, 1) := by decide +kernel
theorem dX5_count_0 : decode cX5_count 0 = .ok (.iload_n 1, 1) := by decide +kernel
theorem dX5_count_1 : decode cX5_count 1 = .ok (.tableswitch 117 0 8 #[51, 59, 67, 75, 83, 91, 99, 107, 112], 51) := by decide +kernel
theorem dX5_count_52 : decode cX5_count 52 = .ok (.aload_n 0, 1) := by decide +kernel
theorem dX5_count_53 : decode cX5_count 53 = .ok (.getfield 19, 3) := by decide +kernel
theorem dX5_count_56 : decode cX5_count 56 = .ok (.invokevirtual 91, 3) := by decide +kernel
theorem dX5_count_59 : decode cX5_count 59 = .ok (.ireturn, 1) := by decide +kernel
theorem dX5_count_60 : decode cX5_count 60 = .ok (.aload_n 0, 1) := by decide +kernel
theorem dX5_count_61 : decode cX5_count 61 = .ok (.getfield 19, 3) := by decide +kernel
theorem dX5_count_64 : decode cX5_count 64 = .ok (.invokevirtual 183, 3) := by decide +kernel
theorem dX5_count_67 : decode cX5_count 67 = .ok (.ireturn, 1) := by decide +kernel
theorem dX5_count_68 : decode cX5_count 68 = .ok (.aload_n 0, 1) := by decide +kernel
theorem dX5_count_69 : decode cX5_count 69 = .ok (.getfield 19, 3) := by decide +kernel
theorem dX5_count_72 : decode cX5_count 72 = .ok (.invokevirtual 140, 3) := by decide +kernel
theorem dX5_count_75 : decode cX5_count 75 = .ok (.ireturn, 1) := by decide +kernel
theorem dX5_count_76 : decode cX5_count 76 = .ok (.aload_n 0, 1) := by decide +kernel
theorem dX5_count_77 : decode cX5_count 77 = .ok (.getfield 19, 3) := by decide +kernel
theorem dX5_count_80 : decode cX5_count 80 = .ok (.invokevirtual 180, 3) := by decide +kernel
theorem dX5_count_83 : decode cX5_count 83 = .ok (.ireturn, 1) := by decide +kernel
theorem dX5_count_84 : decode cX5_count 84 = .ok (.aload_n 0, 1) := by decide +kernel
theorem dX5_count_85 : decode cX5_count 85 = .ok (.getfield 19, 3) := by decide +kernel
theorem dX5_count_88 : decode cX5_count 88 = .ok (.invokevirtual 186, 3) := by decide +kernel
theorem dX5_count_91 : decode cX5_count 91 = .ok (.ireturn, 1) := by decide +kernel
theorem dX5_count_92 : decode cX5_count 92 = .ok (.aload_n 0, 1) := by decide +kernel
theorem dX5_count_93 : decode cX5_count 93 = .ok (.getfield 26, 3) := by decide +kernel
theorem dX5_count_96 : decode cX5_count 96 = .ok (.invokevirtual 162, 3) := by decide +kernel
theorem dX5_count_99 : decode cX5_count 99 = .ok (.ireturn, 1) := by decide +kernel
theorem dX5_count_100 : decode cX5_count 100 = .ok (.aload_n 0, 1) := by decide +kernel
theorem dX5_count_101 : decode cX5_count 101 = .ok (.getfield 10, 3) := by decide +kernel
theorem dX5_count_104 : decode cX5_count 104 = .ok (.invokevirtual 68, 3) := by decide +kernel
theorem dX5_count_107 : decode cX5_count 107 = .ok (.ireturn, 1) := by decide +kernel
theorem dX5_count_108 : decode cX5_count 108 = .ok (.aload_n 0, 1) := by decide +kernel
theorem dX5_count_109 : decode cX5_count 109 = .ok (.getfield 57, 3) := by decide +kernel
theorem dX5_count_112 : decode cX5_count 112 = .ok (.ireturn, 1) := by decide +kernel
theorem dX5_count_113 : decode cX5_count 113 = .ok (.aload_n 0, 1) := by decide +kernel
theorem dX5_count_114 : decode cX5_count 114 = .ok (.getfield 61, 3) := by decide +kernel
theorem dX5_count_117 : decode cX5_count 117 = .ok (.ireturn, 1) := by decide +kernel
theorem dX5_count_118 : decode cX5_count 118 = .ok (.bipush (-102), 2) := by decide +kernel
theorem dX5_count_120 : decode cX5_count 120 = .ok (.ireturn, 1) := by decide +kernel
theorem dX5_digest_0 : decode cX5_digest 0 = .ok (.ldc2_w 189, 3) := by decide +kernel
theorem dX5_digest_3 : decode cX5_digest 3 = .ok (.lstore_n 1, 1) := by decide +kernel
theorem dX5_digest_4 : decode cX5_digest 4 = .ok (.iconst 0, 1) := by decide +kernel
theorem dX5_digest_5 : decode cX5_digest 5 = .ok (.istore_n 3, 1) := by decide +kernel
theorem dX5_digest_6 : decode cX5_digest 6 = .ok (.iload_n 3, 1) := by decide +kernel
theorem dX5_digest_7 : decode cX5_digest 7 = .ok (.aload_n 0, 1) := by decide +kernel
theorem dX5_digest_8 : decode cX5_digest 8 = .ok (.getfield 19, 3) := by decide +kernel
theorem dX5_digest_11 : decode cX5_digest 11 = .ok (.invokevirtual 91, 3) := by decide +kernel
theorem dX5_digest_14 : decode cX5_digest 14 = .ok (.if_icmp .ge 65, 3) := by decide +kernel
theorem dX5_digest_17 : decode cX5_digest 17 = .ok (.iconst 0, 1) := by decide +kernel
theorem dX5_digest_18 : decode cX5_digest 18 = .ok (.istore 4, 2) := by decide +kernel
theorem dX5_digest_20 : decode cX5_digest 20 = .ok (.iload 4, 2) := by decide +kernel
theorem dX5_digest_22 : decode cX5_digest 22 = .ok (.bipush 6, 2) := by decide +kernel
theorem dX5_digest_24 : decode cX5_digest 24 = .ok (.if_icmp .gt 22, 3) := by decide +kernel
theorem dX5_digest_27 : decode cX5_digest 27 = .ok (.lload_n 1, 1) := by decide +kernel
theorem dX5_digest_28 : decode cX5_digest 28 = .ok (.aload_n 0, 1) := by decide +kernel
theorem dX5_digest_29 : decode cX5_digest 29 = .ok (.iload_n 3, 1) := by decide +kernel
theorem dX5_digest_30 : decode cX5_digest 30 = .ok (.iload 4, 2) := by decide +kernel
theorem dX5_digest_32 : decode cX5_digest 32 = .ok (.invokevirtual 191, 3) := by decide +kernel
theorem dX5_digest_35 : decode cX5_digest 35 = .ok (.i2l, 1) := by decide +kernel
theorem dX5_digest_36 : decode cX5_digest 36 = .ok (.invokestatic 194, 3) := by decide +kernel
theorem dX5_digest_39 : decode cX5_digest 39 = .ok (.lstore_n 1, 1) := by decide +kernel
theorem dX5_digest_40 : decode cX5_digest 40 = .ok (.iinc 4 1, 3) := by decide +kernel
theorem dX5_digest_43 : decode cX5_digest 43 = .ok (.goto (-23), 3) := by decide +kernel
theorem dX5_digest_46 : decode cX5_digest 46 = .ok (.lload_n 1, 1) := by decide +kernel
theorem dX5_digest_47 : decode cX5_digest 47 = .ok (.aload_n 0, 1) := by decide +kernel
theorem dX5_digest_48 : decode cX5_digest 48 = .ok (.getfield 19, 3) := by decide +kernel
theorem dX5_digest_51 : decode cX5_digest 51 = .ok (.iload_n 3, 1) := by decide +kernel
theorem dX5_digest_52 : decode cX5_digest 52 = .ok (.invokevirtual 104, 3) := by decide +kernel
theorem dX5_digest_55 : decode cX5_digest 55 = .ok (.ifCond .eq 7, 3) := by decide +kernel
theorem dX5_digest_58 : decode cX5_digest 58 = .ok (.lconst 0, 1) := by decide +kernel
theorem dX5_digest_59 : decode cX5_digest 59 = .ok (.goto 10, 3) := by decide +kernel
theorem dX5_digest_62 : decode cX5_digest 62 = .ok (.aload_n 0, 1) := by decide +kernel
theorem dX5_digest_63 : decode cX5_digest 63 = .ok (.iload_n 3, 1) := by decide +kernel
theorem dX5_digest_64 : decode cX5_digest 64 = .ok (.iconst 3, 1) := by decide +kernel
theorem dX5_digest_65 : decode cX5_digest 65 = .ok (.invokevirtual 143, 3) := by decide +kernel
theorem dX5_digest_68 : decode cX5_digest 68 = .ok (.i2l, 1) := by decide +kernel
theorem dX5_digest_69 : decode cX5_digest 69 = .ok (.invokestatic 194, 3) := by decide +kernel
theorem dX5_digest_72 : decode cX5_digest 72 = .ok (.lstore_n 1, 1) := by decide +kernel
theorem dX5_digest_73 : decode cX5_digest 73 = .ok (.iinc 3 1, 3) := by decide +kernel
theorem dX5_digest_76 : decode cX5_digest 76 = .ok (.goto (-70), 3) := by decide +kernel
theorem dX5_digest_79 : decode cX5_digest 79 = .ok (.aload_n 0, 1) := by decide +kernel
theorem dX5_digest_80 : decode cX5_digest 80 = .ok (.invokevirtual 127, 3) := by decide +kernel
theorem dX5_digest_83 : decode cX5_digest 83 = .ok (.ifCond .eq 35, 3) := by decide +kernel
theorem dX5_digest_86 : decode cX5_digest 86 = .ok (.lload_n 1, 1) := by decide +kernel
theorem dX5_digest_87 : decode cX5_digest 87 = .ok (.aload_n 0, 1) := by decide +kernel
theorem dX5_digest_88 : decode cX5_digest 88 = .ok (.invokevirtual 198, 3) := by decide +kernel
theorem dX5_digest_91 : decode cX5_digest 91 = .ok (.i2l, 1) := by decide +kernel
theorem dX5_digest_92 : decode cX5_digest 92 = .ok (.invokestatic 194, 3) := by decide +kernel
theorem dX5_digest_95 : decode cX5_digest 95 = .ok (.lstore_n 1, 1) := by decide +kernel
theorem dX5_digest_96 : decode cX5_digest 96 = .ok (.lload_n 1, 1) := by decide +kernel
theorem dX5_digest_97 : decode cX5_digest 97 = .ok (.aload_n 0, 1) := by decide +kernel
theorem dX5_digest_98 : decode cX5_digest 98 = .ok (.iconst 0, 1) := by decide +kernel
theorem dX5_digest_99 : decode cX5_digest 99 = .ok (.invokevirtual 201, 3) := by decide +kernel
theorem dX5_digest_102 : decode cX5_digest 102 = .ok (.i2l, 1) := by decide +kernel
theorem dX5_digest_103 : decode cX5_digest 103 = .ok (.invokestatic 194, 3) := by decide +kernel
theorem dX5_digest_106 : decode cX5_digest 106 = .ok (.lstore_n 1, 1) := by decide +kernel
theorem dX5_digest_107 : decode cX5_digest 107 = .ok (.lload_n 1, 1) := by decide +kernel
theorem dX5_digest_108 : decode cX5_digest 108 = .ok (.aload_n 0, 1) := by decide +kernel
theorem dX5_digest_109 : decode cX5_digest 109 = .ok (.iconst 1, 1) := by decide +kernel
theorem dX5_digest_110 : decode cX5_digest 110 = .ok (.invokevirtual 201, 3) := by decide +kernel
theorem dX5_digest_113 : decode cX5_digest 113 = .ok (.i2l, 1) := by decide +kernel
theorem dX5_digest_114 : decode cX5_digest 114 = .ok (.invokestatic 194, 3) := by decide +kernel
theorem dX5_digest_117 : decode cX5_digest 117 = .ok (.lstore_n 1, 1) := by decide +kernel
theorem dX5_digest_118 : decode cX5_digest 118 = .ok (.iconst 0, 1) := by decide +kernel
theorem dX5_digest_119 : decode cX5_digest 119 = .ok (.istore_n 3, 1) := by decide +kernel
theorem dX5_digest_120 : decode cX5_digest 120 = .ok (.iload_n 3, 1) := by decide +kernel
theorem dX5_digest_121 : decode cX5_digest 121 = .ok (.aload_n 0, 1) := by decide +kernel
theorem dX5_digest_122 : decode cX5_digest 122 = .ok (.getfield 10, 3) := by decide +kernel
theorem dX5_digest_125 : decode cX5_digest 125 = .ok (.invokevirtual 68, 3) := by decide +kernel
theorem dX5_digest_128 : decode cX5_digest 128 = .ok (.if_icmp .ge 23, 3) := by decide +kernel
theorem dX5_digest_131 : decode cX5_digest 131 = .ok (.lload_n 1, 1) := by decide +kernel
theorem dX5_digest_132 : decode cX5_digest 132 = .ok (.aload_n 0, 1) := by decide +kernel
theorem dX5_digest_133 : decode cX5_digest 133 = .ok (.getfield 10, 3) := by decide +kernel
theorem dX5_digest_136 : decode cX5_digest 136 = .ok (.iload_n 3, 1) := by decide +kernel
theorem dX5_digest_137 : decode cX5_digest 137 = .ok (.invokevirtual 204, 3) := by decide +kernel
theorem dX5_digest_140 : decode cX5_digest 140 = .ok (.i2l, 1) := by decide +kernel
end
section
theorem dX5_digest_141 : decode cX5_digest 141 = .ok (.invokestatic 194, 3) := by decide +kernel
theorem dX5_digest_144 : decode cX5_digest 144 = .ok (.lstore_n 1, 1) := by decide +kernel
theorem dX5_digest_145 : decode cX5_digest 145 = .ok (.iinc 3 1, 3) := by decide +kernel
theorem dX5_digest_148 : decode cX5_digest 148 = .ok (.goto (-28), 3) := by decide +kernel
theorem dX5_digest_151 : decode cX5_digest 151 = .ok (.iconst 0, 1) := by decide +kernel
theorem dX5_digest_152 : decode cX5_digest 152 = .ok (.istore_n 3, 1) := by decide +kernel
theorem dX5_digest_153 : decode cX5_digest 153 = .ok (.iload_n 3, 1) := by decide +kernel
theorem dX5_digest_154 : decode cX5_digest 154 = .ok (.bipush 8, 2) := by decide +kernel
theorem dX5_digest_156 : decode cX5_digest 156 = .ok (.if_icmp .gt 20, 3) := by decide +kernel
theorem dX5_digest_159 : decode cX5_digest 159 = .ok (.lload_n 1, 1) := by decide +kernel
theorem dX5_digest_160 : decode cX5_digest 160 = .ok (.aload_n 0, 1) := by decide +kernel
theorem dX5_digest_161 : decode cX5_digest 161 = .ok (.iload_n 3, 1) := by decide +kernel
theorem dX5_digest_162 : decode cX5_digest 162 = .ok (.invokevirtual 207, 3) := by decide +kernel
theorem dX5_digest_165 : decode cX5_digest 165 = .ok (.i2l, 1) := by decide +kernel
theorem dX5_digest_166 : decode cX5_digest 166 = .ok (.invokestatic 194, 3) := by decide +kernel
theorem dX5_digest_169 : decode cX5_digest 169 = .ok (.lstore_n 1, 1) := by decide +kernel
theorem dX5_digest_170 : decode cX5_digest 170 = .ok (.iinc 3 1, 3) := by decide +kernel
theorem dX5_digest_173 : decode cX5_digest 173 = .ok (.goto (-20), 3) := by decide +kernel
theorem dX5_digest_176 : decode cX5_digest 176 = .ok (.lload_n 1, 1) := by decide +kernel
theorem dX5_digest_177 : decode cX5_digest 177 = .ok (.lreturn, 1) := by decide +kernel
theorem dX5_hasHouse_0 : decode cX5_hasHouse 0 = .ok (.aload_n 0, 1) := by decide +kernel
theorem dX5_hasHouse_1 : decode cX5_hasHouse 1 = .ok (.getfield 19, 3) := by decide +kernel
theorem dX5_hasHouse_4 : decode cX5_hasHouse 4 = .ok (.invokevirtual 91, 3) := by decide +kernel
theorem dX5_hasHouse_7 : decode cX5_hasHouse 7 = .ok (.ifCond .le 7, 3) := by decide +kernel
theorem dX5_hasHouse_10 : decode cX5_hasHouse 10 = .ok (.iconst 1, 1) := by decide +kernel
theorem dX5_hasHouse_11 : decode cX5_hasHouse 11 = .ok (.goto 4, 3) := by decide +kernel
theorem dX5_hasHouse_14 : decode cX5_hasHouse 14 = .ok (.iconst 0, 1) := by decide +kernel
theorem dX5_hasHouse_15 : decode cX5_hasHouse 15 = .ok (.ireturn, 1) := by decide +kernel
theorem dX5_fewestCups_0 : decode cX5_fewestCups 0 = .ok (.iconst 0, 1) := by decide +kernel
theorem dX5_fewestCups_1 : decode cX5_fewestCups 1 = .ok (.istore_n 3, 1) := by decide +kernel
theorem dX5_fewestCups_2 : decode cX5_fewestCups 2 = .ok (.iload_n 3, 1) := by decide +kernel
theorem dX5_fewestCups_3 : decode cX5_fewestCups 3 = .ok (.iconst 4, 1) := by decide +kernel
theorem dX5_fewestCups_4 : decode cX5_fewestCups 4 = .ok (.if_icmp .gt 57, 3) := by decide +kernel
theorem dX5_fewestCups_7 : decode cX5_fewestCups 7 = .ok (.aload_n 0, 1) := by decide +kernel
theorem dX5_fewestCups_8 : decode cX5_fewestCups 8 = .ok (.getfield 40, 3) := by decide +kernel
theorem dX5_fewestCups_11 : decode cX5_fewestCups 11 = .ok (.aload_n 0, 1) := by decide +kernel
theorem dX5_fewestCups_12 : decode cX5_fewestCups 12 = .ok (.getfield 19, 3) := by decide +kernel
theorem dX5_fewestCups_15 : decode cX5_fewestCups 15 = .ok (.invokevirtual 167, 3) := by decide +kernel
theorem dX5_fewestCups_18 : decode cX5_fewestCups 18 = .ok (.iconst 0, 1) := by decide +kernel
theorem dX5_fewestCups_19 : decode cX5_fewestCups 19 = .ok (.istore 4, 2) := by decide +kernel
theorem dX5_fewestCups_21 : decode cX5_fewestCups 21 = .ok (.iload 4, 2) := by decide +kernel
theorem dX5_fewestCups_23 : decode cX5_fewestCups 23 = .ok (.iload_n 3, 1) := by decide +kernel
theorem dX5_fewestCups_24 : decode cX5_fewestCups 24 = .ok (.if_icmp .ge 17, 3) := by decide +kernel
theorem dX5_fewestCups_27 : decode cX5_fewestCups 27 = .ok (.aload_n 0, 1) := by decide +kernel
theorem dX5_fewestCups_28 : decode cX5_fewestCups 28 = .ok (.getfield 40, 3) := by decide +kernel
theorem dX5_fewestCups_31 : decode cX5_fewestCups 31 = .ok (.iload_n 1, 1) := by decide +kernel
theorem dX5_fewestCups_32 : decode cX5_fewestCups 32 = .ok (.invokevirtual 130, 3) := by decide +kernel
theorem dX5_fewestCups_35 : decode cX5_fewestCups 35 = .ok (.iinc 4 1, 3) := by decide +kernel
theorem dX5_fewestCups_38 : decode cX5_fewestCups 38 = .ok (.goto (-17), 3) := by decide +kernel
theorem dX5_fewestCups_41 : decode cX5_fewestCups 41 = .ok (.aload_n 0, 1) := by decide +kernel
theorem dX5_fewestCups_42 : decode cX5_fewestCups 42 = .ok (.getfield 40, 3) := by decide +kernel
theorem dX5_fewestCups_45 : decode cX5_fewestCups 45 = .ok (.iload_n 1, 1) := by decide +kernel
theorem dX5_fewestCups_46 : decode cX5_fewestCups 46 = .ok (.iload_n 2, 1) := by decide +kernel
theorem dX5_fewestCups_47 : decode cX5_fewestCups 47 = .ok (.invokevirtual 210, 3) := by decide +kernel
theorem dX5_fewestCups_50 : decode cX5_fewestCups 50 = .ok (.ifCond .eq 5, 3) := by decide +kernel
theorem dX5_fewestCups_53 : decode cX5_fewestCups 53 = .ok (.iload_n 3, 1) := by decide +kernel
theorem dX5_fewestCups_54 : decode cX5_fewestCups 54 = .ok (.ireturn, 1) := by decide +kernel
theorem dX5_fewestCups_55 : decode cX5_fewestCups 55 = .ok (.iinc 3 1, 3) := by decide +kernel
theorem dX5_fewestCups_58 : decode cX5_fewestCups 58 = .ok (.goto (-56), 3) := by decide +kernel
theorem dX5_fewestCups_61 : decode cX5_fewestCups 61 = .ok (.iconst (-1), 1) := by decide +kernel
theorem dX5_fewestCups_62 : decode cX5_fewestCups 62 = .ok (.ireturn, 1) := by decide +kernel
theorem dX5_isWithin_0 : decode cX5_isWithin 0 = .ok (.iload_n 0, 1) := by decide +kernel
theorem dX5_isWithin_1 : decode cX5_isWithin 1 = .ok (.iload_n 1, 1) := by decide +kernel
theorem dX5_isWithin_2 : decode cX5_isWithin 2 = .ok (.if_icmp .lt 12, 3) := by decide +kernel
theorem dX5_isWithin_5 : decode cX5_isWithin 5 = .ok (.iload_n 0, 1) := by decide +kernel
theorem dX5_isWithin_6 : decode cX5_isWithin 6 = .ok (.iload_n 2, 1) := by decide +kernel
theorem dX5_isWithin_7 : decode cX5_isWithin 7 = .ok (.if_icmp .gt 7, 3) := by decide +kernel
theorem dX5_isWithin_10 : decode cX5_isWithin 10 = .ok (.iconst 1, 1) := by decide +kernel
theorem dX5_isWithin_11 : decode cX5_isWithin 11 = .ok (.goto 4, 3) := by decide +kernel
theorem dX5_isWithin_14 : decode cX5_isWithin 14 = .ok (.iconst 0, 1) := by decide +kernel
theorem dX5_isWithin_15 : decode cX5_isWithin 15 = .ok (.ireturn, 1) := by decide +kernel
theorem dX5_mixed_0 : decode cX5_mixed 0 = .ok (.ldc2_w 213, 3) := by decide +kernel
theorem dX5_mixed_3 : decode cX5_mixed 3 = .ok (.lload_n 0, 1) := by decide +kernel
theorem dX5_mixed_4 : decode cX5_mixed 4 = .ok (.lmul, 1) := by decide +kernel
theorem dX5_mixed_5 : decode cX5_mixed 5 = .ok (.lload_n 2, 1) := by decide +kernel
theorem dX5_mixed_6 : decode cX5_mixed 6 = .ok (.ladd, 1) := by decide +kernel
theorem dX5_mixed_7 : decode cX5_mixed 7 = .ok (.lreturn, 1) := by decide +kernel
theorem dX5_nextSeed_0 : decode cX5_nextSeed 0 = .ok (.ldc 215, 2) := by decide +kernel
theorem dX5_nextSeed_2 : decode cX5_nextSeed 2 = .ok (.iload_n 0, 1) := by decide +kernel
theorem dX5_nextSeed_3 : decode cX5_nextSeed 3 = .ok (.imul, 1) := by decide +kernel
theorem dX5_nextSeed_4 : decode cX5_nextSeed 4 = .ok (.sipush 12345, 3) := by decide +kernel
theorem dX5_nextSeed_7 : decode cX5_nextSeed 7 = .ok (.iadd, 1) := by decide +kernel
theorem dX5_nextSeed_8 : decode cX5_nextSeed 8 = .ok (.ldc 216, 2) := by decide +kernel
theorem dX5_nextSeed_10 : decode cX5_nextSeed 10 = .ok (.iand, 1) := by decide +kernel
theorem dX5_nextSeed_11 : decode cX5_nextSeed 11 = .ok (.ireturn, 1) := by decide +kernel
theorem dX5_drawOf_0 : decode cX5_drawOf 0 = .ok (.iload_n 1, 1) := by decide +kernel
theorem dX5_drawOf_1 : decode cX5_drawOf 1 = .ok (.ifCond .le 12, 3) := by decide +kernel
theorem dX5_drawOf_4 : decode cX5_drawOf 4 = .ok (.iload_n 0, 1) := by decide +kernel
theorem dX5_drawOf_5 : decode cX5_drawOf 5 = .ok (.ldc 217, 2) := by decide +kernel
theorem dX5_drawOf_7 : decode cX5_drawOf 7 = .ok (.idiv, 1) := by decide +kernel
theorem dX5_drawOf_8 : decode cX5_drawOf 8 = .ok (.iload_n 1, 1) := by decide +kernel
theorem dX5_drawOf_9 : decode cX5_drawOf 9 = .ok (.irem, 1) := by decide +kernel
theorem dX5_drawOf_10 : decode cX5_drawOf 10 = .ok (.goto 4, 3) := by decide +kernel
theorem dX5_drawOf_13 : decode cX5_drawOf 13 = .ok (.iconst 0, 1) := by decide +kernel
theorem dX5_drawOf_14 : decode cX5_drawOf 14 = .ok (.ireturn, 1) := by decide +kernel
theorem dX5_kindByLetter_0 : decode cX5_kindByLetter 0 = .ok (.iload_n 0, 1) := by decide +kernel
theorem dX5_kindByLetter_1 : decode cX5_kindByLetter 1 = .ok (.tableswitch 73 108 119 #[63, 69, 73, 73, 71, 73, 73, 73, 73, 73, 67, 65], 63) := by decide +kernel
theorem dX5_kindByLetter_64 : decode cX5_kindByLetter 64 = .ok (.iconst 0, 1) := by decide +kernel
theorem dX5_kindByLetter_65 : decode cX5_kindByLetter 65 = .ok (.ireturn, 1) := by decide +kernel
theorem dX5_kindByLetter_66 : decode cX5_kindByLetter 66 = .ok (.iconst 1, 1) := by decide +kernel
theorem dX5_kindByLetter_67 : decode cX5_kindByLetter 67 = .ok (.ireturn, 1) := by decide +kernel
theorem dX5_kindByLetter_68 : decode cX5_kindByLetter 68 = .ok (.iconst 2, 1) := by decide +kernel
theorem dX5_kindByLetter_69 : decode cX5_kindByLetter 69 = .ok (.ireturn, 1) := by decide +kernel
theorem dX5_kindByLetter_70 : decode cX5_kindByLetter 70 = .ok (.iconst 3, 1) := by decide +kernel
theorem dX5_kindByLetter_71 : decode cX5_kindByLetter 71 = .ok (.ireturn, 1) := by decide +kernel
theorem dX5_kindByLetter_72 : decode cX5_kindByLetter 72 = .ok (.iconst 4, 1) := by decide +kernel
theorem dX5_kindByLetter_73 : decode cX5_kindByLetter 73 = .ok (.ireturn, 1) := by decide +kernel
theorem dX5_kindByLetter_74 : decode cX5_kindByLetter 74 = .ok (.iconst (-1), 1) := by decide +kernel
theorem dX5_kindByLetter_75 : decode cX5_kindByLetter 75 = .ok (.ireturn, 1) := by decide +kernel
theorem dX5_isAlso_0 : decode cX5_isAlso 0 = .ok (.iload_n 1, 1) := by decide +kernel
theorem dX5_isAlso_1 : decode cX5_isAlso 1 = .ok (.ifCond .eq 18, 3) := by decide +kernel
theorem dX5_isAlso_4 : decode cX5_isAlso 4 = .ok (.iload_n 1, 1) := by decide +kernel
theorem dX5_isAlso_5 : decode cX5_isAlso 5 = .ok (.iload_n 0, 1) := by decide +kernel
theorem dX5_isAlso_6 : decode cX5_isAlso 6 = .ok (.if_icmp .eq 13, 3) := by decide +kernel
theorem dX5_isAlso_9 : decode cX5_isAlso 9 = .ok (.iload_n 1, 1) := by decide +kernel
theorem dX5_isAlso_10 : decode cX5_isAlso 10 = .ok (.iconst 2, 1) := by decide +kernel
theorem dX5_isAlso_11 : decode cX5_isAlso 11 = .ok (.if_icmp .ne 12, 3) := by decide +kernel
theorem dX5_isAlso_14 : decode cX5_isAlso 14 = .ok (.iload_n 0, 1) := by decide +kernel
theorem dX5_isAlso_15 : decode cX5_isAlso 15 = .ok (.iconst 4, 1) := by decide +kernel
theorem dX5_isAlso_16 : decode cX5_isAlso 16 = .ok (.if_icmp .ne 7, 3) := by decide +kernel
theorem dX5_isAlso_19 : decode cX5_isAlso 19 = .ok (.iconst 1, 1) := by decide +kernel
theorem dX5_isAlso_20 : decode cX5_isAlso 20 = .ok (.goto 4, 3) := by decide +kernel
theorem dX5_isAlso_23 : decode cX5_isAlso 23 = .ok (.iconst 0, 1) := by decide +kernel
theorem dX5_isAlso_24 : decode cX5_isAlso 24 = .ok (.ireturn, 1) := by decide +kernel
theorem dX5_tiredByHour_0 : decode cX5_tiredByHour 0 = .ok (.iload_n 2, 1) := by decide +kernel
theorem dX5_tiredByHour_1 : decode cX5_tiredByHour 1 = .ok (.iconst 2, 1) := by decide +kernel
theorem dX5_tiredByHour_2 : decode cX5_tiredByHour 2 = .ok (.irem, 1) := by decide +kernel
theorem dX5_tiredByHour_3 : decode cX5_tiredByHour 3 = .ok (.ifCond .ne 7, 3) := by decide +kernel
theorem dX5_tiredByHour_6 : decode cX5_tiredByHour 6 = .ok (.iconst 1, 1) := by decide +kernel
theorem dX5_tiredByHour_7 : decode cX5_tiredByHour 7 = .ok (.goto 4, 3) := by decide +kernel
theorem dX5_tiredByHour_10 : decode cX5_tiredByHour 10 = .ok (.iconst 0, 1) := by decide +kernel
theorem dX5_tiredByHour_11 : decode cX5_tiredByHour 11 = .ok (.istore 4, 2) := by decide +kernel
theorem dX5_tiredByHour_13 : decode cX5_tiredByHour 13 = .ok (.iload_n 0, 1) := by decide +kernel
theorem dX5_tiredByHour_14 : decode cX5_tiredByHour 14 = .ok (.tableswitch 54 2 4 #[26, 29, 41], 26) := by decide +kernel
theorem dX5_tiredByHour_40 : decode cX5_tiredByHour 40 = .ok (.iload 4, 2) := by decide +kernel
theorem dX5_tiredByHour_42 : decode cX5_tiredByHour 42 = .ok (.ireturn, 1) := by decide +kernel
theorem dX5_tiredByHour_43 : decode cX5_tiredByHour 43 = .ok (.iload_n 1, 1) := by decide +kernel
theorem dX5_tiredByHour_44 : decode cX5_tiredByHour 44 = .ok (.bipush 6, 2) := by decide +kernel
theorem dX5_tiredByHour_46 : decode cX5_tiredByHour 46 = .ok (.if_icmp .ge 7, 3) := by decide +kernel
theorem dX5_tiredByHour_49 : decode cX5_tiredByHour 49 = .ok (.iconst 1, 1) := by decide +kernel
theorem dX5_tiredByHour_50 : decode cX5_tiredByHour 50 = .ok (.goto 4, 3) := by decide +kernel
theorem dX5_tiredByHour_53 : decode cX5_tiredByHour 53 = .ok (.iconst 0, 1) := by decide +kernel
theorem dX5_tiredByHour_54 : decode cX5_tiredByHour 54 = .ok (.ireturn, 1) := by decide +kernel
theorem dX5_tiredByHour_55 : decode cX5_tiredByHour 55 = .ok (.iload 4, 2) := by decide +kernel
theorem dX5_tiredByHour_57 : decode cX5_tiredByHour 57 = .ok (.iload_n 3, 1) := by decide +kernel
theorem dX5_tiredByHour_58 : decode cX5_tiredByHour 58 = .ok (.ifCond .eq 7, 3) := by decide +kernel
theorem dX5_tiredByHour_61 : decode cX5_tiredByHour 61 = .ok (.iconst 1, 1) := by decide +kernel
theorem dX5_tiredByHour_62 : decode cX5_tiredByHour 62 = .ok (.goto 4, 3) := by decide +kernel
theorem dX5_tiredByHour_65 : decode cX5_tiredByHour 65 = .ok (.iconst 0, 1) := by decide +kernel
theorem dX5_tiredByHour_66 : decode cX5_tiredByHour 66 = .ok (.iadd, 1) := by decide +kernel
theorem dX5_tiredByHour_67 : decode cX5_tiredByHour 67 = .ok (.ireturn, 1) := by decide +kernel
theorem dX5_tiredByHour_68 : decode cX5_tiredByHour 68 = .ok (.iconst 1, 1) := by decide +kernel
theorem dX5_tiredByHour_69 : decode cX5_tiredByHour 69 = .ok (.ireturn, 1) := by decide +kernel
theorem dX6_init_0 : decode cX6_init 0 = .ok (.aload_n 0, 1) := by decide +kernel
theorem dX6_init_1 : decode cX6_init 1 = .ok (.invokespecial 1, 3) := by decide +kernel
theorem dX6_init_4 : decode cX6_init 4 = .ok (.aload_n 0, 1) := by decide +kernel
theorem dX6_init_5 : decode cX6_init 5 = .ok (.iconst 5, 1) := by decide +kernel
theorem dX6_init_6 : decode cX6_init 6 = .ok (.newarray .int, 2) := by decide +kernel
theorem dX6_init_8 : decode cX6_init 8 = .ok (.putfield 7, 3) := by decide +kernel
theorem dX6_init_11 : decode cX6_init 11 = .ok (.aload_n 0, 1) := by decide +kernel
theorem dX6_init_12 : decode cX6_init 12 = .ok (.iconst 5, 1) := by decide +kernel
theorem dX6_init_13 : decode cX6_init 13 = .ok (.newarray .int, 2) := by decide +kernel
theorem dX6_init_15 : decode cX6_init 15 = .ok (.putfield 13, 3) := by decide +kernel
theorem dX6_init_18 : decode cX6_init 18 = .ok (.aload_n 0, 1) := by decide +kernel
theorem dX6_init_19 : decode cX6_init 19 = .ok (.iconst 5, 1) := by decide +kernel
theorem dX6_init_20 : decode cX6_init 20 = .ok (.newarray .boolean, 2) := by decide +kernel
theorem dX6_init_22 : decode cX6_init 22 = .ok (.putfield 16, 3) := by decide +kernel
theorem dX6_init_25 : decode cX6_init 25 = .ok (.aload_n 0, 1) := by decide +kernel
theorem dX6_init_26 : decode cX6_init 26 = .ok (.iconst 5, 1) := by decide +kernel
theorem dX6_init_27 : decode cX6_init 27 = .ok (.newarray .int, 2) := by decide +kernel
theorem dX6_init_29 : decode cX6_init 29 = .ok (.putfield 20, 3) := by decide +kernel
theorem dX6_init_32 : decode cX6_init 32 = .ok (.aload_n 0, 1) := by decide +kernel
theorem dX6_init_33 : decode cX6_init 33 = .ok (.bipush 6, 2) := by decide +kernel
theorem dX6_init_35 : decode cX6_init 35 = .ok (.newarray .int, 2) := by decide +kernel
theorem dX6_init_37 : decode cX6_init 37 = .ok (.putfield 23, 3) := by decide +kernel
theorem dX6_init_40 : decode cX6_init 40 = .ok (.aload_n 0, 1) := by decide +kernel
theorem dX6_init_41 : decode cX6_init 41 = .ok (.bipush 6, 2) := by decide +kernel
theorem dX6_init_43 : decode cX6_init 43 = .ok (.newarray .int, 2) := by decide +kernel
theorem dX6_init_45 : decode cX6_init 45 = .ok (.putfield 26, 3) := by decide +kernel
theorem dX6_init_48 : decode cX6_init 48 = .ok (.aload_n 0, 1) := by decide +kernel
theorem dX6_init_49 : decode cX6_init 49 = .ok (.bipush 18, 2) := by decide +kernel
theorem dX6_init_51 : decode cX6_init 51 = .ok (.newarray .byte, 2) := by decide +kernel
theorem dX6_init_53 : decode cX6_init 53 = .ok (.putfield 29, 3) := by decide +kernel
theorem dX6_init_56 : decode cX6_init 56 = .ok (.aload_n 0, 1) := by decide +kernel
theorem dX6_init_57 : decode cX6_init 57 = .ok (.bipush 22, 2) := by decide +kernel
theorem dX6_init_59 : decode cX6_init 59 = .ok (.newarray .int, 2) := by decide +kernel
theorem dX6_init_61 : decode cX6_init 61 = .ok (.putfield 33, 3) := by decide +kernel
theorem dX6_init_64 : decode cX6_init 64 = .ok (.aload_n 0, 1) := by decide +kernel
theorem dX6_init_65 : decode cX6_init 65 = .ok (.iconst 5, 1) := by decide +kernel
theorem dX6_init_66 : decode cX6_init 66 = .ok (.newarray .int, 2) := by decide +kernel
theorem dX6_init_68 : decode cX6_init 68 = .ok (.putfield 36, 3) := by decide +kernel
theorem dX6_init_71 : decode cX6_init 71 = .ok (.aload_n 0, 1) := by decide +kernel
theorem dX6_init_72 : decode cX6_init 72 = .ok (.sipush 130, 3) := by decide +kernel
theorem dX6_init_75 : decode cX6_init 75 = .ok (.newarray .int, 2) := by decide +kernel
theorem dX6_init_77 : decode cX6_init 77 = .ok (.putfield 39, 3) := by decide +kernel
theorem dX6_init_80 : decode cX6_init 80 = .ok (.aload_n 0, 1) := by decide +kernel
theorem dX6_init_81 : decode cX6_init 81 = .ok (.iconst 5, 1) := by decide +kernel
theorem dX6_init_82 : decode cX6_init 82 = .ok (.newarray .int, 2) := by decide +kernel
theorem dX6_init_84 : decode cX6_init 84 = .ok (.putfield 42, 3) := by decide +kernel
theorem dX6_init_87 : decode cX6_init 87 = .ok (.aload_n 0, 1) := by decide +kernel
theorem dX6_init_88 : decode cX6_init 88 = .ok (.bipush 6, 2) := by decide +kernel
theorem dX6_init_90 : decode cX6_init 90 = .ok (.newarray .int, 2) := by decide +kernel
theorem dX6_init_92 : decode cX6_init 92 = .ok (.putfield 45, 3) := by decide +kernel
theorem dX6_init_95 : decode cX6_init 95 = .ok (.aload_n 0, 1) := by decide +kernel
theorem dX6_init_96 : decode cX6_init 96 = .ok (.bipush 6, 2) := by decide +kernel
theorem dX6_init_98 : decode cX6_init 98 = .ok (.newarray .int, 2) := by decide +kernel
theorem dX6_init_100 : decode cX6_init 100 = .ok (.putfield 48, 3) := by decide +kernel
theorem dX6_init_103 : decode cX6_init 103 = .ok (.return_, 1) := by decide +kernel
theorem dX6_within_0 : decode cX6_within 0 = .ok (.iload_n 0, 1) := by decide +kernel
theorem dX6_within_1 : decode cX6_within 1 = .ok (.iload_n 1, 1) := by decide +kernel
theorem dX6_within_2 : decode cX6_within 2 = .ok (.if_icmp .lt 12, 3) := by decide +kernel
theorem dX6_within_5 : decode cX6_within 5 = .ok (.iload_n 0, 1) := by decide +kernel
theorem dX6_within_6 : decode cX6_within 6 = .ok (.iload_n 2, 1) := by decide +kernel
theorem dX6_within_7 : decode cX6_within 7 = .ok (.if_icmp .gt 7, 3) := by decide +kernel
theorem dX6_within_10 : decode cX6_within 10 = .ok (.iconst 1, 1) := by decide +kernel
theorem dX6_within_11 : decode cX6_within 11 = .ok (.goto 4, 3) := by decide +kernel
theorem dX6_within_14 : decode cX6_within 14 = .ok (.iconst 0, 1) := by decide +kernel
theorem dX6_within_15 : decode cX6_within 15 = .ok (.ireturn, 1) := by decide +kernel
theorem dX6_isIn_0 : decode cX6_isIn 0 = .ok (.iload_n 0, 1) := by decide +kernel
theorem dX6_isIn_1 : decode cX6_isIn 1 = .ok (.iload_n 1, 1) := by decide +kernel
theorem dX6_isIn_2 : decode cX6_isIn 2 = .ok (.ishr, 1) := by decide +kernel
theorem dX6_isIn_3 : decode cX6_isIn 3 = .ok (.iconst 1, 1) := by decide +kernel
theorem dX6_isIn_4 : decode cX6_isIn 4 = .ok (.iand, 1) := by decide +kernel
theorem dX6_isIn_5 : decode cX6_isIn 5 = .ok (.iconst 1, 1) := by decide +kernel
theorem dX6_isIn_6 : decode cX6_isIn 6 = .ok (.if_icmp .ne 7, 3) := by decide +kernel
theorem dX6_isIn_9 : decode cX6_isIn 9 = .ok (.iconst 1, 1) := by decide +kernel
theorem dX6_isIn_10 : decode cX6_isIn 10 = .ok (.goto 4, 3) := by decide +kernel
theorem dX6_isIn_13 : decode cX6_isIn 13 = .ok (.iconst 0, 1) := by decide +kernel
theorem dX6_isIn_14 : decode cX6_isIn 14 = .ok (.ireturn, 1) := by decide +kernel
theorem dX6_letter_0 : decode cX6_letter 0 = .ok (.iload_n 1, 1) := by decide +kernel
theorem dX6_letter_1 : decode cX6_letter 1 = .ok (.bipush 32, 2) := by decide +kernel
theorem dX6_letter_3 : decode cX6_letter 3 = .ok (.bipush 126, 2) := by decide +kernel
theorem dX6_letter_5 : decode cX6_letter 5 = .ok (.invokestatic 51, 3) := by decide +kernel
theorem dX6_letter_8 : decode cX6_letter 8 = .ok (.ifCond .ne 6, 3) := by decide +kernel
theorem dX6_letter_11 : decode cX6_letter 11 = .ok (.bipush (-102), 2) := by decide +kernel
theorem dX6_letter_13 : decode cX6_letter 13 = .ok (.ireturn, 1) := by decide +kernel
theorem dX6_letter_14 : decode cX6_letter 14 = .ok (.aload_n 0, 1) := by decide +kernel
theorem dX6_letter_15 : decode cX6_letter 15 = .ok (.getfield 55, 3) := by decide +kernel
theorem dX6_letter_18 : decode cX6_letter 18 = .ok (.bipush 18, 2) := by decide +kernel
theorem dX6_letter_20 : decode cX6_letter 20 = .ok (.if_icmp .ne 6, 3) := by decide +kernel
theorem dX6_letter_23 : decode cX6_letter 23 = .ok (.bipush (-104), 2) := by decide +kernel
theorem dX6_letter_25 : decode cX6_letter 25 = .ok (.ireturn, 1) := by decide +kernel
theorem dX6_letter_26 : decode cX6_letter 26 = .ok (.aload_n 0, 1) := by decide +kernel
theorem dX6_letter_27 : decode cX6_letter 27 = .ok (.getfield 29, 3) := by decide +kernel
theorem dX6_letter_30 : decode cX6_letter 30 = .ok (.aload_n 0, 1) := by decide +kernel
theorem dX6_letter_31 : decode cX6_letter 31 = .ok (.getfield 55, 3) := by decide +kernel
theorem dX6_letter_34 : decode cX6_letter 34 = .ok (.iload_n 1, 1) := by decide +kernel
theorem dX6_letter_35 : decode cX6_letter 35 = .ok (.i2b, 1) := by decide +kernel
theorem dX6_letter_36 : decode cX6_letter 36 = .ok (.bastore, 1) := by decide +kernel
theorem dX6_letter_37 : decode cX6_letter 37 = .ok (.aload_n 0, 1) := by decide +kernel
theorem dX6_letter_38 : decode cX6_letter 38 = .ok (.dup, 1) := by decide +kernel
theorem dX6_letter_39 : decode cX6_letter 39 = .ok (.getfield 55, 3) := by decide +kernel
theorem dX6_letter_42 : decode cX6_letter 42 = .ok (.iconst 1, 1) := by decide +kernel
theorem dX6_letter_43 : decode cX6_letter 43 = .ok (.iadd, 1) := by decide +kernel
theorem dX6_letter_44 : decode cX6_letter 44 = .ok (.putfield 55, 3) := by decide +kernel
theorem dX6_letter_47 : decode cX6_letter 47 = .ok (.aload_n 0, 1) := by decide +kernel
theorem dX6_letter_48 : decode cX6_letter 48 = .ok (.getfield 55, 3) := by decide +kernel
theorem dX6_letter_51 : decode cX6_letter 51 = .ok (.ireturn, 1) := by decide +kernel
theorem dX6_blank_0 : decode cX6_blank 0 = .ok (.aload_n 0, 1) := by decide +kernel
theorem dX6_blank_1 : decode cX6_blank 1 = .ok (.getfield 55, 3) := by decide +kernel
theorem dX6_blank_4 : decode cX6_blank 4 = .ok (.istore_n 1, 1) := by decide +kernel
theorem dX6_blank_5 : decode cX6_blank 5 = .ok (.aload_n 0, 1) := by decide +kernel
theorem dX6_blank_6 : decode cX6_blank 6 = .ok (.iconst 0, 1) := by decide +kernel
theorem dX6_blank_7 : decode cX6_blank 7 = .ok (.putfield 55, 3) := by decide +kernel
theorem dX6_blank_10 : decode cX6_blank 10 = .ok (.iload_n 1, 1) := by decide +kernel
theorem dX6_blank_11 : decode cX6_blank 11 = .ok (.ireturn, 1) := by decide +kernel
theorem dX6_kindBy_0 : decode cX6_kindBy 0 = .ok (.iload_n 0, 1) := by decide +kernel
theorem dX6_kindBy_1 : decode cX6_kindBy 1 = .ok (.tableswitch 73 108 119 #[63, 69, 73, 73, 71, 73, 73, 73, 73, 73, 67, 65], 63) := by decide +kernel
theorem dX6_kindBy_64 : decode cX6_kindBy 64 = .ok (.iconst 0, 1) := by decide +kernel
theorem dX6_kindBy_65 : decode cX6_kindBy 65 = .ok (.ireturn, 1) := by decide +kernel
theorem dX6_kindBy_66 : decode cX6_kindBy 66 = .ok (.iconst 1, 1) := by decide +kernel
theorem dX6_kindBy_67 : decode cX6_kindBy 67 = .ok (.ireturn, 1) := by decide +kernel
theorem dX6_kindBy_68 : decode cX6_kindBy 68 = .ok (.iconst 2, 1) := by decide +kernel
theorem dX6_kindBy_69 : decode cX6_kindBy 69 = .ok (.ireturn, 1) := by decide +kernel
theorem dX6_kindBy_70 : decode cX6_kindBy 70 = .ok (.iconst 3, 1) := by decide +kernel
theorem dX6_kindBy_71 : decode cX6_kindBy 71 = .ok (.ireturn, 1) := by decide +kernel
theorem dX6_kindBy_72 : decode cX6_kindBy 72 = .ok (.iconst 4, 1) := by decide +kernel
theorem dX6_kindBy_73 : decode cX6_kindBy 73 = .ok (.ireturn, 1) := by decide +kernel
theorem dX6_kindBy_74 : decode cX6_kindBy 74 = .ok (.iconst (-1), 1) := by decide +kernel
theorem dX6_kindBy_75 : decode cX6_kindBy 75 = .ok (.ireturn, 1) := by decide +kernel
theorem dX6_isFigure_0 : decode cX6_isFigure 0 = .ok (.iload_n 1, 1) := by decide +kernel
theorem dX6_isFigure_1 : decode cX6_isFigure 1 = .ok (.aload_n 0, 1) := by decide +kernel
theorem dX6_isFigure_2 : decode cX6_isFigure 2 = .ok (.getfield 55, 3) := by decide +kernel
theorem dX6_isFigure_5 : decode cX6_isFigure 5 = .ok (.if_icmp .ge 24, 3) := by decide +kernel
theorem dX6_isFigure_8 : decode cX6_isFigure 8 = .ok (.aload_n 0, 1) := by decide +kernel
theorem dX6_isFigure_9 : decode cX6_isFigure 9 = .ok (.getfield 29, 3) := by decide +kernel
theorem dX6_isFigure_12 : decode cX6_isFigure 12 = .ok (.iload_n 1, 1) := by decide +kernel
theorem dX6_isFigure_13 : decode cX6_isFigure 13 = .ok (.baload, 1) := by decide +kernel
theorem dX6_isFigure_14 : decode cX6_isFigure 14 = .ok (.bipush 48, 2) := by decide +kernel
theorem dX6_isFigure_16 : decode cX6_isFigure 16 = .ok (.isub, 1) := by decide +kernel
theorem dX6_isFigure_17 : decode cX6_isFigure 17 = .ok (.iload_n 2, 1) := by decide +kernel
theorem dX6_isFigure_18 : decode cX6_isFigure 18 = .ok (.iload_n 3, 1) := by decide +kernel
theorem dX6_isFigure_19 : decode cX6_isFigure 19 = .ok (.invokestatic 51, 3) := by decide +kernel
theorem dX6_isFigure_22 : decode cX6_isFigure 22 = .ok (.ifCond .eq 7, 3) := by decide +kernel
theorem dX6_isFigure_25 : decode cX6_isFigure 25 = .ok (.iconst 1, 1) := by decide +kernel
theorem dX6_isFigure_26 : decode cX6_isFigure 26 = .ok (.goto 4, 3) := by decide +kernel
theorem dX6_isFigure_29 : decode cX6_isFigure 29 = .ok (.iconst 0, 1) := by decide +kernel
theorem dX6_isFigure_30 : decode cX6_isFigure 30 = .ok (.ireturn, 1) := by decide +kernel
theorem dX6_read_0 : decode cX6_read 0 = .ok (.aload_n 0, 1) := by decide +kernel
theorem dX6_read_1 : decode cX6_read 1 = .ok (.iconst 0, 1) := by decide +kernel
theorem dX6_read_2 : decode cX6_read 2 = .ok (.putfield 59, 3) := by decide +kernel
theorem dX6_read_5 : decode cX6_read 5 = .ok (.aload_n 0, 1) := by decide +kernel
theorem dX6_read_6 : decode cX6_read 6 = .ok (.iconst 0, 1) := by decide +kernel
theorem dX6_read_7 : decode cX6_read 7 = .ok (.putfield 63, 3) := by decide +kernel
theorem dX6_read_10 : decode cX6_read 10 = .ok (.iconst 0, 1) := by decide +kernel
theorem dX6_read_11 : decode cX6_read 11 = .ok (.istore_n 1, 1) := by decide +kernel
theorem dX6_read_12 : decode cX6_read 12 = .ok (.aload_n 0, 1) := by decide +kernel
theorem dX6_read_13 : decode cX6_read 13 = .ok (.getfield 63, 3) := by decide +kernel
theorem dX6_read_16 : decode cX6_read 16 = .ok (.iconst 5, 1) := by decide +kernel
theorem dX6_read_17 : decode cX6_read 17 = .ok (.if_icmp .ge 171, 3) := by decide +kernel
theorem dX6_read_20 : decode cX6_read 20 = .ok (.iload_n 1, 1) := by decide +kernel
theorem dX6_read_21 : decode cX6_read 21 = .ok (.aload_n 0, 1) := by decide +kernel
theorem dX6_read_22 : decode cX6_read 22 = .ok (.getfield 55, 3) := by decide +kernel
theorem dX6_read_25 : decode cX6_read 25 = .ok (.if_icmp .eq 16, 3) := by decide +kernel
theorem dX6_read_28 : decode cX6_read 28 = .ok (.aload_n 0, 1) := by decide +kernel
theorem dX6_read_29 : decode cX6_read 29 = .ok (.getfield 29, 3) := by decide +kernel
theorem dX6_read_32 : decode cX6_read 32 = .ok (.iload_n 1, 1) := by decide +kernel
theorem dX6_read_33 : decode cX6_read 33 = .ok (.baload, 1) := by decide +kernel
theorem dX6_read_34 : decode cX6_read 34 = .ok (.invokestatic 66, 3) := by decide +kernel
theorem dX6_read_37 : decode cX6_read 37 = .ok (.iconst (-1), 1) := by decide +kernel
theorem dX6_read_38 : decode cX6_read 38 = .ok (.if_icmp .ne 5, 3) := by decide +kernel
theorem dX6_read_41 : decode cX6_read 41 = .ok (.iload_n 1, 1) := by decide +kernel
theorem dX6_read_42 : decode cX6_read 42 = .ok (.ireturn, 1) := by decide +kernel
theorem dX6_read_43 : decode cX6_read 43 = .ok (.aload_n 0, 1) := by decide +kernel
theorem dX6_read_44 : decode cX6_read 44 = .ok (.iload_n 1, 1) := by decide +kernel
theorem dX6_read_45 : decode cX6_read 45 = .ok (.iconst 1, 1) := by decide +kernel
theorem dX6_read_46 : decode cX6_read 46 = .ok (.iadd, 1) := by decide +kernel
theorem dX6_read_47 : decode cX6_read 47 = .ok (.iconst 0, 1) := by decide +kernel
theorem dX6_read_48 : decode cX6_read 48 = .ok (.bipush 9, 2) := by decide +kernel
theorem dX6_read_50 : decode cX6_read 50 = .ok (.invokevirtual 70, 3) := by decide +kernel
theorem dX6_read_53 : decode cX6_read 53 = .ok (.ifCond .ne 7, 3) := by decide +kernel
theorem dX6_read_56 : decode cX6_read 56 = .ok (.iload_n 1, 1) := by decide +kernel
theorem dX6_read_57 : decode cX6_read 57 = .ok (.iconst 1, 1) := by decide +kernel
theorem dX6_read_58 : decode cX6_read 58 = .ok (.iadd, 1) := by decide +kernel
theorem dX6_read_59 : decode cX6_read 59 = .ok (.ireturn, 1) := by decide +kernel
theorem dX6_read_60 : decode cX6_read 60 = .ok (.aload_n 0, 1) := by decide +kernel
theorem dX6_read_61 : decode cX6_read 61 = .ok (.dup, 1) := by decide +kernel
theorem dX6_read_62 : decode cX6_read 62 = .ok (.getfield 63, 3) := by decide +kernel
theorem dX6_read_65 : decode cX6_read 65 = .ok (.iconst 1, 1) := by decide +kernel
theorem dX6_read_66 : decode cX6_read 66 = .ok (.iadd, 1) := by decide +kernel
theorem dX6_read_67 : decode cX6_read 67 = .ok (.putfield 63, 3) := by decide +kernel
theorem dX6_read_70 : decode cX6_read 70 = .ok (.iinc 1 2, 3) := by decide +kernel
theorem dX6_read_73 : decode cX6_read 73 = .ok (.iload_n 1, 1) := by decide +kernel
theorem dX6_read_74 : decode cX6_read 74 = .ok (.aload_n 0, 1) := by decide +kernel
theorem dX6_read_75 : decode cX6_read 75 = .ok (.getfield 55, 3) := by decide +kernel
theorem dX6_read_78 : decode cX6_read 78 = .ok (.if_icmp .ge 75, 3) := by decide +kernel
theorem dX6_read_81 : decode cX6_read 81 = .ok (.aload_n 0, 1) := by decide +kernel
theorem dX6_read_82 : decode cX6_read 82 = .ok (.getfield 29, 3) := by decide +kernel
theorem dX6_read_85 : decode cX6_read 85 = .ok (.iload_n 1, 1) := by decide +kernel
theorem dX6_read_86 : decode cX6_read 86 = .ok (.baload, 1) := by decide +kernel
theorem dX6_read_87 : decode cX6_read 87 = .ok (.bipush 59, 2) := by decide +kernel
theorem dX6_read_89 : decode cX6_read 89 = .ok (.if_icmp .ne 64, 3) := by decide +kernel
theorem dX6_read_92 : decode cX6_read 92 = .ok (.aload_n 0, 1) := by decide +kernel
theorem dX6_read_93 : decode cX6_read 93 = .ok (.getfield 63, 3) := by decide +kernel
theorem dX6_read_96 : decode cX6_read 96 = .ok (.iconst 1, 1) := by decide +kernel
theorem dX6_read_97 : decode cX6_read 97 = .ok (.if_icmp .le 56, 3) := by decide +kernel
theorem dX6_read_100 : decode cX6_read 100 = .ok (.aload_n 0, 1) := by decide +kernel
theorem dX6_read_101 : decode cX6_read 101 = .ok (.aload_n 0, 1) := by decide +kernel
theorem dX6_read_102 : decode cX6_read 102 = .ok (.iload_n 1, 1) := by decide +kernel
theorem dX6_read_103 : decode cX6_read 103 = .ok (.iconst 1, 1) := by decide +kernel
theorem dX6_read_104 : decode cX6_read 104 = .ok (.iadd, 1) := by decide +kernel
theorem dX6_read_105 : decode cX6_read 105 = .ok (.iconst 1, 1) := by decide +kernel
theorem dX6_read_106 : decode cX6_read 106 = .ok (.iconst 4, 1) := by decide +kernel
theorem dX6_read_107 : decode cX6_read 107 = .ok (.invokevirtual 70, 3) := by decide +kernel
theorem dX6_read_110 : decode cX6_read 110 = .ok (.ifCond .eq 17, 3) := by decide +kernel
theorem dX6_read_113 : decode cX6_read 113 = .ok (.iload_n 1, 1) := by decide +kernel
theorem dX6_read_114 : decode cX6_read 114 = .ok (.iconst 2, 1) := by decide +kernel
theorem dX6_read_115 : decode cX6_read 115 = .ok (.iadd, 1) := by decide +kernel
theorem dX6_read_116 : decode cX6_read 116 = .ok (.aload_n 0, 1) := by decide +kernel
theorem dX6_read_117 : decode cX6_read 117 = .ok (.getfield 55, 3) := by decide +kernel
theorem dX6_read_120 : decode cX6_read 120 = .ok (.if_icmp .ne 7, 3) := by decide +kernel
theorem dX6_read_123 : decode cX6_read 123 = .ok (.iconst 1, 1) := by decide +kernel
theorem dX6_read_124 : decode cX6_read 124 = .ok (.goto 4, 3) := by decide +kernel
theorem dX6_read_127 : decode cX6_read 127 = .ok (.iconst 0, 1) := by decide +kernel
theorem dX6_read_128 : decode cX6_read 128 = .ok (.putfield 59, 3) := by decide +kernel
theorem dX6_read_131 : decode cX6_read 131 = .ok (.aload_n 0, 1) := by decide +kernel
theorem dX6_read_132 : decode cX6_read 132 = .ok (.iload_n 1, 1) := by decide +kernel
theorem dX6_read_133 : decode cX6_read 133 = .ok (.iconst 1, 1) := by decide +kernel
theorem dX6_read_134 : decode cX6_read 134 = .ok (.iadd, 1) := by decide +kernel
theorem dX6_read_135 : decode cX6_read 135 = .ok (.iconst 1, 1) := by decide +kernel
theorem dX6_read_136 : decode cX6_read 136 = .ok (.iconst 4, 1) := by decide +kernel
theorem dX6_read_137 : decode cX6_read 137 = .ok (.invokevirtual 70, 3) := by decide +kernel
theorem dX6_read_140 : decode cX6_read 140 = .ok (.ifCond .eq 9, 3) := by decide +kernel
theorem dX6_read_143 : decode cX6_read 143 = .ok (.iload_n 1, 1) := by decide +kernel
theorem dX6_read_144 : decode cX6_read 144 = .ok (.iconst 2, 1) := by decide +kernel
theorem dX6_read_145 : decode cX6_read 145 = .ok (.iadd, 1) := by decide +kernel
theorem dX6_read_146 : decode cX6_read 146 = .ok (.goto 6, 3) := by decide +kernel
theorem dX6_read_149 : decode cX6_read 149 = .ok (.iload_n 1, 1) := by decide +kernel
theorem dX6_read_150 : decode cX6_read 150 = .ok (.iconst 1, 1) := by decide +kernel
theorem dX6_read_151 : decode cX6_read 151 = .ok (.iadd, 1) := by decide +kernel
theorem dX6_read_152 : decode cX6_read 152 = .ok (.ireturn, 1) := by decide +kernel
theorem dX6_read_153 : decode cX6_read 153 = .ok (.iload_n 1, 1) := by decide +kernel
theorem dX6_read_154 : decode cX6_read 154 = .ok (.aload_n 0, 1) := by decide +kernel
theorem dX6_read_155 : decode cX6_read 155 = .ok (.getfield 55, 3) := by decide +kernel
theorem dX6_read_158 : decode cX6_read 158 = .ok (.if_icmp .eq 22, 3) := by decide +kernel
theorem dX6_read_161 : decode cX6_read 161 = .ok (.aload_n 0, 1) := by decide +kernel
theorem dX6_read_162 : decode cX6_read 162 = .ok (.getfield 63, 3) := by decide +kernel
theorem dX6_read_165 : decode cX6_read 165 = .ok (.iconst 5, 1) := by decide +kernel
theorem dX6_read_166 : decode cX6_read 166 = .ok (.if_icmp .eq 14, 3) := by decide +kernel
theorem dX6_read_169 : decode cX6_read 169 = .ok (.aload_n 0, 1) := by decide +kernel
theorem dX6_read_170 : decode cX6_read 170 = .ok (.getfield 29, 3) := by decide +kernel
theorem dX6_read_173 : decode cX6_read 173 = .ok (.iload_n 1, 1) := by decide +kernel
theorem dX6_read_174 : decode cX6_read 174 = .ok (.baload, 1) := by decide +kernel
theorem dX6_read_175 : decode cX6_read 175 = .ok (.bipush 44, 2) := by decide +kernel
theorem dX6_read_177 : decode cX6_read 177 = .ok (.if_icmp .eq 5, 3) := by decide +kernel
theorem dX6_read_180 : decode cX6_read 180 = .ok (.iload_n 1, 1) := by decide +kernel
theorem dX6_read_181 : decode cX6_read 181 = .ok (.ireturn, 1) := by decide +kernel
theorem dX6_read_182 : decode cX6_read 182 = .ok (.iinc 1 1, 3) := by decide +kernel
theorem dX6_read_185 : decode cX6_read 185 = .ok (.goto (-173), 3) := by decide +kernel
theorem dX6_read_188 : decode cX6_read 188 = .ok (.iload_n 1, 1) := by decide +kernel
theorem dX6_read_189 : decode cX6_read 189 = .ok (.ireturn, 1) := by decide +kernel
theorem dX6_fault_0 : decode cX6_fault 0 = .ok (.aload_n 0, 1) := by decide +kernel
theorem dX6_fault_1 : decode cX6_fault 1 = .ok (.invokevirtual 73, 3) := by decide +kernel
theorem dX6_fault_4 : decode cX6_fault 4 = .ok (.ireturn, 1) := by decide +kernel
theorem dX6_house_0 : decode cX6_house 0 = .ok (.aload_n 0, 1) := by decide +kernel
theorem dX6_house_1 : decode cX6_house 1 = .ok (.invokevirtual 73, 3) := by decide +kernel
theorem dX6_house_4 : decode cX6_house 4 = .ok (.istore_n 1, 1) := by decide +kernel
theorem dX6_house_5 : decode cX6_house 5 = .ok (.aload_n 0, 1) := by decide +kernel
theorem dX6_house_6 : decode cX6_house 6 = .ok (.getfield 59, 3) := by decide +kernel
theorem dX6_house_9 : decode cX6_house 9 = .ok (.ifCond .ne 6, 3) := by decide +kernel
theorem dX6_house_12 : decode cX6_house 12 = .ok (.bipush (-103), 2) := by decide +kernel
theorem dX6_house_14 : decode cX6_house 14 = .ok (.ireturn, 1) := by decide +kernel
theorem dX6_house_15 : decode cX6_house 15 = .ok (.aload_n 0, 1) := by decide +kernel
theorem dX6_house_16 : decode cX6_house 16 = .ok (.aload_n 0, 1) := by decide +kernel
theorem dX6_house_17 : decode cX6_house 17 = .ok (.getfield 63, 3) := by decide +kernel
theorem dX6_house_20 : decode cX6_house 20 = .ok (.putfield 77, 3) := by decide +kernel
theorem dX6_house_23 : decode cX6_house 23 = .ok (.aload_n 0, 1) := by decide +kernel
theorem dX6_house_24 : decode cX6_house 24 = .ok (.aload_n 0, 1) := by decide +kernel
theorem dX6_house_25 : decode cX6_house 25 = .ok (.getfield 29, 3) := by decide +kernel
theorem dX6_house_28 : decode cX6_house 28 = .ok (.iload_n 1, 1) := by decide +kernel
theorem dX6_house_29 : decode cX6_house 29 = .ok (.iconst 1, 1) := by decide +kernel
theorem dX6_house_30 : decode cX6_house 30 = .ok (.isub, 1) := by decide +kernel
theorem dX6_house_31 : decode cX6_house 31 = .ok (.baload, 1) := by decide +kernel
theorem dX6_house_32 : decode cX6_house 32 = .ok (.bipush 48, 2) := by decide +kernel
theorem dX6_house_34 : decode cX6_house 34 = .ok (.isub, 1) := by decide +kernel
theorem dX6_house_35 : decode cX6_house 35 = .ok (.putfield 80, 3) := by decide +kernel
theorem dX6_house_38 : decode cX6_house 38 = .ok (.iconst 0, 1) := by decide +kernel
theorem dX6_house_39 : decode cX6_house 39 = .ok (.istore_n 2, 1) := by decide +kernel
theorem dX6_house_40 : decode cX6_house 40 = .ok (.iload_n 2, 1) := by decide +kernel
theorem dX6_house_41 : decode cX6_house 41 = .ok (.aload_n 0, 1) := by decide +kernel
theorem dX6_house_42 : decode cX6_house 42 = .ok (.getfield 77, 3) := by decide +kernel
theorem dX6_house_45 : decode cX6_house 45 = .ok (.if_icmp .ge 59, 3) := by decide +kernel
theorem dX6_house_48 : decode cX6_house 48 = .ok (.aload_n 0, 1) := by decide +kernel
theorem dX6_house_49 : decode cX6_house 49 = .ok (.getfield 7, 3) := by decide +kernel
theorem dX6_house_52 : decode cX6_house 52 = .ok (.iload_n 2, 1) := by decide +kernel
theorem dX6_house_53 : decode cX6_house 53 = .ok (.aload_n 0, 1) := by decide +kernel
theorem dX6_house_54 : decode cX6_house 54 = .ok (.getfield 29, 3) := by decide +kernel
theorem dX6_house_57 : decode cX6_house 57 = .ok (.iconst 3, 1) := by decide +kernel
theorem dX6_house_58 : decode cX6_house 58 = .ok (.iload_n 2, 1) := by decide +kernel
theorem dX6_house_59 : decode cX6_house 59 = .ok (.imul, 1) := by decide +kernel
theorem dX6_house_60 : decode cX6_house 60 = .ok (.baload, 1) := by decide +kernel
theorem dX6_house_61 : decode cX6_house 61 = .ok (.invokestatic 66, 3) := by decide +kernel
theorem dX6_house_64 : decode cX6_house 64 = .ok (.iastore, 1) := by decide +kernel
theorem dX6_house_65 : decode cX6_house 65 = .ok (.aload_n 0, 1) := by decide +kernel
theorem dX6_house_66 : decode cX6_house 66 = .ok (.getfield 13, 3) := by decide +kernel
theorem dX6_house_69 : decode cX6_house 69 = .ok (.iload_n 2, 1) := by decide +kernel
theorem dX6_house_70 : decode cX6_house 70 = .ok (.aload_n 0, 1) := by decide +kernel
theorem dX6_house_71 : decode cX6_house 71 = .ok (.getfield 29, 3) := by decide +kernel
theorem dX6_house_74 : decode cX6_house 74 = .ok (.iconst 3, 1) := by decide +kernel
theorem dX6_house_75 : decode cX6_house 75 = .ok (.iload_n 2, 1) := by decide +kernel
theorem dX6_house_76 : decode cX6_house 76 = .ok (.imul, 1) := by decide +kernel
theorem dX6_house_77 : decode cX6_house 77 = .ok (.iconst 1, 1) := by decide +kernel
theorem dX6_house_78 : decode cX6_house 78 = .ok (.iadd, 1) := by decide +kernel
theorem dX6_house_79 : decode cX6_house 79 = .ok (.baload, 1) := by decide +kernel
theorem dX6_house_80 : decode cX6_house 80 = .ok (.bipush 48, 2) := by decide +kernel
theorem dX6_house_82 : decode cX6_house 82 = .ok (.isub, 1) := by decide +kernel
theorem dX6_house_83 : decode cX6_house 83 = .ok (.iastore, 1) := by decide +kernel
theorem dX6_house_84 : decode cX6_house 84 = .ok (.aload_n 0, 1) := by decide +kernel
theorem dX6_house_85 : decode cX6_house 85 = .ok (.getfield 16, 3) := by decide +kernel
theorem dX6_house_88 : decode cX6_house 88 = .ok (.iload_n 2, 1) := by decide +kernel
theorem dX6_house_89 : decode cX6_house 89 = .ok (.iconst 0, 1) := by decide +kernel
theorem dX6_house_90 : decode cX6_house 90 = .ok (.bastore, 1) := by decide +kernel
theorem dX6_house_91 : decode cX6_house 91 = .ok (.aload_n 0, 1) := by decide +kernel
theorem dX6_house_92 : decode cX6_house 92 = .ok (.getfield 20, 3) := by decide +kernel
theorem dX6_house_95 : decode cX6_house 95 = .ok (.iload_n 2, 1) := by decide +kernel
theorem dX6_house_96 : decode cX6_house 96 = .ok (.iconst 0, 1) := by decide +kernel
theorem dX6_house_97 : decode cX6_house 97 = .ok (.iastore, 1) := by decide +kernel
theorem dX6_house_98 : decode cX6_house 98 = .ok (.iinc 2 1, 3) := by decide +kernel
theorem dX6_house_101 : decode cX6_house 101 = .ok (.goto (-61), 3) := by decide +kernel
theorem dX6_house_104 : decode cX6_house 104 = .ok (.aload_n 0, 1) := by decide +kernel
theorem dX6_house_105 : decode cX6_house 105 = .ok (.dup, 1) := by decide +kernel
theorem dX6_house_106 : decode cX6_house 106 = .ok (.getfield 83, 3) := by decide +kernel
theorem dX6_house_109 : decode cX6_house 109 = .ok (.iconst 1, 1) := by decide +kernel
theorem dX6_house_110 : decode cX6_house 110 = .ok (.iadd, 1) := by decide +kernel
theorem dX6_house_111 : decode cX6_house 111 = .ok (.putfield 83, 3) := by decide +kernel
theorem dX6_house_114 : decode cX6_house 114 = .ok (.aload_n 0, 1) := by decide +kernel
theorem dX6_house_115 : decode cX6_house 115 = .ok (.iconst 0, 1) := by decide +kernel
theorem dX6_house_116 : decode cX6_house 116 = .ok (.putfield 86, 3) := by decide +kernel
theorem dX6_house_119 : decode cX6_house 119 = .ok (.aload_n 0, 1) := by decide +kernel
theorem dX6_house_120 : decode cX6_house 120 = .ok (.iconst 0, 1) := by decide +kernel
theorem dX6_house_121 : decode cX6_house 121 = .ok (.putfield 89, 3) := by decide +kernel
theorem dX6_house_124 : decode cX6_house 124 = .ok (.aload_n 0, 1) := by decide +kernel
theorem dX6_house_125 : decode cX6_house 125 = .ok (.iconst 0, 1) := by decide +kernel
theorem dX6_house_126 : decode cX6_house 126 = .ok (.putfield 55, 3) := by decide +kernel
theorem dX6_house_129 : decode cX6_house 129 = .ok (.aload_n 0, 1) := by decide +kernel
theorem dX6_house_130 : decode cX6_house 130 = .ok (.getfield 77, 3) := by decide +kernel
theorem dX6_house_133 : decode cX6_house 133 = .ok (.ireturn, 1) := by decide +kernel
theorem dX6_isLodger_0 : decode cX6_isLodger 0 = .ok (.iload_n 1, 1) := by decide +kernel
theorem dX6_isLodger_1 : decode cX6_isLodger 1 = .ok (.iconst 0, 1) := by decide +kernel
theorem dX6_isLodger_2 : decode cX6_isLodger 2 = .ok (.aload_n 0, 1) := by decide +kernel
theorem dX6_isLodger_3 : decode cX6_isLodger 3 = .ok (.getfield 77, 3) := by decide +kernel
theorem dX6_isLodger_6 : decode cX6_isLodger 6 = .ok (.iconst 1, 1) := by decide +kernel
theorem dX6_isLodger_7 : decode cX6_isLodger 7 = .ok (.isub, 1) := by decide +kernel
theorem dX6_isLodger_8 : decode cX6_isLodger 8 = .ok (.invokestatic 51, 3) := by decide +kernel
theorem dX6_isLodger_11 : decode cX6_isLodger 11 = .ok (.ireturn, 1) := by decide +kernel
theorem dX6_whose_0 : decode cX6_whose 0 = .ok (.iconst (-1), 1) := by decide +kernel
theorem dX6_whose_1 : decode cX6_whose 1 = .ok (.istore_n 1, 1) := by decide +kernel
theorem dX6_whose_2 : decode cX6_whose 2 = .ok (.iconst 0, 1) := by decide +kernel
theorem dX6_whose_3 : decode cX6_whose 3 = .ok (.istore_n 2, 1) := by decide +kernel
theorem dX6_whose_4 : decode cX6_whose 4 = .ok (.iload_n 2, 1) := by decide +kernel
theorem dX6_whose_5 : decode cX6_whose 5 = .ok (.aload_n 0, 1) := by decide +kernel
theorem dX6_whose_6 : decode cX6_whose 6 = .ok (.getfield 77, 3) := by decide +kernel
theorem dX6_whose_9 : decode cX6_whose 9 = .ok (.if_icmp .ge 64, 3) := by decide +kernel
theorem dX6_whose_12 : decode cX6_whose 12 = .ok (.aload_n 0, 1) := by decide +kernel
theorem dX6_whose_13 : decode cX6_whose 13 = .ok (.getfield 16, 3) := by decide +kernel
theorem dX6_whose_16 : decode cX6_whose 16 = .ok (.iload_n 2, 1) := by decide +kernel
theorem dX6_whose_17 : decode cX6_whose 17 = .ok (.baload, 1) := by decide +kernel
theorem dX6_whose_18 : decode cX6_whose 18 = .ok (.ifCond .ne 17, 3) := by decide +kernel
theorem dX6_whose_21 : decode cX6_whose 21 = .ok (.aload_n 0, 1) := by decide +kernel
theorem dX6_whose_22 : decode cX6_whose 22 = .ok (.getfield 7, 3) := by decide +kernel
theorem dX6_whose_25 : decode cX6_whose 25 = .ok (.iload_n 2, 1) := by decide +kernel
theorem dX6_whose_26 : decode cX6_whose 26 = .ok (.iaload, 1) := by decide +kernel
theorem dX6_whose_27 : decode cX6_whose 27 = .ok (.iconst 1, 1) := by decide +kernel
theorem dX6_whose_28 : decode cX6_whose 28 = .ok (.if_icmp .eq 7, 3) := by decide +kernel
theorem dX6_whose_31 : decode cX6_whose 31 = .ok (.iconst 1, 1) := by decide +kernel
theorem dX6_whose_32 : decode cX6_whose 32 = .ok (.goto 4, 3) := by decide +kernel
theorem dX6_whose_35 : decode cX6_whose 35 = .ok (.iconst 0, 1) := by decide +kernel
theorem dX6_whose_36 : decode cX6_whose 36 = .ok (.istore_n 3, 1) := by decide +kernel
theorem dX6_whose_37 : decode cX6_whose 37 = .ok (.iload_n 3, 1) := by decide +kernel
theorem dX6_whose_38 : decode cX6_whose 38 = .ok (.ifCond .eq 27, 3) := by decide +kernel
theorem dX6_whose_41 : decode cX6_whose 41 = .ok (.iload_n 1, 1) := by decide +kernel
theorem dX6_whose_42 : decode cX6_whose 42 = .ok (.iconst (-1), 1) := by decide +kernel
theorem dX6_whose_43 : decode cX6_whose 43 = .ok (.if_icmp .eq 18, 3) := by decide +kernel
theorem dX6_whose_46 : decode cX6_whose 46 = .ok (.aload_n 0, 1) := by decide +kernel
theorem dX6_whose_47 : decode cX6_whose 47 = .ok (.getfield 13, 3) := by decide +kernel
theorem dX6_whose_50 : decode cX6_whose 50 = .ok (.iload_n 2, 1) := by decide +kernel
theorem dX6_whose_51 : decode cX6_whose 51 = .ok (.iaload, 1) := by decide +kernel
theorem dX6_whose_52 : decode cX6_whose 52 = .ok (.aload_n 0, 1) := by decide +kernel
theorem dX6_whose_53 : decode cX6_whose 53 = .ok (.getfield 13, 3) := by decide +kernel
theorem dX6_whose_56 : decode cX6_whose 56 = .ok (.iload_n 1, 1) := by decide +kernel
theorem dX6_whose_57 : decode cX6_whose 57 = .ok (.iaload, 1) := by decide +kernel
theorem dX6_whose_58 : decode cX6_whose 58 = .ok (.if_icmp .ge 7, 3) := by decide +kernel
theorem dX6_whose_61 : decode cX6_whose 61 = .ok (.iload_n 2, 1) := by decide +kernel
theorem dX6_whose_62 : decode cX6_whose 62 = .ok (.goto 4, 3) := by decide +kernel
theorem dX6_whose_65 : decode cX6_whose 65 = .ok (.iload_n 1, 1) := by decide +kernel
theorem dX6_whose_66 : decode cX6_whose 66 = .ok (.istore_n 1, 1) := by decide +kernel
theorem dX6_whose_67 : decode cX6_whose 67 = .ok (.iinc 2 1, 3) := by decide +kernel
theorem dX6_whose_70 : decode cX6_whose 70 = .ok (.goto (-66), 3) := by decide +kernel
theorem dX6_whose_73 : decode cX6_whose 73 = .ok (.iload_n 1, 1) := by decide +kernel
theorem dX6_whose_74 : decode cX6_whose 74 = .ok (.ireturn, 1) := by decide +kernel
theorem dX6_more_0 : decode cX6_more 0 = .ok (.iload_n 0, 1) := by decide +kernel
theorem dX6_more_1 : decode cX6_more 1 = .ok (.tableswitch 73 2 4 #[27, 39, 51], 27) := by decide +kernel
theorem dX6_more_28 : decode cX6_more 28 = .ok (.iload_n 2, 1) := by decide +kernel
theorem dX6_more_29 : decode cX6_more 29 = .ok (.iconst 2, 1) := by decide +kernel
theorem dX6_more_30 : decode cX6_more 30 = .ok (.irem, 1) := by decide +kernel
theorem dX6_more_31 : decode cX6_more 31 = .ok (.ifCond .ne 7, 3) := by decide +kernel
theorem dX6_more_34 : decode cX6_more 34 = .ok (.iconst 1, 1) := by decide +kernel
theorem dX6_more_35 : decode cX6_more 35 = .ok (.goto 4, 3) := by decide +kernel
theorem dX6_more_38 : decode cX6_more 38 = .ok (.iconst 0, 1) := by decide +kernel
theorem dX6_more_39 : decode cX6_more 39 = .ok (.ireturn, 1) := by decide +kernel
theorem dX6_more_40 : decode cX6_more 40 = .ok (.iload_n 1, 1) := by decide +kernel
theorem dX6_more_41 : decode cX6_more 41 = .ok (.bipush 6, 2) := by decide +kernel
theorem dX6_more_43 : decode cX6_more 43 = .ok (.if_icmp .ge 7, 3) := by decide +kernel
theorem dX6_more_46 : decode cX6_more 46 = .ok (.iconst 1, 1) := by decide +kernel
theorem dX6_more_47 : decode cX6_more 47 = .ok (.goto 4, 3) := by decide +kernel
theorem dX6_more_50 : decode cX6_more 50 = .ok (.iconst 0, 1) := by decide +kernel
theorem dX6_more_51 : decode cX6_more 51 = .ok (.ireturn, 1) := by decide +kernel
theorem dX6_more_52 : decode cX6_more 52 = .ok (.iload_n 2, 1) := by decide +kernel
theorem dX6_more_53 : decode cX6_more 53 = .ok (.iconst 2, 1) := by decide +kernel
theorem dX6_more_54 : decode cX6_more 54 = .ok (.irem, 1) := by decide +kernel
theorem dX6_more_55 : decode cX6_more 55 = .ok (.ifCond .ne 7, 3) := by decide +kernel
theorem dX6_more_58 : decode cX6_more 58 = .ok (.iconst 1, 1) := by decide +kernel
theorem dX6_more_59 : decode cX6_more 59 = .ok (.goto 4, 3) := by decide +kernel
theorem dX6_more_62 : decode cX6_more 62 = .ok (.iconst 0, 1) := by decide +kernel
theorem dX6_more_63 : decode cX6_more 63 = .ok (.iload_n 3, 1) := by decide +kernel
theorem dX6_more_64 : decode cX6_more 64 = .ok (.ifCond .eq 7, 3) := by decide +kernel
theorem dX6_more_67 : decode cX6_more 67 = .ok (.iconst 1, 1) := by decide +kernel
theorem dX6_more_68 : decode cX6_more 68 = .ok (.goto 4, 3) := by decide +kernel
theorem dX6_more_71 : decode cX6_more 71 = .ok (.iconst 0, 1) := by decide +kernel
theorem dX6_more_72 : decode cX6_more 72 = .ok (.iadd, 1) := by decide +kernel
theorem dX6_more_73 : decode cX6_more 73 = .ok (.ireturn, 1) := by decide +kernel
theorem dX6_more_74 : decode cX6_more 74 = .ok (.iconst 1, 1) := by decide +kernel
theorem dX6_more_75 : decode cX6_more 75 = .ok (.ireturn, 1) := by decide +kernel
theorem dX6_goHour_0 : decode cX6_goHour 0 = .ok (.aload_n 0, 1) := by decide +kernel
theorem dX6_goHour_1 : decode cX6_goHour 1 = .ok (.invokevirtual 92, 3) := by decide +kernel
theorem dX6_goHour_4 : decode cX6_goHour 4 = .ok (.istore_n 1, 1) := by decide +kernel
theorem dX6_goHour_5 : decode cX6_goHour 5 = .ok (.aload_n 0, 1) := by decide +kernel
theorem dX6_goHour_6 : decode cX6_goHour 6 = .ok (.dup, 1) := by decide +kernel
theorem dX6_goHour_7 : decode cX6_goHour 7 = .ok (.getfield 86, 3) := by decide +kernel
theorem dX6_goHour_10 : decode cX6_goHour 10 = .ok (.iconst 1, 1) := by decide +kernel
theorem dX6_goHour_11 : decode cX6_goHour 11 = .ok (.iadd, 1) := by decide +kernel
theorem dX6_goHour_12 : decode cX6_goHour 12 = .ok (.putfield 86, 3) := by decide +kernel
theorem dX6_goHour_15 : decode cX6_goHour 15 = .ok (.iload_n 1, 1) := by decide +kernel
theorem dX6_goHour_16 : decode cX6_goHour 16 = .ok (.iconst (-1), 1) := by decide +kernel
theorem dX6_goHour_17 : decode cX6_goHour 17 = .ok (.if_icmp .eq 26, 3) := by decide +kernel
theorem dX6_goHour_20 : decode cX6_goHour 20 = .ok (.aload_n 0, 1) := by decide +kernel
theorem dX6_goHour_21 : decode cX6_goHour 21 = .ok (.getfield 20, 3) := by decide +kernel
theorem dX6_goHour_24 : decode cX6_goHour 24 = .ok (.iload_n 1, 1) := by decide +kernel
theorem dX6_goHour_25 : decode cX6_goHour 25 = .ok (.dup2, 1) := by decide +kernel
theorem dX6_goHour_26 : decode cX6_goHour 26 = .ok (.iaload, 1) := by decide +kernel
theorem dX6_goHour_27 : decode cX6_goHour 27 = .ok (.iconst 1, 1) := by decide +kernel
theorem dX6_goHour_28 : decode cX6_goHour 28 = .ok (.iadd, 1) := by decide +kernel
theorem dX6_goHour_29 : decode cX6_goHour 29 = .ok (.iastore, 1) := by decide +kernel
theorem dX6_goHour_30 : decode cX6_goHour 30 = .ok (.aload_n 0, 1) := by decide +kernel
theorem dX6_goHour_31 : decode cX6_goHour 31 = .ok (.getfield 13, 3) := by decide +kernel
theorem dX6_goHour_34 : decode cX6_goHour 34 = .ok (.iload_n 1, 1) := by decide +kernel
theorem dX6_goHour_35 : decode cX6_goHour 35 = .ok (.dup2, 1) := by decide +kernel
theorem dX6_goHour_36 : decode cX6_goHour 36 = .ok (.iaload, 1) := by decide +kernel
theorem dX6_goHour_37 : decode cX6_goHour 37 = .ok (.aload_n 0, 1) := by decide +kernel
theorem dX6_goHour_38 : decode cX6_goHour 38 = .ok (.getfield 80, 3) := by decide +kernel
theorem dX6_goHour_41 : decode cX6_goHour 41 = .ok (.iadd, 1) := by decide +kernel
theorem dX6_goHour_42 : decode cX6_goHour 42 = .ok (.iastore, 1) := by decide +kernel
theorem dX6_goHour_43 : decode cX6_goHour 43 = .ok (.iconst 0, 1) := by decide +kernel
theorem dX6_goHour_44 : decode cX6_goHour 44 = .ok (.istore_n 2, 1) := by decide +kernel
theorem dX6_goHour_45 : decode cX6_goHour 45 = .ok (.iload_n 2, 1) := by decide +kernel
theorem dX6_goHour_46 : decode cX6_goHour 46 = .ok (.aload_n 0, 1) := by decide +kernel
theorem dX6_goHour_47 : decode cX6_goHour 47 = .ok (.getfield 77, 3) := by decide +kernel
theorem dX6_goHour_50 : decode cX6_goHour 50 = .ok (.if_icmp .ge 117, 3) := by decide +kernel
theorem dX6_goHour_53 : decode cX6_goHour 53 = .ok (.aload_n 0, 1) := by decide +kernel
theorem dX6_goHour_54 : decode cX6_goHour 54 = .ok (.getfield 13, 3) := by decide +kernel
theorem dX6_goHour_57 : decode cX6_goHour 57 = .ok (.iload_n 2, 1) := by decide +kernel
theorem dX6_goHour_58 : decode cX6_goHour 58 = .ok (.iaload, 1) := by decide +kernel
theorem dX6_goHour_59 : decode cX6_goHour 59 = .ok (.istore_n 3, 1) := by decide +kernel
theorem dX6_goHour_60 : decode cX6_goHour 60 = .ok (.aload_n 0, 1) := by decide +kernel
theorem dX6_goHour_61 : decode cX6_goHour 61 = .ok (.getfield 16, 3) := by decide +kernel
theorem dX6_goHour_64 : decode cX6_goHour 64 = .ok (.iload_n 2, 1) := by decide +kernel
theorem dX6_goHour_65 : decode cX6_goHour 65 = .ok (.baload, 1) := by decide +kernel
theorem dX6_goHour_66 : decode cX6_goHour 66 = .ok (.ifCond .eq 9, 3) := by decide +kernel
theorem dX6_goHour_69 : decode cX6_goHour 69 = .ok (.iload_n 3, 1) := by decide +kernel
theorem dX6_goHour_70 : decode cX6_goHour 70 = .ok (.iconst 3, 1) := by decide +kernel
theorem dX6_goHour_71 : decode cX6_goHour 71 = .ok (.isub, 1) := by decide +kernel
theorem dX6_goHour_72 : decode cX6_goHour 72 = .ok (.goto 29, 3) := by decide +kernel
theorem dX6_goHour_75 : decode cX6_goHour 75 = .ok (.iload_n 3, 1) := by decide +kernel
theorem dX6_goHour_76 : decode cX6_goHour 76 = .ok (.aload_n 0, 1) := by decide +kernel
theorem dX6_goHour_77 : decode cX6_goHour 77 = .ok (.getfield 7, 3) := by decide +kernel
theorem dX6_goHour_80 : decode cX6_goHour 80 = .ok (.iload_n 2, 1) := by decide +kernel
theorem dX6_goHour_81 : decode cX6_goHour 81 = .ok (.iaload, 1) := by decide +kernel
theorem dX6_goHour_82 : decode cX6_goHour 82 = .ok (.iload_n 3, 1) := by decide +kernel
theorem dX6_goHour_83 : decode cX6_goHour 83 = .ok (.aload_n 0, 1) := by decide +kernel
theorem dX6_goHour_84 : decode cX6_goHour 84 = .ok (.getfield 86, 3) := by decide +kernel
theorem dX6_goHour_87 : decode cX6_goHour 87 = .ok (.iload_n 2, 1) := by decide +kernel
theorem dX6_goHour_88 : decode cX6_goHour 88 = .ok (.iload_n 1, 1) := by decide +kernel
theorem dX6_goHour_89 : decode cX6_goHour 89 = .ok (.if_icmp .ne 7, 3) := by decide +kernel
theorem dX6_goHour_92 : decode cX6_goHour 92 = .ok (.iconst 1, 1) := by decide +kernel
theorem dX6_goHour_93 : decode cX6_goHour 93 = .ok (.goto 4, 3) := by decide +kernel
theorem dX6_goHour_96 : decode cX6_goHour 96 = .ok (.iconst 0, 1) := by decide +kernel
theorem dX6_goHour_97 : decode cX6_goHour 97 = .ok (.invokestatic 95, 3) := by decide +kernel
theorem dX6_goHour_100 : decode cX6_goHour 100 = .ok (.iadd, 1) := by decide +kernel
theorem dX6_goHour_101 : decode cX6_goHour 101 = .ok (.istore_n 3, 1) := by decide +kernel
theorem dX6_goHour_102 : decode cX6_goHour 102 = .ok (.iload_n 3, 1) := by decide +kernel
theorem dX6_goHour_103 : decode cX6_goHour 103 = .ok (.ifCond .ge 7, 3) := by decide +kernel
theorem dX6_goHour_106 : decode cX6_goHour 106 = .ok (.iconst 0, 1) := by decide +kernel
theorem dX6_goHour_107 : decode cX6_goHour 107 = .ok (.goto 15, 3) := by decide +kernel
theorem dX6_goHour_110 : decode cX6_goHour 110 = .ok (.iload_n 3, 1) := by decide +kernel
theorem dX6_goHour_111 : decode cX6_goHour 111 = .ok (.bipush 10, 2) := by decide +kernel
theorem dX6_goHour_113 : decode cX6_goHour 113 = .ok (.if_icmp .le 8, 3) := by decide +kernel
theorem dX6_goHour_116 : decode cX6_goHour 116 = .ok (.bipush 10, 2) := by decide +kernel
theorem dX6_goHour_118 : decode cX6_goHour 118 = .ok (.goto 4, 3) := by decide +kernel
theorem dX6_goHour_121 : decode cX6_goHour 121 = .ok (.iload_n 3, 1) := by decide +kernel
theorem dX6_goHour_122 : decode cX6_goHour 122 = .ok (.istore_n 3, 1) := by decide +kernel
theorem dX6_goHour_123 : decode cX6_goHour 123 = .ok (.aload_n 0, 1) := by decide +kernel
theorem dX6_goHour_124 : decode cX6_goHour 124 = .ok (.getfield 13, 3) := by decide +kernel
theorem dX6_goHour_127 : decode cX6_goHour 127 = .ok (.iload_n 2, 1) := by decide +kernel
theorem dX6_goHour_128 : decode cX6_goHour 128 = .ok (.iload_n 3, 1) := by decide +kernel
theorem dX6_goHour_129 : decode cX6_goHour 129 = .ok (.iastore, 1) := by decide +kernel
theorem dX6_goHour_130 : decode cX6_goHour 130 = .ok (.aload_n 0, 1) := by decide +kernel
theorem dX6_goHour_131 : decode cX6_goHour 131 = .ok (.getfield 16, 3) := by decide +kernel
theorem dX6_goHour_134 : decode cX6_goHour 134 = .ok (.iload_n 2, 1) := by decide +kernel
theorem dX6_goHour_135 : decode cX6_goHour 135 = .ok (.iload_n 3, 1) := by decide +kernel
theorem dX6_goHour_136 : decode cX6_goHour 136 = .ok (.bipush 10, 2) := by decide +kernel
theorem dX6_goHour_138 : decode cX6_goHour 138 = .ok (.if_icmp .eq 17, 3) := by decide +kernel
theorem dX6_goHour_141 : decode cX6_goHour 141 = .ok (.aload_n 0, 1) := by decide +kernel
theorem dX6_goHour_142 : decode cX6_goHour 142 = .ok (.getfield 16, 3) := by decide +kernel
theorem dX6_goHour_145 : decode cX6_goHour 145 = .ok (.iload_n 2, 1) := by decide +kernel
theorem dX6_goHour_146 : decode cX6_goHour 146 = .ok (.baload, 1) := by decide +kernel
theorem dX6_goHour_147 : decode cX6_goHour 147 = .ok (.ifCond .eq 12, 3) := by decide +kernel
theorem dX6_goHour_150 : decode cX6_goHour 150 = .ok (.iload_n 3, 1) := by decide +kernel
theorem dX6_goHour_151 : decode cX6_goHour 151 = .ok (.iconst 2, 1) := by decide +kernel
theorem dX6_goHour_152 : decode cX6_goHour 152 = .ok (.if_icmp .le 7, 3) := by decide +kernel
theorem dX6_goHour_155 : decode cX6_goHour 155 = .ok (.iconst 1, 1) := by decide +kernel
theorem dX6_goHour_156 : decode cX6_goHour 156 = .ok (.goto 4, 3) := by decide +kernel
theorem dX6_goHour_159 : decode cX6_goHour 159 = .ok (.iconst 0, 1) := by decide +kernel
theorem dX6_goHour_160 : decode cX6_goHour 160 = .ok (.bastore, 1) := by decide +kernel
theorem dX6_goHour_161 : decode cX6_goHour 161 = .ok (.iinc 2 1, 3) := by decide +kernel
theorem dX6_goHour_164 : decode cX6_goHour 164 = .ok (.goto (-119), 3) := by decide +kernel
theorem dX6_goHour_167 : decode cX6_goHour 167 = .ok (.return_, 1) := by decide +kernel
theorem dX6_sleeping_0 : decode cX6_sleeping 0 = .ok (.iconst 0, 1) := by decide +kernel
theorem dX6_sleeping_1 : decode cX6_sleeping 1 = .ok (.istore_n 1, 1) := by decide +kernel
theorem dX6_sleeping_2 : decode cX6_sleeping 2 = .ok (.iconst 0, 1) := by decide +kernel
theorem dX6_sleeping_3 : decode cX6_sleeping 3 = .ok (.istore_n 2, 1) := by decide +kernel
theorem dX6_sleeping_4 : decode cX6_sleeping 4 = .ok (.iload_n 2, 1) := by decide +kernel
theorem dX6_sleeping_5 : decode cX6_sleeping 5 = .ok (.aload_n 0, 1) := by decide +kernel
theorem dX6_sleeping_6 : decode cX6_sleeping 6 = .ok (.getfield 77, 3) := by decide +kernel
theorem dX6_sleeping_9 : decode cX6_sleeping 9 = .ok (.if_icmp .ge 26, 3) := by decide +kernel
theorem dX6_sleeping_12 : decode cX6_sleeping 12 = .ok (.iload_n 1, 1) := by decide +kernel
theorem dX6_sleeping_13 : decode cX6_sleeping 13 = .ok (.aload_n 0, 1) := by decide +kernel
theorem dX6_sleeping_14 : decode cX6_sleeping 14 = .ok (.getfield 16, 3) := by decide +kernel
theorem dX6_sleeping_17 : decode cX6_sleeping 17 = .ok (.iload_n 2, 1) := by decide +kernel
theorem dX6_sleeping_18 : decode cX6_sleeping 18 = .ok (.baload, 1) := by decide +kernel
theorem dX6_sleeping_19 : decode cX6_sleeping 19 = .ok (.ifCond .eq 7, 3) := by decide +kernel
theorem dX6_sleeping_22 : decode cX6_sleeping 22 = .ok (.iconst 1, 1) := by decide +kernel
theorem dX6_sleeping_23 : decode cX6_sleeping 23 = .ok (.goto 4, 3) := by decide +kernel
theorem dX6_sleeping_26 : decode cX6_sleeping 26 = .ok (.iconst 0, 1) := by decide +kernel
theorem dX6_sleeping_27 : decode cX6_sleeping 27 = .ok (.iadd, 1) := by decide +kernel
theorem dX6_sleeping_28 : decode cX6_sleeping 28 = .ok (.istore_n 1, 1) := by decide +kernel
theorem dX6_sleeping_29 : decode cX6_sleeping 29 = .ok (.iinc 2 1, 3) := by decide +kernel
theorem dX6_sleeping_32 : decode cX6_sleeping 32 = .ok (.goto (-28), 3) := by decide +kernel
theorem dX6_sleeping_35 : decode cX6_sleeping 35 = .ok (.iload_n 1, 1) := by decide +kernel
theorem dX6_sleeping_36 : decode cX6_sleeping 36 = .ok (.ireturn, 1) := by decide +kernel
theorem dX6_drink_0 : decode cX6_drink 0 = .ok (.aload_n 0, 1) := by decide +kernel
theorem dX6_drink_1 : decode cX6_drink 1 = .ok (.getfield 16, 3) := by decide +kernel
theorem dX6_drink_4 : decode cX6_drink 4 = .ok (.iload_n 1, 1) := by decide +kernel
theorem dX6_drink_5 : decode cX6_drink 5 = .ok (.baload, 1) := by decide +kernel
theorem dX6_drink_6 : decode cX6_drink 6 = .ok (.ifCond .ne 31, 3) := by decide +kernel
theorem dX6_drink_9 : decode cX6_drink 9 = .ok (.aload_n 0, 1) := by decide +kernel
theorem dX6_drink_10 : decode cX6_drink 10 = .ok (.getfield 13, 3) := by decide +kernel
theorem dX6_drink_13 : decode cX6_drink 13 = .ok (.iload_n 1, 1) := by decide +kernel
theorem dX6_drink_14 : decode cX6_drink 14 = .ok (.aload_n 0, 1) := by decide +kernel
theorem dX6_drink_15 : decode cX6_drink 15 = .ok (.getfield 13, 3) := by decide +kernel
theorem dX6_drink_18 : decode cX6_drink 18 = .ok (.iload_n 1, 1) := by decide +kernel
theorem dX6_drink_19 : decode cX6_drink 19 = .ok (.iaload, 1) := by decide +kernel
theorem dX6_drink_20 : decode cX6_drink 20 = .ok (.iconst 3, 1) := by decide +kernel
theorem dX6_drink_21 : decode cX6_drink 21 = .ok (.if_icmp .ge 7, 3) := by decide +kernel
theorem dX6_drink_24 : decode cX6_drink 24 = .ok (.iconst 0, 1) := by decide +kernel
theorem dX6_drink_25 : decode cX6_drink 25 = .ok (.goto 11, 3) := by decide +kernel
theorem dX6_drink_28 : decode cX6_drink 28 = .ok (.aload_n 0, 1) := by decide +kernel
theorem dX6_drink_29 : decode cX6_drink 29 = .ok (.getfield 13, 3) := by decide +kernel
theorem dX6_drink_32 : decode cX6_drink 32 = .ok (.iload_n 1, 1) := by decide +kernel
theorem dX6_drink_33 : decode cX6_drink 33 = .ok (.iaload, 1) := by decide +kernel
theorem dX6_drink_34 : decode cX6_drink 34 = .ok (.iconst 3, 1) := by decide +kernel
theorem dX6_drink_35 : decode cX6_drink 35 = .ok (.isub, 1) := by decide +kernel
theorem dX6_drink_36 : decode cX6_drink 36 = .ok (.iastore, 1) := by decide +kernel
theorem dX6_drink_37 : decode cX6_drink 37 = .ok (.return_, 1) := by decide +kernel
theorem dX6_hearLecture_0 : decode cX6_hearLecture 0 = .ok (.aload_n 0, 1) := by decide +kernel
theorem dX6_hearLecture_1 : decode cX6_hearLecture 1 = .ok (.getfield 16, 3) := by decide +kernel
theorem dX6_hearLecture_4 : decode cX6_hearLecture 4 = .ok (.iload_n 1, 1) := by decide +kernel
theorem dX6_hearLecture_5 : decode cX6_hearLecture 5 = .ok (.baload, 1) := by decide +kernel
theorem dX6_hearLecture_6 : decode cX6_hearLecture 6 = .ok (.ifCond .ne 57, 3) := by decide +kernel
theorem dX6_hearLecture_9 : decode cX6_hearLecture 9 = .ok (.aload_n 0, 1) := by decide +kernel
theorem dX6_hearLecture_10 : decode cX6_hearLecture 10 = .ok (.getfield 13, 3) := by decide +kernel
theorem dX6_hearLecture_13 : decode cX6_hearLecture 13 = .ok (.iload_n 1, 1) := by decide +kernel
theorem dX6_hearLecture_14 : decode cX6_hearLecture 14 = .ok (.aload_n 0, 1) := by decide +kernel
theorem dX6_hearLecture_15 : decode cX6_hearLecture 15 = .ok (.getfield 13, 3) := by decide +kernel
theorem dX6_hearLecture_18 : decode cX6_hearLecture 18 = .ok (.iload_n 1, 1) := by decide +kernel
theorem dX6_hearLecture_19 : decode cX6_hearLecture 19 = .ok (.iaload, 1) := by decide +kernel
theorem dX6_hearLecture_20 : decode cX6_hearLecture 20 = .ok (.iconst 2, 1) := by decide +kernel
theorem dX6_hearLecture_21 : decode cX6_hearLecture 21 = .ok (.iadd, 1) := by decide +kernel
theorem dX6_hearLecture_22 : decode cX6_hearLecture 22 = .ok (.bipush 10, 2) := by decide +kernel
theorem dX6_hearLecture_24 : decode cX6_hearLecture 24 = .ok (.if_icmp .le 8, 3) := by decide +kernel
theorem dX6_hearLecture_27 : decode cX6_hearLecture 27 = .ok (.bipush 10, 2) := by decide +kernel
theorem dX6_hearLecture_29 : decode cX6_hearLecture 29 = .ok (.goto 11, 3) := by decide +kernel
theorem dX6_hearLecture_32 : decode cX6_hearLecture 32 = .ok (.aload_n 0, 1) := by decide +kernel
theorem dX6_hearLecture_33 : decode cX6_hearLecture 33 = .ok (.getfield 13, 3) := by decide +kernel
theorem dX6_hearLecture_36 : decode cX6_hearLecture 36 = .ok (.iload_n 1, 1) := by decide +kernel
theorem dX6_hearLecture_37 : decode cX6_hearLecture 37 = .ok (.iaload, 1) := by decide +kernel
theorem dX6_hearLecture_38 : decode cX6_hearLecture 38 = .ok (.iconst 2, 1) := by decide +kernel
theorem dX6_hearLecture_39 : decode cX6_hearLecture 39 = .ok (.iadd, 1) := by decide +kernel
theorem dX6_hearLecture_40 : decode cX6_hearLecture 40 = .ok (.iastore, 1) := by decide +kernel
theorem dX6_hearLecture_41 : decode cX6_hearLecture 41 = .ok (.aload_n 0, 1) := by decide +kernel
theorem dX6_hearLecture_42 : decode cX6_hearLecture 42 = .ok (.getfield 16, 3) := by decide +kernel
theorem dX6_hearLecture_45 : decode cX6_hearLecture 45 = .ok (.iload_n 1, 1) := by decide +kernel
theorem dX6_hearLecture_46 : decode cX6_hearLecture 46 = .ok (.aload_n 0, 1) := by decide +kernel
theorem dX6_hearLecture_47 : decode cX6_hearLecture 47 = .ok (.getfield 13, 3) := by decide +kernel
theorem dX6_hearLecture_50 : decode cX6_hearLecture 50 = .ok (.iload_n 1, 1) := by decide +kernel
theorem dX6_hearLecture_51 : decode cX6_hearLecture 51 = .ok (.iaload, 1) := by decide +kernel
theorem dX6_hearLecture_52 : decode cX6_hearLecture 52 = .ok (.bipush 10, 2) := by decide +kernel
theorem dX6_hearLecture_54 : decode cX6_hearLecture 54 = .ok (.if_icmp .ne 7, 3) := by decide +kernel
theorem dX6_hearLecture_57 : decode cX6_hearLecture 57 = .ok (.iconst 1, 1) := by decide +kernel
theorem dX6_hearLecture_58 : decode cX6_hearLecture 58 = .ok (.goto 4, 3) := by decide +kernel
theorem dX6_hearLecture_61 : decode cX6_hearLecture 61 = .ok (.iconst 0, 1) := by decide +kernel
theorem dX6_hearLecture_62 : decode cX6_hearLecture 62 = .ok (.bastore, 1) := by decide +kernel
theorem dX6_hearLecture_63 : decode cX6_hearLecture 63 = .ok (.return_, 1) := by decide +kernel
theorem dX6_save_0 : decode cX6_save 0 = .ok (.iconst 0, 1) := by decide +kernel
theorem dX6_save_1 : decode cX6_save 1 = .ok (.istore_n 2, 1) := by decide +kernel
theorem dX6_save_2 : decode cX6_save 2 = .ok (.iload_n 2, 1) := by decide +kernel
theorem dX6_save_3 : decode cX6_save 3 = .ok (.iconst 5, 1) := by decide +kernel
theorem dX6_save_4 : decode cX6_save 4 = .ok (.if_icmp .ge 53, 3) := by decide +kernel
theorem dX6_save_7 : decode cX6_save 7 = .ok (.aload_n 0, 1) := by decide +kernel
theorem dX6_save_8 : decode cX6_save 8 = .ok (.getfield 33, 3) := by decide +kernel
theorem dX6_save_11 : decode cX6_save 11 = .ok (.bipush 11, 2) := by decide +kernel
theorem dX6_save_13 : decode cX6_save 13 = .ok (.iload_n 1, 1) := by decide +kernel
theorem dX6_save_14 : decode cX6_save 14 = .ok (.imul, 1) := by decide +kernel
theorem dX6_save_15 : decode cX6_save 15 = .ok (.iload_n 2, 1) := by decide +kernel
theorem dX6_save_16 : decode cX6_save 16 = .ok (.iadd, 1) := by decide +kernel
theorem dX6_save_17 : decode cX6_save 17 = .ok (.aload_n 0, 1) := by decide +kernel
theorem dX6_save_18 : decode cX6_save 18 = .ok (.getfield 13, 3) := by decide +kernel
theorem dX6_save_21 : decode cX6_save 21 = .ok (.iload_n 2, 1) := by decide +kernel
theorem dX6_save_22 : decode cX6_save 22 = .ok (.iaload, 1) := by decide +kernel
theorem dX6_save_23 : decode cX6_save 23 = .ok (.iastore, 1) := by decide +kernel
theorem dX6_save_24 : decode cX6_save 24 = .ok (.aload_n 0, 1) := by decide +kernel
theorem dX6_save_25 : decode cX6_save 25 = .ok (.getfield 33, 3) := by decide +kernel
theorem dX6_save_28 : decode cX6_save 28 = .ok (.bipush 11, 2) := by decide +kernel
theorem dX6_save_30 : decode cX6_save 30 = .ok (.iload_n 1, 1) := by decide +kernel
theorem dX6_save_31 : decode cX6_save 31 = .ok (.imul, 1) := by decide +kernel
theorem dX6_save_32 : decode cX6_save 32 = .ok (.iconst 5, 1) := by decide +kernel
theorem dX6_save_33 : decode cX6_save 33 = .ok (.iadd, 1) := by decide +kernel
theorem dX6_save_34 : decode cX6_save 34 = .ok (.iload_n 2, 1) := by decide +kernel
theorem dX6_save_35 : decode cX6_save 35 = .ok (.iadd, 1) := by decide +kernel
theorem dX6_save_36 : decode cX6_save 36 = .ok (.aload_n 0, 1) := by decide +kernel
theorem dX6_save_37 : decode cX6_save 37 = .ok (.getfield 16, 3) := by decide +kernel
theorem dX6_save_40 : decode cX6_save 40 = .ok (.iload_n 2, 1) := by decide +kernel
theorem dX6_save_41 : decode cX6_save 41 = .ok (.baload, 1) := by decide +kernel
theorem dX6_save_42 : decode cX6_save 42 = .ok (.ifCond .eq 7, 3) := by decide +kernel
theorem dX6_save_45 : decode cX6_save 45 = .ok (.iconst 1, 1) := by decide +kernel
theorem dX6_save_46 : decode cX6_save 46 = .ok (.goto 4, 3) := by decide +kernel
theorem dX6_save_49 : decode cX6_save 49 = .ok (.iconst 0, 1) := by decide +kernel
theorem dX6_save_50 : decode cX6_save 50 = .ok (.iastore, 1) := by decide +kernel
theorem dX6_save_51 : decode cX6_save 51 = .ok (.iinc 2 1, 3) := by decide +kernel
theorem dX6_save_54 : decode cX6_save 54 = .ok (.goto (-52), 3) := by decide +kernel
theorem dX6_save_57 : decode cX6_save 57 = .ok (.aload_n 0, 1) := by decide +kernel
theorem dX6_save_58 : decode cX6_save 58 = .ok (.getfield 33, 3) := by decide +kernel
theorem dX6_save_61 : decode cX6_save 61 = .ok (.bipush 11, 2) := by decide +kernel
theorem dX6_save_63 : decode cX6_save 63 = .ok (.iload_n 1, 1) := by decide +kernel
theorem dX6_save_64 : decode cX6_save 64 = .ok (.imul, 1) := by decide +kernel
theorem dX6_save_65 : decode cX6_save 65 = .ok (.bipush 10, 2) := by decide +kernel
theorem dX6_save_67 : decode cX6_save 67 = .ok (.iadd, 1) := by decide +kernel
theorem dX6_save_68 : decode cX6_save 68 = .ok (.aload_n 0, 1) := by decide +kernel
theorem dX6_save_69 : decode cX6_save 69 = .ok (.getfield 86, 3) := by decide +kernel
theorem dX6_save_72 : decode cX6_save 72 = .ok (.iastore, 1) := by decide +kernel
theorem dX6_save_73 : decode cX6_save 73 = .ok (.return_, 1) := by decide +kernel
theorem dX6_load_0 : decode cX6_load 0 = .ok (.iconst 0, 1) := by decide +kernel
theorem dX6_load_1 : decode cX6_load 1 = .ok (.istore_n 2, 1) := by decide +kernel
theorem dX6_load_2 : decode cX6_load 2 = .ok (.iload_n 2, 1) := by decide +kernel
theorem dX6_load_3 : decode cX6_load 3 = .ok (.iconst 5, 1) := by decide +kernel
theorem dX6_load_4 : decode cX6_load 4 = .ok (.if_icmp .ge 54, 3) := by decide +kernel
theorem dX6_load_7 : decode cX6_load 7 = .ok (.aload_n 0, 1) := by decide +kernel
theorem dX6_load_8 : decode cX6_load 8 = .ok (.getfield 13, 3) := by decide +kernel
theorem dX6_load_11 : decode cX6_load 11 = .ok (.iload_n 2, 1) := by decide +kernel
theorem dX6_load_12 : decode cX6_load 12 = .ok (.aload_n 0, 1) := by decide +kernel
theorem dX6_load_13 : decode cX6_load 13 = .ok (.getfield 33, 3) := by decide +kernel
theorem dX6_load_16 : decode cX6_load 16 = .ok (.bipush 11, 2) := by decide +kernel
theorem dX6_load_18 : decode cX6_load 18 = .ok (.iload_n 1, 1) := by decide +kernel
theorem dX6_load_19 : decode cX6_load 19 = .ok (.imul, 1) := by decide +kernel
theorem dX6_load_20 : decode cX6_load 20 = .ok (.iload_n 2, 1) := by decide +kernel
theorem dX6_load_21 : decode cX6_load 21 = .ok (.iadd, 1) := by decide +kernel
theorem dX6_load_22 : decode cX6_load 22 = .ok (.iaload, 1) := by decide +kernel
theorem dX6_load_23 : decode cX6_load 23 = .ok (.iastore, 1) := by decide +kernel
theorem dX6_load_24 : decode cX6_load 24 = .ok (.aload_n 0, 1) := by decide +kernel
theorem dX6_load_25 : decode cX6_load 25 = .ok (.getfield 16, 3) := by decide +kernel
theorem dX6_load_28 : decode cX6_load 28 = .ok (.iload_n 2, 1) := by decide +kernel
theorem dX6_load_29 : decode cX6_load 29 = .ok (.aload_n 0, 1) := by decide +kernel
theorem dX6_load_30 : decode cX6_load 30 = .ok (.getfield 33, 3) := by decide +kernel
theorem dX6_load_33 : decode cX6_load 33 = .ok (.bipush 11, 2) := by decide +kernel
theorem dX6_load_35 : decode cX6_load 35 = .ok (.iload_n 1, 1) := by decide +kernel
theorem dX6_load_36 : decode cX6_load 36 = .ok (.imul, 1) := by decide +kernel
theorem dX6_load_37 : decode cX6_load 37 = .ok (.iconst 5, 1) := by decide +kernel
theorem dX6_load_38 : decode cX6_load 38 = .ok (.iadd, 1) := by decide +kernel
theorem dX6_load_39 : decode cX6_load 39 = .ok (.iload_n 2, 1) := by decide +kernel
theorem dX6_load_40 : decode cX6_load 40 = .ok (.iadd, 1) := by decide +kernel
theorem dX6_load_41 : decode cX6_load 41 = .ok (.iaload, 1) := by decide +kernel
theorem dX6_load_42 : decode cX6_load 42 = .ok (.iconst 1, 1) := by decide +kernel
theorem dX6_load_43 : decode cX6_load 43 = .ok (.if_icmp .ne 7, 3) := by decide +kernel
theorem dX6_load_46 : decode cX6_load 46 = .ok (.iconst 1, 1) := by decide +kernel
theorem dX6_load_47 : decode cX6_load 47 = .ok (.goto 4, 3) := by decide +kernel
theorem dX6_load_50 : decode cX6_load 50 = .ok (.iconst 0, 1) := by decide +kernel
theorem dX6_load_51 : decode cX6_load 51 = .ok (.bastore, 1) := by decide +kernel
theorem dX6_load_52 : decode cX6_load 52 = .ok (.iinc 2 1, 3) := by decide +kernel
theorem dX6_load_55 : decode cX6_load 55 = .ok (.goto (-53), 3) := by decide +kernel
theorem dX6_load_58 : decode cX6_load 58 = .ok (.aload_n 0, 1) := by decide +kernel
theorem dX6_load_59 : decode cX6_load 59 = .ok (.aload_n 0, 1) := by decide +kernel
theorem dX6_load_60 : decode cX6_load 60 = .ok (.getfield 33, 3) := by decide +kernel
theorem dX6_load_63 : decode cX6_load 63 = .ok (.bipush 11, 2) := by decide +kernel
theorem dX6_load_65 : decode cX6_load 65 = .ok (.iload_n 1, 1) := by decide +kernel
theorem dX6_load_66 : decode cX6_load 66 = .ok (.imul, 1) := by decide +kernel
theorem dX6_load_67 : decode cX6_load 67 = .ok (.bipush 10, 2) := by decide +kernel
theorem dX6_load_69 : decode cX6_load 69 = .ok (.iadd, 1) := by decide +kernel
theorem dX6_load_70 : decode cX6_load 70 = .ok (.iaload, 1) := by decide +kernel
theorem dX6_load_71 : decode cX6_load 71 = .ok (.putfield 86, 3) := by decide +kernel
theorem dX6_load_74 : decode cX6_load 74 = .ok (.return_, 1) := by decide +kernel
theorem dX6_begin_0 : decode cX6_begin 0 = .ok (.aload_n 0, 1) := by decide +kernel
theorem dX6_begin_1 : decode cX6_begin 1 = .ok (.iconst 0, 1) := by decide +kernel
theorem dX6_begin_2 : decode cX6_begin 2 = .ok (.invokevirtual 99, 3) := by decide +kernel
theorem dX6_begin_5 : decode cX6_begin 5 = .ok (.iconst 0, 1) := by decide +kernel
theorem dX6_begin_6 : decode cX6_begin 6 = .ok (.istore_n 1, 1) := by decide +kernel
theorem dX6_begin_7 : decode cX6_begin 7 = .ok (.iload_n 1, 1) := by decide +kernel
theorem dX6_begin_8 : decode cX6_begin 8 = .ok (.iconst 5, 1) := by decide +kernel
theorem dX6_begin_9 : decode cX6_begin 9 = .ok (.if_icmp .ge 21, 3) := by decide +kernel
theorem dX6_begin_12 : decode cX6_begin 12 = .ok (.aload_n 0, 1) := by decide +kernel
theorem dX6_begin_13 : decode cX6_begin 13 = .ok (.getfield 36, 3) := by decide +kernel
theorem dX6_begin_16 : decode cX6_begin 16 = .ok (.iload_n 1, 1) := by decide +kernel
theorem dX6_begin_17 : decode cX6_begin 17 = .ok (.aload_n 0, 1) := by decide +kernel
theorem dX6_begin_18 : decode cX6_begin 18 = .ok (.getfield 20, 3) := by decide +kernel
theorem dX6_begin_21 : decode cX6_begin 21 = .ok (.iload_n 1, 1) := by decide +kernel
theorem dX6_begin_22 : decode cX6_begin 22 = .ok (.iaload, 1) := by decide +kernel
theorem dX6_begin_23 : decode cX6_begin 23 = .ok (.iastore, 1) := by decide +kernel
theorem dX6_begin_24 : decode cX6_begin 24 = .ok (.iinc 1 1, 3) := by decide +kernel
theorem dX6_begin_27 : decode cX6_begin 27 = .ok (.goto (-20), 3) := by decide +kernel
theorem dX6_begin_30 : decode cX6_begin 30 = .ok (.return_, 1) := by decide +kernel
theorem dX6_end_0 : decode cX6_end 0 = .ok (.aload_n 0, 1) := by decide +kernel
theorem dX6_end_1 : decode cX6_end 1 = .ok (.iconst 0, 1) := by decide +kernel
theorem dX6_end_2 : decode cX6_end 2 = .ok (.invokevirtual 103, 3) := by decide +kernel
theorem dX6_end_5 : decode cX6_end 5 = .ok (.iconst 0, 1) := by decide +kernel
theorem dX6_end_6 : decode cX6_end 6 = .ok (.istore_n 1, 1) := by decide +kernel
theorem dX6_end_7 : decode cX6_end 7 = .ok (.iload_n 1, 1) := by decide +kernel
theorem dX6_end_8 : decode cX6_end 8 = .ok (.iconst 5, 1) := by decide +kernel
theorem dX6_end_9 : decode cX6_end 9 = .ok (.if_icmp .ge 21, 3) := by decide +kernel
theorem dX6_end_12 : decode cX6_end 12 = .ok (.aload_n 0, 1) := by decide +kernel
theorem dX6_end_13 : decode cX6_end 13 = .ok (.getfield 20, 3) := by decide +kernel
theorem dX6_end_16 : decode cX6_end 16 = .ok (.iload_n 1, 1) := by decide +kernel
theorem dX6_end_17 : decode cX6_end 17 = .ok (.aload_n 0, 1) := by decide +kernel
end
section
theorem dX6_end_18 : decode cX6_end 18 = .ok (.getfield 36, 3) := by decide +kernel
theorem dX6_end_21 : decode cX6_end 21 = .ok (.iload_n 1, 1) := by decide +kernel
theorem dX6_end_22 : decode cX6_end 22 = .ok (.iaload, 1) := by decide +kernel
theorem dX6_end_23 : decode cX6_end 23 = .ok (.iastore, 1) := by decide +kernel
theorem dX6_end_24 : decode cX6_end 24 = .ok (.iinc 1 1, 3) := by decide +kernel
theorem dX6_end_27 : decode cX6_end 27 = .ok (.goto (-20), 3) := by decide +kernel
theorem dX6_end_30 : decode cX6_end 30 = .ok (.return_, 1) := by decide +kernel
theorem dX6_lodgerNow_0 : decode cX6_lodgerNow 0 = .ok (.iload_n 2, 1) := by decide +kernel
theorem dX6_lodgerNow_1 : decode cX6_lodgerNow 1 = .ok (.tableswitch 95 0 5 #[39, 46, 53, 68, 82, 89], 39) := by decide +kernel
theorem dX6_lodgerNow_40 : decode cX6_lodgerNow 40 = .ok (.aload_n 0, 1) := by decide +kernel
theorem dX6_lodgerNow_41 : decode cX6_lodgerNow 41 = .ok (.getfield 7, 3) := by decide +kernel
theorem dX6_lodgerNow_44 : decode cX6_lodgerNow 44 = .ok (.iload_n 1, 1) := by decide +kernel
theorem dX6_lodgerNow_45 : decode cX6_lodgerNow 45 = .ok (.iaload, 1) := by decide +kernel
theorem dX6_lodgerNow_46 : decode cX6_lodgerNow 46 = .ok (.ireturn, 1) := by decide +kernel
theorem dX6_lodgerNow_47 : decode cX6_lodgerNow 47 = .ok (.aload_n 0, 1) := by decide +kernel
theorem dX6_lodgerNow_48 : decode cX6_lodgerNow 48 = .ok (.getfield 13, 3) := by decide +kernel
theorem dX6_lodgerNow_51 : decode cX6_lodgerNow 51 = .ok (.iload_n 1, 1) := by decide +kernel
theorem dX6_lodgerNow_52 : decode cX6_lodgerNow 52 = .ok (.iaload, 1) := by decide +kernel
theorem dX6_lodgerNow_53 : decode cX6_lodgerNow 53 = .ok (.ireturn, 1) := by decide +kernel
theorem dX6_lodgerNow_54 : decode cX6_lodgerNow 54 = .ok (.aload_n 0, 1) := by decide +kernel
theorem dX6_lodgerNow_55 : decode cX6_lodgerNow 55 = .ok (.getfield 16, 3) := by decide +kernel
theorem dX6_lodgerNow_58 : decode cX6_lodgerNow 58 = .ok (.iload_n 1, 1) := by decide +kernel
theorem dX6_lodgerNow_59 : decode cX6_lodgerNow 59 = .ok (.baload, 1) := by decide +kernel
theorem dX6_lodgerNow_60 : decode cX6_lodgerNow 60 = .ok (.ifCond .eq 7, 3) := by decide +kernel
theorem dX6_lodgerNow_63 : decode cX6_lodgerNow 63 = .ok (.iconst 1, 1) := by decide +kernel
theorem dX6_lodgerNow_64 : decode cX6_lodgerNow 64 = .ok (.goto 4, 3) := by decide +kernel
theorem dX6_lodgerNow_67 : decode cX6_lodgerNow 67 = .ok (.iconst 0, 1) := by decide +kernel
theorem dX6_lodgerNow_68 : decode cX6_lodgerNow 68 = .ok (.ireturn, 1) := by decide +kernel
theorem dX6_lodgerNow_69 : decode cX6_lodgerNow 69 = .ok (.aload_n 0, 1) := by decide +kernel
theorem dX6_lodgerNow_70 : decode cX6_lodgerNow 70 = .ok (.invokevirtual 92, 3) := by decide +kernel
theorem dX6_lodgerNow_73 : decode cX6_lodgerNow 73 = .ok (.iload_n 1, 1) := by decide +kernel
theorem dX6_lodgerNow_74 : decode cX6_lodgerNow 74 = .ok (.if_icmp .ne 7, 3) := by decide +kernel
theorem dX6_lodgerNow_77 : decode cX6_lodgerNow 77 = .ok (.iconst 1, 1) := by decide +kernel
theorem dX6_lodgerNow_78 : decode cX6_lodgerNow 78 = .ok (.goto 4, 3) := by decide +kernel
theorem dX6_lodgerNow_81 : decode cX6_lodgerNow 81 = .ok (.iconst 0, 1) := by decide +kernel
theorem dX6_lodgerNow_82 : decode cX6_lodgerNow 82 = .ok (.ireturn, 1) := by decide +kernel
theorem dX6_lodgerNow_83 : decode cX6_lodgerNow 83 = .ok (.aload_n 0, 1) := by decide +kernel
theorem dX6_lodgerNow_84 : decode cX6_lodgerNow 84 = .ok (.getfield 20, 3) := by decide +kernel
theorem dX6_lodgerNow_87 : decode cX6_lodgerNow 87 = .ok (.iload_n 1, 1) := by decide +kernel
theorem dX6_lodgerNow_88 : decode cX6_lodgerNow 88 = .ok (.iaload, 1) := by decide +kernel
theorem dX6_lodgerNow_89 : decode cX6_lodgerNow 89 = .ok (.ireturn, 1) := by decide +kernel
theorem dX6_lodgerNow_90 : decode cX6_lodgerNow 90 = .ok (.aload_n 0, 1) := by decide +kernel
theorem dX6_lodgerNow_91 : decode cX6_lodgerNow 91 = .ok (.iload_n 1, 1) := by decide +kernel
theorem dX6_lodgerNow_92 : decode cX6_lodgerNow 92 = .ok (.invokevirtual 106, 3) := by decide +kernel
theorem dX6_lodgerNow_95 : decode cX6_lodgerNow 95 = .ok (.ireturn, 1) := by decide +kernel
theorem dX6_lodgerNow_96 : decode cX6_lodgerNow 96 = .ok (.aload_n 0, 1) := by decide +kernel
theorem dX6_lodgerNow_97 : decode cX6_lodgerNow 97 = .ok (.iload_n 1, 1) := by decide +kernel
theorem dX6_lodgerNow_98 : decode cX6_lodgerNow 98 = .ok (.invokevirtual 109, 3) := by decide +kernel
theorem dX6_lodgerNow_101 : decode cX6_lodgerNow 101 = .ok (.ireturn, 1) := by decide +kernel
theorem dX6_about_0 : decode cX6_about 0 = .ok (.aload_n 0, 1) := by decide +kernel
theorem dX6_about_1 : decode cX6_about 1 = .ok (.iload_n 1, 1) := by decide +kernel
theorem dX6_about_2 : decode cX6_about 2 = .ok (.invokevirtual 112, 3) := by decide +kernel
theorem dX6_about_5 : decode cX6_about 5 = .ok (.ifCond .ne 8, 3) := by decide +kernel
theorem dX6_about_8 : decode cX6_about 8 = .ok (.bipush (-101), 2) := by decide +kernel
theorem dX6_about_10 : decode cX6_about 10 = .ok (.goto 24, 3) := by decide +kernel
theorem dX6_about_13 : decode cX6_about 13 = .ok (.iload_n 2, 1) := by decide +kernel
theorem dX6_about_14 : decode cX6_about 14 = .ok (.iconst 0, 1) := by decide +kernel
theorem dX6_about_15 : decode cX6_about 15 = .ok (.bipush 6, 2) := by decide +kernel
theorem dX6_about_17 : decode cX6_about 17 = .ok (.invokestatic 51, 3) := by decide +kernel
theorem dX6_about_20 : decode cX6_about 20 = .ok (.ifCond .eq 12, 3) := by decide +kernel
theorem dX6_about_23 : decode cX6_about 23 = .ok (.aload_n 0, 1) := by decide +kernel
theorem dX6_about_24 : decode cX6_about 24 = .ok (.iload_n 1, 1) := by decide +kernel
theorem dX6_about_25 : decode cX6_about 25 = .ok (.iload_n 2, 1) := by decide +kernel
theorem dX6_about_26 : decode cX6_about 26 = .ok (.invokevirtual 116, 3) := by decide +kernel
theorem dX6_about_29 : decode cX6_about 29 = .ok (.goto 5, 3) := by decide +kernel
theorem dX6_about_32 : decode cX6_about 32 = .ok (.bipush (-102), 2) := by decide +kernel
theorem dX6_about_34 : decode cX6_about 34 = .ok (.ireturn, 1) := by decide +kernel
theorem dX6_as_0 : decode cX6_as 0 = .ok (.aload_n 0, 1) := by decide +kernel
theorem dX6_as_1 : decode cX6_as 1 = .ok (.iload_n 1, 1) := by decide +kernel
theorem dX6_as_2 : decode cX6_as 2 = .ok (.invokevirtual 112, 3) := by decide +kernel
theorem dX6_as_5 : decode cX6_as 5 = .ok (.ifCond .ne 6, 3) := by decide +kernel
theorem dX6_as_8 : decode cX6_as 8 = .ok (.bipush (-101), 2) := by decide +kernel
theorem dX6_as_10 : decode cX6_as 10 = .ok (.ireturn, 1) := by decide +kernel
theorem dX6_as_11 : decode cX6_as 11 = .ok (.iload_n 2, 1) := by decide +kernel
theorem dX6_as_12 : decode cX6_as 12 = .ok (.iconst 0, 1) := by decide +kernel
theorem dX6_as_13 : decode cX6_as 13 = .ok (.iconst 4, 1) := by decide +kernel
theorem dX6_as_14 : decode cX6_as 14 = .ok (.invokestatic 51, 3) := by decide +kernel
theorem dX6_as_17 : decode cX6_as 17 = .ok (.ifCond .ne 6, 3) := by decide +kernel
theorem dX6_as_20 : decode cX6_as 20 = .ok (.bipush (-102), 2) := by decide +kernel
theorem dX6_as_22 : decode cX6_as 22 = .ok (.ireturn, 1) := by decide +kernel
theorem dX6_as_23 : decode cX6_as 23 = .ok (.aload_n 0, 1) := by decide +kernel
theorem dX6_as_24 : decode cX6_as 24 = .ok (.getfield 7, 3) := by decide +kernel
theorem dX6_as_27 : decode cX6_as 27 = .ok (.iload_n 1, 1) := by decide +kernel
theorem dX6_as_28 : decode cX6_as 28 = .ok (.iaload, 1) := by decide +kernel
theorem dX6_as_29 : decode cX6_as 29 = .ok (.istore_n 3, 1) := by decide +kernel
theorem dX6_as_30 : decode cX6_as 30 = .ok (.iload_n 2, 1) := by decide +kernel
theorem dX6_as_31 : decode cX6_as 31 = .ok (.ifCond .eq 18, 3) := by decide +kernel
theorem dX6_as_34 : decode cX6_as 34 = .ok (.iload_n 3, 1) := by decide +kernel
theorem dX6_as_35 : decode cX6_as 35 = .ok (.iload_n 2, 1) := by decide +kernel
theorem dX6_as_36 : decode cX6_as 36 = .ok (.if_icmp .eq 13, 3) := by decide +kernel
theorem dX6_as_39 : decode cX6_as 39 = .ok (.iload_n 2, 1) := by decide +kernel
theorem dX6_as_40 : decode cX6_as 40 = .ok (.iconst 2, 1) := by decide +kernel
theorem dX6_as_41 : decode cX6_as 41 = .ok (.if_icmp .ne 12, 3) := by decide +kernel
theorem dX6_as_44 : decode cX6_as 44 = .ok (.iload_n 3, 1) := by decide +kernel
theorem dX6_as_45 : decode cX6_as 45 = .ok (.iconst 4, 1) := by decide +kernel
theorem dX6_as_46 : decode cX6_as 46 = .ok (.if_icmp .ne 7, 3) := by decide +kernel
theorem dX6_as_49 : decode cX6_as 49 = .ok (.iload_n 1, 1) := by decide +kernel
theorem dX6_as_50 : decode cX6_as 50 = .ok (.goto 4, 3) := by decide +kernel
theorem dX6_as_53 : decode cX6_as 53 = .ok (.iconst (-1), 1) := by decide +kernel
theorem dX6_as_54 : decode cX6_as 54 = .ok (.ireturn, 1) := by decide +kernel
theorem dX6_bed_0 : decode cX6_bed 0 = .ok (.aload_n 0, 1) := by decide +kernel
theorem dX6_bed_1 : decode cX6_bed 1 = .ok (.getfield 77, 3) := by decide +kernel
theorem dX6_bed_4 : decode cX6_bed 4 = .ok (.ifCond .ne 8, 3) := by decide +kernel
theorem dX6_bed_7 : decode cX6_bed 7 = .ok (.bipush (-103), 2) := by decide +kernel
theorem dX6_bed_9 : decode cX6_bed 9 = .ok (.goto 7, 3) := by decide +kernel
theorem dX6_bed_12 : decode cX6_bed 12 = .ok (.aload_n 0, 1) := by decide +kernel
theorem dX6_bed_13 : decode cX6_bed 13 = .ok (.invokevirtual 92, 3) := by decide +kernel
theorem dX6_bed_16 : decode cX6_bed 16 = .ok (.ireturn, 1) := by decide +kernel
theorem dX6_coffee_0 : decode cX6_coffee 0 = .ok (.aload_n 0, 1) := by decide +kernel
theorem dX6_coffee_1 : decode cX6_coffee 1 = .ok (.iload_n 1, 1) := by decide +kernel
theorem dX6_coffee_2 : decode cX6_coffee 2 = .ok (.invokevirtual 112, 3) := by decide +kernel
theorem dX6_coffee_5 : decode cX6_coffee 5 = .ok (.ifCond .ne 6, 3) := by decide +kernel
theorem dX6_coffee_8 : decode cX6_coffee 8 = .ok (.bipush (-101), 2) := by decide +kernel
theorem dX6_coffee_10 : decode cX6_coffee 10 = .ok (.ireturn, 1) := by decide +kernel
theorem dX6_coffee_11 : decode cX6_coffee 11 = .ok (.aload_n 0, 1) := by decide +kernel
theorem dX6_coffee_12 : decode cX6_coffee 12 = .ok (.getfield 16, 3) := by decide +kernel
theorem dX6_coffee_15 : decode cX6_coffee 15 = .ok (.iload_n 1, 1) := by decide +kernel
theorem dX6_coffee_16 : decode cX6_coffee 16 = .ok (.baload, 1) := by decide +kernel
theorem dX6_coffee_17 : decode cX6_coffee 17 = .ok (.ifCond .eq 6, 3) := by decide +kernel
theorem dX6_coffee_20 : decode cX6_coffee 20 = .ok (.bipush (-103), 2) := by decide +kernel
theorem dX6_coffee_22 : decode cX6_coffee 22 = .ok (.ireturn, 1) := by decide +kernel
theorem dX6_coffee_23 : decode cX6_coffee 23 = .ok (.aload_n 0, 1) := by decide +kernel
theorem dX6_coffee_24 : decode cX6_coffee 24 = .ok (.iload_n 1, 1) := by decide +kernel
theorem dX6_coffee_25 : decode cX6_coffee 25 = .ok (.invokevirtual 120, 3) := by decide +kernel
theorem dX6_coffee_28 : decode cX6_coffee 28 = .ok (.aload_n 0, 1) := by decide +kernel
theorem dX6_coffee_29 : decode cX6_coffee 29 = .ok (.getfield 13, 3) := by decide +kernel
theorem dX6_coffee_32 : decode cX6_coffee 32 = .ok (.iload_n 1, 1) := by decide +kernel
theorem dX6_coffee_33 : decode cX6_coffee 33 = .ok (.iaload, 1) := by decide +kernel
theorem dX6_coffee_34 : decode cX6_coffee 34 = .ok (.ireturn, 1) := by decide +kernel
theorem dX6_lecture_0 : decode cX6_lecture 0 = .ok (.aload_n 0, 1) := by decide +kernel
theorem dX6_lecture_1 : decode cX6_lecture 1 = .ok (.iload_n 1, 1) := by decide +kernel
theorem dX6_lecture_2 : decode cX6_lecture 2 = .ok (.invokevirtual 112, 3) := by decide +kernel
theorem dX6_lecture_5 : decode cX6_lecture 5 = .ok (.ifCond .ne 6, 3) := by decide +kernel
theorem dX6_lecture_8 : decode cX6_lecture 8 = .ok (.bipush (-101), 2) := by decide +kernel
theorem dX6_lecture_10 : decode cX6_lecture 10 = .ok (.ireturn, 1) := by decide +kernel
theorem dX6_lecture_11 : decode cX6_lecture 11 = .ok (.aload_n 0, 1) := by decide +kernel
theorem dX6_lecture_12 : decode cX6_lecture 12 = .ok (.getfield 16, 3) := by decide +kernel
theorem dX6_lecture_15 : decode cX6_lecture 15 = .ok (.iload_n 1, 1) := by decide +kernel
theorem dX6_lecture_16 : decode cX6_lecture 16 = .ok (.baload, 1) := by decide +kernel
theorem dX6_lecture_17 : decode cX6_lecture 17 = .ok (.ifCond .eq 6, 3) := by decide +kernel
theorem dX6_lecture_20 : decode cX6_lecture 20 = .ok (.bipush (-103), 2) := by decide +kernel
theorem dX6_lecture_22 : decode cX6_lecture 22 = .ok (.ireturn, 1) := by decide +kernel
theorem dX6_lecture_23 : decode cX6_lecture 23 = .ok (.aload_n 0, 1) := by decide +kernel
theorem dX6_lecture_24 : decode cX6_lecture 24 = .ok (.iload_n 1, 1) := by decide +kernel
theorem dX6_lecture_25 : decode cX6_lecture 25 = .ok (.invokevirtual 123, 3) := by decide +kernel
theorem dX6_lecture_28 : decode cX6_lecture 28 = .ok (.aload_n 0, 1) := by decide +kernel
theorem dX6_lecture_29 : decode cX6_lecture 29 = .ok (.getfield 13, 3) := by decide +kernel
theorem dX6_lecture_32 : decode cX6_lecture 32 = .ok (.iload_n 1, 1) := by decide +kernel
theorem dX6_lecture_33 : decode cX6_lecture 33 = .ok (.iaload, 1) := by decide +kernel
theorem dX6_lecture_34 : decode cX6_lecture 34 = .ok (.ireturn, 1) := by decide +kernel
theorem dX6_hour_0 : decode cX6_hour 0 = .ok (.aload_n 0, 1) := by decide +kernel
theorem dX6_hour_1 : decode cX6_hour 1 = .ok (.getfield 77, 3) := by decide +kernel
theorem dX6_hour_4 : decode cX6_hour 4 = .ok (.ifCond .ne 6, 3) := by decide +kernel
theorem dX6_hour_7 : decode cX6_hour 7 = .ok (.bipush (-103), 2) := by decide +kernel
theorem dX6_hour_9 : decode cX6_hour 9 = .ok (.ireturn, 1) := by decide +kernel
theorem dX6_hour_10 : decode cX6_hour 10 = .ok (.aload_n 0, 1) := by decide +kernel
theorem dX6_hour_11 : decode cX6_hour 11 = .ok (.invokevirtual 126, 3) := by decide +kernel
theorem dX6_hour_14 : decode cX6_hour 14 = .ok (.aload_n 0, 1) := by decide +kernel
theorem dX6_hour_15 : decode cX6_hour 15 = .ok (.invokevirtual 129, 3) := by decide +kernel
theorem dX6_hour_18 : decode cX6_hour 18 = .ok (.ireturn, 1) := by decide +kernel
theorem dX6_isEnough_0 : decode cX6_isEnough 0 = .ok (.aload_n 0, 1) := by decide +kernel
theorem dX6_isEnough_1 : decode cX6_isEnough 1 = .ok (.invokevirtual 132, 3) := by decide +kernel
theorem dX6_isEnough_4 : decode cX6_isEnough 4 = .ok (.iconst 0, 1) := by decide +kernel
theorem dX6_isEnough_5 : decode cX6_isEnough 5 = .ok (.istore 4, 2) := by decide +kernel
theorem dX6_isEnough_7 : decode cX6_isEnough 7 = .ok (.iload 4, 2) := by decide +kernel
theorem dX6_isEnough_9 : decode cX6_isEnough 9 = .ok (.iload_n 2, 1) := by decide +kernel
theorem dX6_isEnough_10 : decode cX6_isEnough 10 = .ok (.if_icmp .ge 14, 3) := by decide +kernel
theorem dX6_isEnough_13 : decode cX6_isEnough 13 = .ok (.aload_n 0, 1) := by decide +kernel
theorem dX6_isEnough_14 : decode cX6_isEnough 14 = .ok (.iload_n 1, 1) := by decide +kernel
theorem dX6_isEnough_15 : decode cX6_isEnough 15 = .ok (.invokevirtual 120, 3) := by decide +kernel
theorem dX6_isEnough_18 : decode cX6_isEnough 18 = .ok (.iinc 4 1, 3) := by decide +kernel
theorem dX6_isEnough_21 : decode cX6_isEnough 21 = .ok (.goto (-14), 3) := by decide +kernel
theorem dX6_isEnough_24 : decode cX6_isEnough 24 = .ok (.aload_n 0, 1) := by decide +kernel
theorem dX6_isEnough_25 : decode cX6_isEnough 25 = .ok (.invokevirtual 92, 3) := by decide +kernel
theorem dX6_isEnough_28 : decode cX6_isEnough 28 = .ok (.iload_n 1, 1) := by decide +kernel
theorem dX6_isEnough_29 : decode cX6_isEnough 29 = .ok (.if_icmp .ne 7, 3) := by decide +kernel
theorem dX6_isEnough_32 : decode cX6_isEnough 32 = .ok (.iconst 1, 1) := by decide +kernel
theorem dX6_isEnough_33 : decode cX6_isEnough 33 = .ok (.goto 4, 3) := by decide +kernel
theorem dX6_isEnough_36 : decode cX6_isEnough 36 = .ok (.iconst 0, 1) := by decide +kernel
theorem dX6_isEnough_37 : decode cX6_isEnough 37 = .ok (.istore 4, 2) := by decide +kernel
theorem dX6_isEnough_39 : decode cX6_isEnough 39 = .ok (.iconst 1, 1) := by decide +kernel
theorem dX6_isEnough_40 : decode cX6_isEnough 40 = .ok (.istore 5, 2) := by decide +kernel
theorem dX6_isEnough_42 : decode cX6_isEnough 42 = .ok (.iload 5, 2) := by decide +kernel
theorem dX6_isEnough_44 : decode cX6_isEnough 44 = .ok (.iload_n 3, 1) := by decide +kernel
theorem dX6_isEnough_45 : decode cX6_isEnough 45 = .ok (.if_icmp .ge 33, 3) := by decide +kernel
theorem dX6_isEnough_48 : decode cX6_isEnough 48 = .ok (.aload_n 0, 1) := by decide +kernel
theorem dX6_isEnough_49 : decode cX6_isEnough 49 = .ok (.invokevirtual 126, 3) := by decide +kernel
theorem dX6_isEnough_52 : decode cX6_isEnough 52 = .ok (.iload 4, 2) := by decide +kernel
theorem dX6_isEnough_54 : decode cX6_isEnough 54 = .ok (.ifCond .eq 15, 3) := by decide +kernel
theorem dX6_isEnough_57 : decode cX6_isEnough 57 = .ok (.aload_n 0, 1) := by decide +kernel
theorem dX6_isEnough_58 : decode cX6_isEnough 58 = .ok (.invokevirtual 92, 3) := by decide +kernel
theorem dX6_isEnough_61 : decode cX6_isEnough 61 = .ok (.iload_n 1, 1) := by decide +kernel
theorem dX6_isEnough_62 : decode cX6_isEnough 62 = .ok (.if_icmp .ne 7, 3) := by decide +kernel
theorem dX6_isEnough_65 : decode cX6_isEnough 65 = .ok (.iconst 1, 1) := by decide +kernel
theorem dX6_isEnough_66 : decode cX6_isEnough 66 = .ok (.goto 4, 3) := by decide +kernel
theorem dX6_isEnough_69 : decode cX6_isEnough 69 = .ok (.iconst 0, 1) := by decide +kernel
theorem dX6_isEnough_70 : decode cX6_isEnough 70 = .ok (.istore 4, 2) := by decide +kernel
theorem dX6_isEnough_72 : decode cX6_isEnough 72 = .ok (.iinc 5 1, 3) := by decide +kernel
theorem dX6_isEnough_75 : decode cX6_isEnough 75 = .ok (.goto (-33), 3) := by decide +kernel
theorem dX6_isEnough_78 : decode cX6_isEnough 78 = .ok (.aload_n 0, 1) := by decide +kernel
theorem dX6_isEnough_79 : decode cX6_isEnough 79 = .ok (.invokevirtual 135, 3) := by decide +kernel
theorem dX6_isEnough_82 : decode cX6_isEnough 82 = .ok (.iload 4, 2) := by decide +kernel
theorem dX6_isEnough_84 : decode cX6_isEnough 84 = .ok (.ireturn, 1) := by decide +kernel
theorem dX6_cupsNow_0 : decode cX6_cupsNow 0 = .ok (.iconst 0, 1) := by decide +kernel
theorem dX6_cupsNow_1 : decode cX6_cupsNow 1 = .ok (.istore_n 3, 1) := by decide +kernel
theorem dX6_cupsNow_2 : decode cX6_cupsNow 2 = .ok (.iload_n 3, 1) := by decide +kernel
theorem dX6_cupsNow_3 : decode cX6_cupsNow 3 = .ok (.iconst 4, 1) := by decide +kernel
theorem dX6_cupsNow_4 : decode cX6_cupsNow 4 = .ok (.if_icmp .gt 21, 3) := by decide +kernel
theorem dX6_cupsNow_7 : decode cX6_cupsNow 7 = .ok (.aload_n 0, 1) := by decide +kernel
theorem dX6_cupsNow_8 : decode cX6_cupsNow 8 = .ok (.iload_n 1, 1) := by decide +kernel
theorem dX6_cupsNow_9 : decode cX6_cupsNow 9 = .ok (.iload_n 3, 1) := by decide +kernel
theorem dX6_cupsNow_10 : decode cX6_cupsNow 10 = .ok (.iload_n 2, 1) := by decide +kernel
theorem dX6_cupsNow_11 : decode cX6_cupsNow 11 = .ok (.invokevirtual 138, 3) := by decide +kernel
theorem dX6_cupsNow_14 : decode cX6_cupsNow 14 = .ok (.ifCond .eq 5, 3) := by decide +kernel
theorem dX6_cupsNow_17 : decode cX6_cupsNow 17 = .ok (.iload_n 3, 1) := by decide +kernel
theorem dX6_cupsNow_18 : decode cX6_cupsNow 18 = .ok (.ireturn, 1) := by decide +kernel
theorem dX6_cupsNow_19 : decode cX6_cupsNow 19 = .ok (.iinc 3 1, 3) := by decide +kernel
theorem dX6_cupsNow_22 : decode cX6_cupsNow 22 = .ok (.goto (-20), 3) := by decide +kernel
theorem dX6_cupsNow_25 : decode cX6_cupsNow 25 = .ok (.iconst (-1), 1) := by decide +kernel
theorem dX6_cupsNow_26 : decode cX6_cupsNow 26 = .ok (.ireturn, 1) := by decide +kernel
theorem dX6_cups_0 : decode cX6_cups 0 = .ok (.aload_n 0, 1) := by decide +kernel
theorem dX6_cups_1 : decode cX6_cups 1 = .ok (.iload_n 1, 1) := by decide +kernel
theorem dX6_cups_2 : decode cX6_cups 2 = .ok (.invokevirtual 112, 3) := by decide +kernel
theorem dX6_cups_5 : decode cX6_cups 5 = .ok (.ifCond .ne 6, 3) := by decide +kernel
theorem dX6_cups_8 : decode cX6_cups 8 = .ok (.bipush (-101), 2) := by decide +kernel
theorem dX6_cups_10 : decode cX6_cups 10 = .ok (.ireturn, 1) := by decide +kernel
theorem dX6_cups_11 : decode cX6_cups 11 = .ok (.iload_n 2, 1) := by decide +kernel
theorem dX6_cups_12 : decode cX6_cups 12 = .ok (.iconst 1, 1) := by decide +kernel
theorem dX6_cups_13 : decode cX6_cups 13 = .ok (.bipush 6, 2) := by decide +kernel
theorem dX6_cups_15 : decode cX6_cups 15 = .ok (.invokestatic 51, 3) := by decide +kernel
theorem dX6_cups_18 : decode cX6_cups 18 = .ok (.ifCond .ne 6, 3) := by decide +kernel
theorem dX6_cups_21 : decode cX6_cups 21 = .ok (.bipush (-102), 2) := by decide +kernel
theorem dX6_cups_23 : decode cX6_cups 23 = .ok (.ireturn, 1) := by decide +kernel
theorem dX6_cups_24 : decode cX6_cups 24 = .ok (.aload_n 0, 1) := by decide +kernel
theorem dX6_cups_25 : decode cX6_cups 25 = .ok (.getfield 16, 3) := by decide +kernel
theorem dX6_cups_28 : decode cX6_cups 28 = .ok (.iload_n 1, 1) := by decide +kernel
theorem dX6_cups_29 : decode cX6_cups 29 = .ok (.baload, 1) := by decide +kernel
theorem dX6_cups_30 : decode cX6_cups 30 = .ok (.ifCond .eq 8, 3) := by decide +kernel
theorem dX6_cups_33 : decode cX6_cups 33 = .ok (.bipush (-103), 2) := by decide +kernel
theorem dX6_cups_35 : decode cX6_cups 35 = .ok (.goto 9, 3) := by decide +kernel
theorem dX6_cups_38 : decode cX6_cups 38 = .ok (.aload_n 0, 1) := by decide +kernel
theorem dX6_cups_39 : decode cX6_cups 39 = .ok (.iload_n 1, 1) := by decide +kernel
theorem dX6_cups_40 : decode cX6_cups 40 = .ok (.iload_n 2, 1) := by decide +kernel
theorem dX6_cups_41 : decode cX6_cups 41 = .ok (.invokevirtual 141, 3) := by decide +kernel
theorem dX6_cups_44 : decode cX6_cups 44 = .ok (.ireturn, 1) := by decide +kernel
theorem dX6_hoursBy_0 : decode cX6_hoursBy 0 = .ok (.iload_n 3, 1) := by decide +kernel
theorem dX6_hoursBy_1 : decode cX6_hoursBy 1 = .ok (.istore 4, 2) := by decide +kernel
theorem dX6_hoursBy_3 : decode cX6_hoursBy 3 = .ok (.iconst 1, 1) := by decide +kernel
theorem dX6_hoursBy_4 : decode cX6_hoursBy 4 = .ok (.istore 5, 2) := by decide +kernel
theorem dX6_hoursBy_6 : decode cX6_hoursBy 6 = .ok (.iconst 0, 1) := by decide +kernel
theorem dX6_hoursBy_7 : decode cX6_hoursBy 7 = .ok (.istore 6, 2) := by decide +kernel
theorem dX6_hoursBy_9 : decode cX6_hoursBy 9 = .ok (.iload 6, 2) := by decide +kernel
theorem dX6_hoursBy_11 : decode cX6_hoursBy 11 = .ok (.iload_n 2, 1) := by decide +kernel
theorem dX6_hoursBy_12 : decode cX6_hoursBy 12 = .ok (.if_icmp .ge 16, 3) := by decide +kernel
theorem dX6_hoursBy_15 : decode cX6_hoursBy 15 = .ok (.iload 5, 2) := by decide +kernel
theorem dX6_hoursBy_17 : decode cX6_hoursBy 17 = .ok (.bipush 6, 2) := by decide +kernel
theorem dX6_hoursBy_19 : decode cX6_hoursBy 19 = .ok (.imul, 1) := by decide +kernel
theorem dX6_hoursBy_20 : decode cX6_hoursBy 20 = .ok (.istore 5, 2) := by decide +kernel
theorem dX6_hoursBy_22 : decode cX6_hoursBy 22 = .ok (.iinc 6 1, 3) := by decide +kernel
theorem dX6_hoursBy_25 : decode cX6_hoursBy 25 = .ok (.goto (-16), 3) := by decide +kernel
theorem dX6_hoursBy_28 : decode cX6_hoursBy 28 = .ok (.iconst 0, 1) := by decide +kernel
theorem dX6_hoursBy_29 : decode cX6_hoursBy 29 = .ok (.istore 6, 2) := by decide +kernel
theorem dX6_hoursBy_31 : decode cX6_hoursBy 31 = .ok (.iconst 1, 1) := by decide +kernel
theorem dX6_hoursBy_32 : decode cX6_hoursBy 32 = .ok (.istore 7, 2) := by decide +kernel
theorem dX6_hoursBy_34 : decode cX6_hoursBy 34 = .ok (.aload_n 0, 1) := by decide +kernel
theorem dX6_hoursBy_35 : decode cX6_hoursBy 35 = .ok (.invokevirtual 132, 3) := by decide +kernel
theorem dX6_hoursBy_38 : decode cX6_hoursBy 38 = .ok (.iconst 0, 1) := by decide +kernel
theorem dX6_hoursBy_39 : decode cX6_hoursBy 39 = .ok (.istore 8, 2) := by decide +kernel
theorem dX6_hoursBy_41 : decode cX6_hoursBy 41 = .ok (.iload 8, 2) := by decide +kernel
theorem dX6_hoursBy_43 : decode cX6_hoursBy 43 = .ok (.iload_n 2, 1) := by decide +kernel
theorem dX6_hoursBy_44 : decode cX6_hoursBy 44 = .ok (.if_icmp .ge 104, 3) := by decide +kernel
theorem dX6_hoursBy_47 : decode cX6_hoursBy 47 = .ok (.iload 5, 2) := by decide +kernel
theorem dX6_hoursBy_49 : decode cX6_hoursBy 49 = .ok (.bipush 6, 2) := by decide +kernel
theorem dX6_hoursBy_51 : decode cX6_hoursBy 51 = .ok (.idiv, 1) := by decide +kernel
theorem dX6_hoursBy_52 : decode cX6_hoursBy 52 = .ok (.istore 5, 2) := by decide +kernel
theorem dX6_hoursBy_54 : decode cX6_hoursBy 54 = .ok (.iload 4, 2) := by decide +kernel
theorem dX6_hoursBy_56 : decode cX6_hoursBy 56 = .ok (.iload 5, 2) := by decide +kernel
theorem dX6_hoursBy_58 : decode cX6_hoursBy 58 = .ok (.idiv, 1) := by decide +kernel
theorem dX6_hoursBy_59 : decode cX6_hoursBy 59 = .ok (.iconst 1, 1) := by decide +kernel
theorem dX6_hoursBy_60 : decode cX6_hoursBy 60 = .ok (.isub, 1) := by decide +kernel
theorem dX6_hoursBy_61 : decode cX6_hoursBy 61 = .ok (.istore 9, 2) := by decide +kernel
theorem dX6_hoursBy_63 : decode cX6_hoursBy 63 = .ok (.iload 4, 2) := by decide +kernel
theorem dX6_hoursBy_65 : decode cX6_hoursBy 65 = .ok (.iload 5, 2) := by decide +kernel
theorem dX6_hoursBy_67 : decode cX6_hoursBy 67 = .ok (.irem, 1) := by decide +kernel
theorem dX6_hoursBy_68 : decode cX6_hoursBy 68 = .ok (.istore 4, 2) := by decide +kernel
theorem dX6_hoursBy_70 : decode cX6_hoursBy 70 = .ok (.iload 7, 2) := by decide +kernel
theorem dX6_hoursBy_72 : decode cX6_hoursBy 72 = .ok (.ifCond .eq 28, 3) := by decide +kernel
theorem dX6_hoursBy_75 : decode cX6_hoursBy 75 = .ok (.iload 9, 2) := by decide +kernel
theorem dX6_hoursBy_77 : decode cX6_hoursBy 77 = .ok (.iconst (-1), 1) := by decide +kernel
theorem dX6_hoursBy_78 : decode cX6_hoursBy 78 = .ok (.if_icmp .eq 18, 3) := by decide +kernel
theorem dX6_hoursBy_81 : decode cX6_hoursBy 81 = .ok (.aload_n 0, 1) := by decide +kernel
theorem dX6_hoursBy_82 : decode cX6_hoursBy 82 = .ok (.iload 9, 2) := by decide +kernel
theorem dX6_hoursBy_84 : decode cX6_hoursBy 84 = .ok (.invokevirtual 112, 3) := by decide +kernel
theorem dX6_hoursBy_87 : decode cX6_hoursBy 87 = .ok (.ifCond .eq 13, 3) := by decide +kernel
theorem dX6_hoursBy_90 : decode cX6_hoursBy 90 = .ok (.iload 9, 2) := by decide +kernel
theorem dX6_hoursBy_92 : decode cX6_hoursBy 92 = .ok (.iload_n 1, 1) := by decide +kernel
theorem dX6_hoursBy_93 : decode cX6_hoursBy 93 = .ok (.if_icmp .eq 7, 3) := by decide +kernel
theorem dX6_hoursBy_96 : decode cX6_hoursBy 96 = .ok (.iconst 1, 1) := by decide +kernel
theorem dX6_hoursBy_97 : decode cX6_hoursBy 97 = .ok (.goto 4, 3) := by decide +kernel
theorem dX6_hoursBy_100 : decode cX6_hoursBy 100 = .ok (.iconst 0, 1) := by decide +kernel
theorem dX6_hoursBy_101 : decode cX6_hoursBy 101 = .ok (.istore 7, 2) := by decide +kernel
theorem dX6_hoursBy_103 : decode cX6_hoursBy 103 = .ok (.iload 7, 2) := by decide +kernel
theorem dX6_hoursBy_105 : decode cX6_hoursBy 105 = .ok (.ifCond .eq 15, 3) := by decide +kernel
theorem dX6_hoursBy_108 : decode cX6_hoursBy 108 = .ok (.iload 9, 2) := by decide +kernel
theorem dX6_hoursBy_110 : decode cX6_hoursBy 110 = .ok (.iconst (-1), 1) := by decide +kernel
theorem dX6_hoursBy_111 : decode cX6_hoursBy 111 = .ok (.if_icmp .eq 9, 3) := by decide +kernel
theorem dX6_hoursBy_114 : decode cX6_hoursBy 114 = .ok (.aload_n 0, 1) := by decide +kernel
theorem dX6_hoursBy_115 : decode cX6_hoursBy 115 = .ok (.iload 9, 2) := by decide +kernel
theorem dX6_hoursBy_117 : decode cX6_hoursBy 117 = .ok (.invokevirtual 123, 3) := by decide +kernel
theorem dX6_hoursBy_120 : decode cX6_hoursBy 120 = .ok (.iload 6, 2) := by decide +kernel
theorem dX6_hoursBy_122 : decode cX6_hoursBy 122 = .ok (.aload_n 0, 1) := by decide +kernel
theorem dX6_hoursBy_123 : decode cX6_hoursBy 123 = .ok (.invokevirtual 92, 3) := by decide +kernel
theorem dX6_hoursBy_126 : decode cX6_hoursBy 126 = .ok (.iload_n 1, 1) := by decide +kernel
theorem dX6_hoursBy_127 : decode cX6_hoursBy 127 = .ok (.if_icmp .ne 7, 3) := by decide +kernel
theorem dX6_hoursBy_130 : decode cX6_hoursBy 130 = .ok (.iconst 1, 1) := by decide +kernel
theorem dX6_hoursBy_131 : decode cX6_hoursBy 131 = .ok (.goto 4, 3) := by decide +kernel
theorem dX6_hoursBy_134 : decode cX6_hoursBy 134 = .ok (.iconst 0, 1) := by decide +kernel
theorem dX6_hoursBy_135 : decode cX6_hoursBy 135 = .ok (.iadd, 1) := by decide +kernel
theorem dX6_hoursBy_136 : decode cX6_hoursBy 136 = .ok (.istore 6, 2) := by decide +kernel
theorem dX6_hoursBy_138 : decode cX6_hoursBy 138 = .ok (.aload_n 0, 1) := by decide +kernel
theorem dX6_hoursBy_139 : decode cX6_hoursBy 139 = .ok (.invokevirtual 126, 3) := by decide +kernel
theorem dX6_hoursBy_142 : decode cX6_hoursBy 142 = .ok (.iinc 8 1, 3) := by decide +kernel
theorem dX6_hoursBy_145 : decode cX6_hoursBy 145 = .ok (.goto (-104), 3) := by decide +kernel
theorem dX6_hoursBy_148 : decode cX6_hoursBy 148 = .ok (.aload_n 0, 1) := by decide +kernel
theorem dX6_hoursBy_149 : decode cX6_hoursBy 149 = .ok (.invokevirtual 135, 3) := by decide +kernel
theorem dX6_hoursBy_152 : decode cX6_hoursBy 152 = .ok (.iload 7, 2) := by decide +kernel
theorem dX6_hoursBy_154 : decode cX6_hoursBy 154 = .ok (.ifCond .eq 8, 3) := by decide +kernel
theorem dX6_hoursBy_157 : decode cX6_hoursBy 157 = .ok (.iload 6, 2) := by decide +kernel
theorem dX6_hoursBy_159 : decode cX6_hoursBy 159 = .ok (.goto 4, 3) := by decide +kernel
theorem dX6_hoursBy_162 : decode cX6_hoursBy 162 = .ok (.iconst (-1), 1) := by decide +kernel
theorem dX6_hoursBy_163 : decode cX6_hoursBy 163 = .ok (.ireturn, 1) := by decide +kernel
theorem dX6_lecturesNow_0 : decode cX6_lecturesNow 0 = .ok (.iconst 1, 1) := by decide +kernel
theorem dX6_lecturesNow_1 : decode cX6_lecturesNow 1 = .ok (.istore 4, 2) := by decide +kernel
theorem dX6_lecturesNow_3 : decode cX6_lecturesNow 3 = .ok (.iconst 0, 1) := by decide +kernel
theorem dX6_lecturesNow_4 : decode cX6_lecturesNow 4 = .ok (.istore 5, 2) := by decide +kernel
theorem dX6_lecturesNow_6 : decode cX6_lecturesNow 6 = .ok (.iload 5, 2) := by decide +kernel
theorem dX6_lecturesNow_8 : decode cX6_lecturesNow 8 = .ok (.iload_n 2, 1) := by decide +kernel
theorem dX6_lecturesNow_9 : decode cX6_lecturesNow 9 = .ok (.if_icmp .ge 16, 3) := by decide +kernel
theorem dX6_lecturesNow_12 : decode cX6_lecturesNow 12 = .ok (.iload 4, 2) := by decide +kernel
theorem dX6_lecturesNow_14 : decode cX6_lecturesNow 14 = .ok (.bipush 6, 2) := by decide +kernel
theorem dX6_lecturesNow_16 : decode cX6_lecturesNow 16 = .ok (.imul, 1) := by decide +kernel
theorem dX6_lecturesNow_17 : decode cX6_lecturesNow 17 = .ok (.istore 4, 2) := by decide +kernel
theorem dX6_lecturesNow_19 : decode cX6_lecturesNow 19 = .ok (.iinc 5 1, 3) := by decide +kernel
theorem dX6_lecturesNow_22 : decode cX6_lecturesNow 22 = .ok (.goto (-16), 3) := by decide +kernel
theorem dX6_lecturesNow_25 : decode cX6_lecturesNow 25 = .ok (.iconst 0, 1) := by decide +kernel
theorem dX6_lecturesNow_26 : decode cX6_lecturesNow 26 = .ok (.istore 5, 2) := by decide +kernel
theorem dX6_lecturesNow_28 : decode cX6_lecturesNow 28 = .ok (.iconst (-1), 1) := by decide +kernel
theorem dX6_lecturesNow_29 : decode cX6_lecturesNow 29 = .ok (.istore 6, 2) := by decide +kernel
theorem dX6_lecturesNow_31 : decode cX6_lecturesNow 31 = .ok (.iconst 0, 1) := by decide +kernel
theorem dX6_lecturesNow_32 : decode cX6_lecturesNow 32 = .ok (.istore 7, 2) := by decide +kernel
theorem dX6_lecturesNow_34 : decode cX6_lecturesNow 34 = .ok (.iload 7, 2) := by decide +kernel
theorem dX6_lecturesNow_36 : decode cX6_lecturesNow 36 = .ok (.iload 4, 2) := by decide +kernel
theorem dX6_lecturesNow_38 : decode cX6_lecturesNow 38 = .ok (.if_icmp .ge 51, 3) := by decide +kernel
theorem dX6_lecturesNow_41 : decode cX6_lecturesNow 41 = .ok (.aload_n 0, 1) := by decide +kernel
theorem dX6_lecturesNow_42 : decode cX6_lecturesNow 42 = .ok (.iload_n 1, 1) := by decide +kernel
theorem dX6_lecturesNow_43 : decode cX6_lecturesNow 43 = .ok (.iload_n 2, 1) := by decide +kernel
theorem dX6_lecturesNow_44 : decode cX6_lecturesNow 44 = .ok (.iload 7, 2) := by decide +kernel
theorem dX6_lecturesNow_46 : decode cX6_lecturesNow 46 = .ok (.invokevirtual 144, 3) := by decide +kernel
theorem dX6_lecturesNow_49 : decode cX6_lecturesNow 49 = .ok (.istore 8, 2) := by decide +kernel
theorem dX6_lecturesNow_51 : decode cX6_lecturesNow 51 = .ok (.iload 8, 2) := by decide +kernel
theorem dX6_lecturesNow_53 : decode cX6_lecturesNow 53 = .ok (.iload 6, 2) := by decide +kernel
theorem dX6_lecturesNow_55 : decode cX6_lecturesNow 55 = .ok (.if_icmp .le 8, 3) := by decide +kernel
theorem dX6_lecturesNow_58 : decode cX6_lecturesNow 58 = .ok (.iload 7, 2) := by decide +kernel
theorem dX6_lecturesNow_60 : decode cX6_lecturesNow 60 = .ok (.goto 5, 3) := by decide +kernel
theorem dX6_lecturesNow_63 : decode cX6_lecturesNow 63 = .ok (.iload 5, 2) := by decide +kernel
theorem dX6_lecturesNow_65 : decode cX6_lecturesNow 65 = .ok (.istore 5, 2) := by decide +kernel
theorem dX6_lecturesNow_67 : decode cX6_lecturesNow 67 = .ok (.iload 8, 2) := by decide +kernel
theorem dX6_lecturesNow_69 : decode cX6_lecturesNow 69 = .ok (.iload 6, 2) := by decide +kernel
theorem dX6_lecturesNow_71 : decode cX6_lecturesNow 71 = .ok (.if_icmp .le 8, 3) := by decide +kernel
theorem dX6_lecturesNow_74 : decode cX6_lecturesNow 74 = .ok (.iload 8, 2) := by decide +kernel
theorem dX6_lecturesNow_76 : decode cX6_lecturesNow 76 = .ok (.goto 5, 3) := by decide +kernel
theorem dX6_lecturesNow_79 : decode cX6_lecturesNow 79 = .ok (.iload 6, 2) := by decide +kernel
theorem dX6_lecturesNow_81 : decode cX6_lecturesNow 81 = .ok (.istore 6, 2) := by decide +kernel
theorem dX6_lecturesNow_83 : decode cX6_lecturesNow 83 = .ok (.iinc 7 1, 3) := by decide +kernel
theorem dX6_lecturesNow_86 : decode cX6_lecturesNow 86 = .ok (.goto (-52), 3) := by decide +kernel
theorem dX6_lecturesNow_89 : decode cX6_lecturesNow 89 = .ok (.iload_n 3, 1) := by decide +kernel
theorem dX6_lecturesNow_90 : decode cX6_lecturesNow 90 = .ok (.ifCond .ne 8, 3) := by decide +kernel
theorem dX6_lecturesNow_93 : decode cX6_lecturesNow 93 = .ok (.iload 6, 2) := by decide +kernel
theorem dX6_lecturesNow_95 : decode cX6_lecturesNow 95 = .ok (.goto 13, 3) := by decide +kernel
theorem dX6_lecturesNow_98 : decode cX6_lecturesNow 98 = .ok (.iload 5, 2) := by decide +kernel
theorem dX6_lecturesNow_100 : decode cX6_lecturesNow 100 = .ok (.iload 4, 2) := by decide +kernel
theorem dX6_lecturesNow_102 : decode cX6_lecturesNow 102 = .ok (.bipush 6, 2) := by decide +kernel
theorem dX6_lecturesNow_104 : decode cX6_lecturesNow 104 = .ok (.idiv, 1) := by decide +kernel
theorem dX6_lecturesNow_105 : decode cX6_lecturesNow 105 = .ok (.idiv, 1) := by decide +kernel
theorem dX6_lecturesNow_106 : decode cX6_lecturesNow 106 = .ok (.iconst 1, 1) := by decide +kernel
theorem dX6_lecturesNow_107 : decode cX6_lecturesNow 107 = .ok (.isub, 1) := by decide +kernel
theorem dX6_lecturesNow_108 : decode cX6_lecturesNow 108 = .ok (.ireturn, 1) := by decide +kernel
theorem dX6_lectures_0 : decode cX6_lectures 0 = .ok (.aload_n 0, 1) := by decide +kernel
theorem dX6_lectures_1 : decode cX6_lectures 1 = .ok (.iload_n 1, 1) := by decide +kernel
theorem dX6_lectures_2 : decode cX6_lectures 2 = .ok (.invokevirtual 112, 3) := by decide +kernel
theorem dX6_lectures_5 : decode cX6_lectures 5 = .ok (.ifCond .ne 6, 3) := by decide +kernel
theorem dX6_lectures_8 : decode cX6_lectures 8 = .ok (.bipush (-101), 2) := by decide +kernel
theorem dX6_lectures_10 : decode cX6_lectures 10 = .ok (.ireturn, 1) := by decide +kernel
theorem dX6_lectures_11 : decode cX6_lectures 11 = .ok (.iload_n 2, 1) := by decide +kernel
theorem dX6_lectures_12 : decode cX6_lectures 12 = .ok (.iconst 1, 1) := by decide +kernel
theorem dX6_lectures_13 : decode cX6_lectures 13 = .ok (.iconst 3, 1) := by decide +kernel
theorem dX6_lectures_14 : decode cX6_lectures 14 = .ok (.invokestatic 51, 3) := by decide +kernel
theorem dX6_lectures_17 : decode cX6_lectures 17 = .ok (.ifCond .eq 12, 3) := by decide +kernel
theorem dX6_lectures_20 : decode cX6_lectures 20 = .ok (.iload_n 3, 1) := by decide +kernel
theorem dX6_lectures_21 : decode cX6_lectures 21 = .ok (.iconst 0, 1) := by decide +kernel
theorem dX6_lectures_22 : decode cX6_lectures 22 = .ok (.iconst 1, 1) := by decide +kernel
theorem dX6_lectures_23 : decode cX6_lectures 23 = .ok (.invokestatic 51, 3) := by decide +kernel
theorem dX6_lectures_26 : decode cX6_lectures 26 = .ok (.ifCond .ne 6, 3) := by decide +kernel
theorem dX6_lectures_29 : decode cX6_lectures 29 = .ok (.bipush (-102), 2) := by decide +kernel
theorem dX6_lectures_31 : decode cX6_lectures 31 = .ok (.ireturn, 1) := by decide +kernel
theorem dX6_lectures_32 : decode cX6_lectures 32 = .ok (.aload_n 0, 1) := by decide +kernel
theorem dX6_lectures_33 : decode cX6_lectures 33 = .ok (.getfield 148, 3) := by decide +kernel
theorem dX6_lectures_36 : decode cX6_lectures 36 = .ok (.bipush 40, 2) := by decide +kernel
theorem dX6_lectures_38 : decode cX6_lectures 38 = .ok (.if_icmp .ne 6, 3) := by decide +kernel
theorem dX6_lectures_41 : decode cX6_lectures 41 = .ok (.bipush (-103), 2) := by decide +kernel
theorem dX6_lectures_43 : decode cX6_lectures 43 = .ok (.ireturn, 1) := by decide +kernel
theorem dX6_lectures_44 : decode cX6_lectures 44 = .ok (.aload_n 0, 1) := by decide +kernel
theorem dX6_lectures_45 : decode cX6_lectures 45 = .ok (.dup, 1) := by decide +kernel
theorem dX6_lectures_46 : decode cX6_lectures 46 = .ok (.getfield 148, 3) := by decide +kernel
theorem dX6_lectures_49 : decode cX6_lectures 49 = .ok (.iconst 1, 1) := by decide +kernel
theorem dX6_lectures_50 : decode cX6_lectures 50 = .ok (.iadd, 1) := by decide +kernel
theorem dX6_lectures_51 : decode cX6_lectures 51 = .ok (.putfield 148, 3) := by decide +kernel
theorem dX6_lectures_54 : decode cX6_lectures 54 = .ok (.aload_n 0, 1) := by decide +kernel
theorem dX6_lectures_55 : decode cX6_lectures 55 = .ok (.iload_n 1, 1) := by decide +kernel
theorem dX6_lectures_56 : decode cX6_lectures 56 = .ok (.iload_n 2, 1) := by decide +kernel
theorem dX6_lectures_57 : decode cX6_lectures 57 = .ok (.iload_n 3, 1) := by decide +kernel
theorem dX6_lectures_58 : decode cX6_lectures 58 = .ok (.invokevirtual 151, 3) := by decide +kernel
theorem dX6_lectures_61 : decode cX6_lectures 61 = .ok (.ireturn, 1) := by decide +kernel
theorem dX6_mayLie_0 : decode cX6_mayLie 0 = .ok (.aload_n 0, 1) := by decide +kernel
theorem dX6_mayLie_1 : decode cX6_mayLie 1 = .ok (.iload_n 1, 1) := by decide +kernel
theorem dX6_mayLie_2 : decode cX6_mayLie 2 = .ok (.invokevirtual 112, 3) := by decide +kernel
theorem dX6_mayLie_5 : decode cX6_mayLie 5 = .ok (.ifCond .eq 26, 3) := by decide +kernel
theorem dX6_mayLie_8 : decode cX6_mayLie 8 = .ok (.aload_n 0, 1) := by decide +kernel
theorem dX6_mayLie_9 : decode cX6_mayLie 9 = .ok (.getfield 16, 3) := by decide +kernel
theorem dX6_mayLie_12 : decode cX6_mayLie 12 = .ok (.iload_n 1, 1) := by decide +kernel
theorem dX6_mayLie_13 : decode cX6_mayLie 13 = .ok (.baload, 1) := by decide +kernel
theorem dX6_mayLie_14 : decode cX6_mayLie 14 = .ok (.ifCond .ne 17, 3) := by decide +kernel
theorem dX6_mayLie_17 : decode cX6_mayLie 17 = .ok (.aload_n 0, 1) := by decide +kernel
theorem dX6_mayLie_18 : decode cX6_mayLie 18 = .ok (.getfield 7, 3) := by decide +kernel
theorem dX6_mayLie_21 : decode cX6_mayLie 21 = .ok (.iload_n 1, 1) := by decide +kernel
theorem dX6_mayLie_22 : decode cX6_mayLie 22 = .ok (.iaload, 1) := by decide +kernel
theorem dX6_mayLie_23 : decode cX6_mayLie 23 = .ok (.iconst 1, 1) := by decide +kernel
theorem dX6_mayLie_24 : decode cX6_mayLie 24 = .ok (.if_icmp .eq 7, 3) := by decide +kernel
theorem dX6_mayLie_27 : decode cX6_mayLie 27 = .ok (.iconst 1, 1) := by decide +kernel
theorem dX6_mayLie_28 : decode cX6_mayLie 28 = .ok (.goto 4, 3) := by decide +kernel
theorem dX6_mayLie_31 : decode cX6_mayLie 31 = .ok (.iconst 0, 1) := by decide +kernel
theorem dX6_mayLie_32 : decode cX6_mayLie 32 = .ok (.ireturn, 1) := by decide +kernel
theorem dX6_awakeFor_0 : decode cX6_awakeFor 0 = .ok (.aload_n 0, 1) := by decide +kernel
theorem dX6_awakeFor_1 : decode cX6_awakeFor 1 = .ok (.getfield 13, 3) := by decide +kernel
theorem dX6_awakeFor_4 : decode cX6_awakeFor 4 = .ok (.iload_n 1, 1) := by decide +kernel
theorem dX6_awakeFor_5 : decode cX6_awakeFor 5 = .ok (.iaload, 1) := by decide +kernel
theorem dX6_awakeFor_6 : decode cX6_awakeFor 6 = .ok (.istore_n 3, 1) := by decide +kernel
theorem dX6_awakeFor_7 : decode cX6_awakeFor 7 = .ok (.aload_n 0, 1) := by decide +kernel
theorem dX6_awakeFor_8 : decode cX6_awakeFor 8 = .ok (.getfield 13, 3) := by decide +kernel
theorem dX6_awakeFor_11 : decode cX6_awakeFor 11 = .ok (.iload_n 2, 1) := by decide +kernel
theorem dX6_awakeFor_12 : decode cX6_awakeFor 12 = .ok (.iaload, 1) := by decide +kernel
theorem dX6_awakeFor_13 : decode cX6_awakeFor 13 = .ok (.istore 4, 2) := by decide +kernel
theorem dX6_awakeFor_15 : decode cX6_awakeFor 15 = .ok (.iconst 1, 1) := by decide +kernel
theorem dX6_awakeFor_16 : decode cX6_awakeFor 16 = .ok (.istore 5, 2) := by decide +kernel
theorem dX6_awakeFor_18 : decode cX6_awakeFor 18 = .ok (.iload 5, 2) := by decide +kernel
theorem dX6_awakeFor_20 : decode cX6_awakeFor 20 = .ok (.bipush 60, 2) := by decide +kernel
theorem dX6_awakeFor_22 : decode cX6_awakeFor 22 = .ok (.if_icmp .gt 70, 3) := by decide +kernel
theorem dX6_awakeFor_25 : decode cX6_awakeFor 25 = .ok (.iload_n 3, 1) := by decide +kernel
theorem dX6_awakeFor_26 : decode cX6_awakeFor 26 = .ok (.aload_n 0, 1) := by decide +kernel
theorem dX6_awakeFor_27 : decode cX6_awakeFor 27 = .ok (.getfield 7, 3) := by decide +kernel
theorem dX6_awakeFor_30 : decode cX6_awakeFor 30 = .ok (.iload_n 1, 1) := by decide +kernel
theorem dX6_awakeFor_31 : decode cX6_awakeFor 31 = .ok (.iaload, 1) := by decide +kernel
theorem dX6_awakeFor_32 : decode cX6_awakeFor 32 = .ok (.iload_n 3, 1) := by decide +kernel
theorem dX6_awakeFor_33 : decode cX6_awakeFor 33 = .ok (.aload_n 0, 1) := by decide +kernel
theorem dX6_awakeFor_34 : decode cX6_awakeFor 34 = .ok (.getfield 86, 3) := by decide +kernel
theorem dX6_awakeFor_37 : decode cX6_awakeFor 37 = .ok (.iload 5, 2) := by decide +kernel
theorem dX6_awakeFor_39 : decode cX6_awakeFor 39 = .ok (.iadd, 1) := by decide +kernel
theorem dX6_awakeFor_40 : decode cX6_awakeFor 40 = .ok (.iconst 1, 1) := by decide +kernel
theorem dX6_awakeFor_41 : decode cX6_awakeFor 41 = .ok (.invokestatic 95, 3) := by decide +kernel
theorem dX6_awakeFor_44 : decode cX6_awakeFor 44 = .ok (.iadd, 1) := by decide +kernel
theorem dX6_awakeFor_45 : decode cX6_awakeFor 45 = .ok (.istore_n 3, 1) := by decide +kernel
theorem dX6_awakeFor_46 : decode cX6_awakeFor 46 = .ok (.iload 4, 2) := by decide +kernel
theorem dX6_awakeFor_48 : decode cX6_awakeFor 48 = .ok (.aload_n 0, 1) := by decide +kernel
theorem dX6_awakeFor_49 : decode cX6_awakeFor 49 = .ok (.getfield 7, 3) := by decide +kernel
theorem dX6_awakeFor_52 : decode cX6_awakeFor 52 = .ok (.iload_n 2, 1) := by decide +kernel
theorem dX6_awakeFor_53 : decode cX6_awakeFor 53 = .ok (.iaload, 1) := by decide +kernel
theorem dX6_awakeFor_54 : decode cX6_awakeFor 54 = .ok (.iload 4, 2) := by decide +kernel
theorem dX6_awakeFor_56 : decode cX6_awakeFor 56 = .ok (.aload_n 0, 1) := by decide +kernel
theorem dX6_awakeFor_57 : decode cX6_awakeFor 57 = .ok (.getfield 86, 3) := by decide +kernel
theorem dX6_awakeFor_60 : decode cX6_awakeFor 60 = .ok (.iload 5, 2) := by decide +kernel
theorem dX6_awakeFor_62 : decode cX6_awakeFor 62 = .ok (.iadd, 1) := by decide +kernel
theorem dX6_awakeFor_63 : decode cX6_awakeFor 63 = .ok (.iconst 1, 1) := by decide +kernel
theorem dX6_awakeFor_64 : decode cX6_awakeFor 64 = .ok (.invokestatic 95, 3) := by decide +kernel
theorem dX6_awakeFor_67 : decode cX6_awakeFor 67 = .ok (.iadd, 1) := by decide +kernel
theorem dX6_awakeFor_68 : decode cX6_awakeFor 68 = .ok (.istore 4, 2) := by decide +kernel
theorem dX6_awakeFor_70 : decode cX6_awakeFor 70 = .ok (.iload_n 3, 1) := by decide +kernel
theorem dX6_awakeFor_71 : decode cX6_awakeFor 71 = .ok (.bipush 10, 2) := by decide +kernel
theorem dX6_awakeFor_73 : decode cX6_awakeFor 73 = .ok (.if_icmp .ge 10, 3) := by decide +kernel
theorem dX6_awakeFor_76 : decode cX6_awakeFor 76 = .ok (.iload 4, 2) := by decide +kernel
theorem dX6_awakeFor_78 : decode cX6_awakeFor 78 = .ok (.bipush 10, 2) := by decide +kernel
theorem dX6_awakeFor_80 : decode cX6_awakeFor 80 = .ok (.if_icmp .lt 6, 3) := by decide +kernel
theorem dX6_awakeFor_83 : decode cX6_awakeFor 83 = .ok (.iload 5, 2) := by decide +kernel
theorem dX6_awakeFor_85 : decode cX6_awakeFor 85 = .ok (.ireturn, 1) := by decide +kernel
theorem dX6_awakeFor_86 : decode cX6_awakeFor 86 = .ok (.iinc 5 1, 3) := by decide +kernel
theorem dX6_awakeFor_89 : decode cX6_awakeFor 89 = .ok (.goto (-71), 3) := by decide +kernel
theorem dX6_awakeFor_92 : decode cX6_awakeFor 92 = .ok (.bipush 60, 2) := by decide +kernel
theorem dX6_awakeFor_94 : decode cX6_awakeFor 94 = .ok (.ireturn, 1) := by decide +kernel
theorem dX6_sundayNow_0 : decode cX6_sundayNow 0 = .ok (.iconst (-1), 1) := by decide +kernel
theorem dX6_sundayNow_1 : decode cX6_sundayNow 1 = .ok (.istore_n 2, 1) := by decide +kernel
theorem dX6_sundayNow_2 : decode cX6_sundayNow 2 = .ok (.iconst (-1), 1) := by decide +kernel
theorem dX6_sundayNow_3 : decode cX6_sundayNow 3 = .ok (.istore_n 3, 1) := by decide +kernel
theorem dX6_sundayNow_4 : decode cX6_sundayNow 4 = .ok (.iconst 0, 1) := by decide +kernel
theorem dX6_sundayNow_5 : decode cX6_sundayNow 5 = .ok (.istore 4, 2) := by decide +kernel
theorem dX6_sundayNow_7 : decode cX6_sundayNow 7 = .ok (.iload 4, 2) := by decide +kernel
theorem dX6_sundayNow_9 : decode cX6_sundayNow 9 = .ok (.bipush 50, 2) := by decide +kernel
theorem dX6_sundayNow_11 : decode cX6_sundayNow 11 = .ok (.if_icmp .ge 84, 3) := by decide +kernel
theorem dX6_sundayNow_14 : decode cX6_sundayNow 14 = .ok (.iload 4, 2) := by decide +kernel
theorem dX6_sundayNow_16 : decode cX6_sundayNow 16 = .ok (.bipush 10, 2) := by decide +kernel
theorem dX6_sundayNow_18 : decode cX6_sundayNow 18 = .ok (.idiv, 1) := by decide +kernel
theorem dX6_sundayNow_19 : decode cX6_sundayNow 19 = .ok (.istore 5, 2) := by decide +kernel
theorem dX6_sundayNow_21 : decode cX6_sundayNow 21 = .ok (.iload 4, 2) := by decide +kernel
theorem dX6_sundayNow_23 : decode cX6_sundayNow 23 = .ok (.bipush 10, 2) := by decide +kernel
theorem dX6_sundayNow_25 : decode cX6_sundayNow 25 = .ok (.irem, 1) := by decide +kernel
theorem dX6_sundayNow_26 : decode cX6_sundayNow 26 = .ok (.istore 6, 2) := by decide +kernel
theorem dX6_sundayNow_28 : decode cX6_sundayNow 28 = .ok (.iload 5, 2) := by decide +kernel
theorem dX6_sundayNow_30 : decode cX6_sundayNow 30 = .ok (.iload 6, 2) := by decide +kernel
theorem dX6_sundayNow_32 : decode cX6_sundayNow 32 = .ok (.if_icmp .ge 57, 3) := by decide +kernel
theorem dX6_sundayNow_35 : decode cX6_sundayNow 35 = .ok (.aload_n 0, 1) := by decide +kernel
theorem dX6_sundayNow_36 : decode cX6_sundayNow 36 = .ok (.iload 5, 2) := by decide +kernel
theorem dX6_sundayNow_38 : decode cX6_sundayNow 38 = .ok (.invokevirtual 154, 3) := by decide +kernel
theorem dX6_sundayNow_41 : decode cX6_sundayNow 41 = .ok (.ifCond .eq 48, 3) := by decide +kernel
theorem dX6_sundayNow_44 : decode cX6_sundayNow 44 = .ok (.aload_n 0, 1) := by decide +kernel
theorem dX6_sundayNow_45 : decode cX6_sundayNow 45 = .ok (.iload 6, 2) := by decide +kernel
theorem dX6_sundayNow_47 : decode cX6_sundayNow 47 = .ok (.invokevirtual 154, 3) := by decide +kernel
theorem dX6_sundayNow_50 : decode cX6_sundayNow 50 = .ok (.ifCond .eq 39, 3) := by decide +kernel
theorem dX6_sundayNow_53 : decode cX6_sundayNow 53 = .ok (.aload_n 0, 1) := by decide +kernel
theorem dX6_sundayNow_54 : decode cX6_sundayNow 54 = .ok (.iload 5, 2) := by decide +kernel
theorem dX6_sundayNow_56 : decode cX6_sundayNow 56 = .ok (.iload 6, 2) := by decide +kernel
theorem dX6_sundayNow_58 : decode cX6_sundayNow 58 = .ok (.invokevirtual 157, 3) := by decide +kernel
theorem dX6_sundayNow_61 : decode cX6_sundayNow 61 = .ok (.istore 7, 2) := by decide +kernel
theorem dX6_sundayNow_63 : decode cX6_sundayNow 63 = .ok (.iload 7, 2) := by decide +kernel
theorem dX6_sundayNow_65 : decode cX6_sundayNow 65 = .ok (.iload_n 3, 1) := by decide +kernel
theorem dX6_sundayNow_66 : decode cX6_sundayNow 66 = .ok (.if_icmp .le 8, 3) := by decide +kernel
theorem dX6_sundayNow_69 : decode cX6_sundayNow 69 = .ok (.iload 4, 2) := by decide +kernel
theorem dX6_sundayNow_71 : decode cX6_sundayNow 71 = .ok (.goto 4, 3) := by decide +kernel
theorem dX6_sundayNow_74 : decode cX6_sundayNow 74 = .ok (.iload_n 2, 1) := by decide +kernel
theorem dX6_sundayNow_75 : decode cX6_sundayNow 75 = .ok (.istore_n 2, 1) := by decide +kernel
theorem dX6_sundayNow_76 : decode cX6_sundayNow 76 = .ok (.iload 7, 2) := by decide +kernel
theorem dX6_sundayNow_78 : decode cX6_sundayNow 78 = .ok (.iload_n 3, 1) := by decide +kernel
theorem dX6_sundayNow_79 : decode cX6_sundayNow 79 = .ok (.if_icmp .le 8, 3) := by decide +kernel
theorem dX6_sundayNow_82 : decode cX6_sundayNow 82 = .ok (.iload 7, 2) := by decide +kernel
theorem dX6_sundayNow_84 : decode cX6_sundayNow 84 = .ok (.goto 4, 3) := by decide +kernel
theorem dX6_sundayNow_87 : decode cX6_sundayNow 87 = .ok (.iload_n 3, 1) := by decide +kernel
theorem dX6_sundayNow_88 : decode cX6_sundayNow 88 = .ok (.istore_n 3, 1) := by decide +kernel
theorem dX6_sundayNow_89 : decode cX6_sundayNow 89 = .ok (.iinc 4 1, 3) := by decide +kernel
theorem dX6_sundayNow_92 : decode cX6_sundayNow 92 = .ok (.goto (-85), 3) := by decide +kernel
theorem dX6_sundayNow_95 : decode cX6_sundayNow 95 = .ok (.iload_n 1, 1) := by decide +kernel
theorem dX6_sundayNow_96 : decode cX6_sundayNow 96 = .ok (.ifCond .ne 7, 3) := by decide +kernel
theorem dX6_sundayNow_99 : decode cX6_sundayNow 99 = .ok (.iload_n 2, 1) := by decide +kernel
theorem dX6_sundayNow_100 : decode cX6_sundayNow 100 = .ok (.goto 4, 3) := by decide +kernel
theorem dX6_sundayNow_103 : decode cX6_sundayNow 103 = .ok (.iload_n 3, 1) := by decide +kernel
theorem dX6_sundayNow_104 : decode cX6_sundayNow 104 = .ok (.ireturn, 1) := by decide +kernel
theorem dX6_sunday_0 : decode cX6_sunday 0 = .ok (.iload_n 1, 1) := by decide +kernel
theorem dX6_sunday_1 : decode cX6_sunday 1 = .ok (.iconst 0, 1) := by decide +kernel
theorem dX6_sunday_2 : decode cX6_sunday 2 = .ok (.iconst 1, 1) := by decide +kernel
theorem dX6_sunday_3 : decode cX6_sunday 3 = .ok (.invokestatic 51, 3) := by decide +kernel
theorem dX6_sunday_6 : decode cX6_sunday 6 = .ok (.ifCond .ne 6, 3) := by decide +kernel
theorem dX6_sunday_9 : decode cX6_sunday 9 = .ok (.bipush (-102), 2) := by decide +kernel
theorem dX6_sunday_11 : decode cX6_sunday 11 = .ok (.ireturn, 1) := by decide +kernel
theorem dX6_sunday_12 : decode cX6_sunday 12 = .ok (.aload_n 0, 1) := by decide +kernel
theorem dX6_sunday_13 : decode cX6_sunday 13 = .ok (.getfield 77, 3) := by decide +kernel
theorem dX6_sunday_16 : decode cX6_sunday 16 = .ok (.ifCond .ne 8, 3) := by decide +kernel
theorem dX6_sunday_19 : decode cX6_sunday 19 = .ok (.bipush (-103), 2) := by decide +kernel
theorem dX6_sunday_21 : decode cX6_sunday 21 = .ok (.goto 8, 3) := by decide +kernel
theorem dX6_sunday_24 : decode cX6_sunday 24 = .ok (.aload_n 0, 1) := by decide +kernel
theorem dX6_sunday_25 : decode cX6_sunday 25 = .ok (.iload_n 1, 1) := by decide +kernel
theorem dX6_sunday_26 : decode cX6_sunday 26 = .ok (.invokevirtual 160, 3) := by decide +kernel
theorem dX6_sunday_29 : decode cX6_sunday 29 = .ok (.ireturn, 1) := by decide +kernel
theorem dX6_see_0 : decode cX6_see 0 = .ok (.iload_n 1, 1) := by decide +kernel
theorem dX6_see_1 : decode cX6_see 1 = .ok (.iconst 0, 1) := by decide +kernel
theorem dX6_see_2 : decode cX6_see 2 = .ok (.bipush 12, 2) := by decide +kernel
theorem dX6_see_4 : decode cX6_see 4 = .ok (.invokestatic 51, 3) := by decide +kernel
theorem dX6_see_7 : decode cX6_see 7 = .ok (.ifCond .ne 6, 3) := by decide +kernel
theorem dX6_see_10 : decode cX6_see 10 = .ok (.bipush (-102), 2) := by decide +kernel
theorem dX6_see_12 : decode cX6_see 12 = .ok (.ireturn, 1) := by decide +kernel
theorem dX6_see_13 : decode cX6_see 13 = .ok (.iload_n 2, 1) := by decide +kernel
theorem dX6_see_14 : decode cX6_see 14 = .ok (.iconst (-1), 1) := by decide +kernel
theorem dX6_see_15 : decode cX6_see 15 = .ok (.if_icmp .eq 14, 3) := by decide +kernel
theorem dX6_see_18 : decode cX6_see 18 = .ok (.aload_n 0, 1) := by decide +kernel
theorem dX6_see_19 : decode cX6_see 19 = .ok (.iload_n 2, 1) := by decide +kernel
theorem dX6_see_20 : decode cX6_see 20 = .ok (.invokevirtual 112, 3) := by decide +kernel
theorem dX6_see_23 : decode cX6_see 23 = .ok (.ifCond .ne 6, 3) := by decide +kernel
theorem dX6_see_26 : decode cX6_see 26 = .ok (.bipush (-101), 2) := by decide +kernel
theorem dX6_see_28 : decode cX6_see 28 = .ok (.ireturn, 1) := by decide +kernel
theorem dX6_see_29 : decode cX6_see 29 = .ok (.aload_n 0, 1) := by decide +kernel
theorem dX6_see_30 : decode cX6_see 30 = .ok (.getfield 89, 3) := by decide +kernel
theorem dX6_see_33 : decode cX6_see 33 = .ok (.bipush 6, 2) := by decide +kernel
theorem dX6_see_35 : decode cX6_see 35 = .ok (.if_icmp .ne 6, 3) := by decide +kernel
theorem dX6_see_38 : decode cX6_see 38 = .ok (.bipush (-104), 2) := by decide +kernel
theorem dX6_see_40 : decode cX6_see 40 = .ok (.ireturn, 1) := by decide +kernel
theorem dX6_see_41 : decode cX6_see 41 = .ok (.aload_n 0, 1) := by decide +kernel
theorem dX6_see_42 : decode cX6_see 42 = .ok (.getfield 23, 3) := by decide +kernel
theorem dX6_see_45 : decode cX6_see 45 = .ok (.aload_n 0, 1) := by decide +kernel
theorem dX6_see_46 : decode cX6_see 46 = .ok (.getfield 89, 3) := by decide +kernel
theorem dX6_see_49 : decode cX6_see 49 = .ok (.iload_n 1, 1) := by decide +kernel
theorem dX6_see_50 : decode cX6_see 50 = .ok (.iastore, 1) := by decide +kernel
theorem dX6_see_51 : decode cX6_see 51 = .ok (.aload_n 0, 1) := by decide +kernel
theorem dX6_see_52 : decode cX6_see 52 = .ok (.getfield 26, 3) := by decide +kernel
theorem dX6_see_55 : decode cX6_see 55 = .ok (.aload_n 0, 1) := by decide +kernel
theorem dX6_see_56 : decode cX6_see 56 = .ok (.getfield 89, 3) := by decide +kernel
theorem dX6_see_59 : decode cX6_see 59 = .ok (.iload_n 2, 1) := by decide +kernel
theorem dX6_see_60 : decode cX6_see 60 = .ok (.iastore, 1) := by decide +kernel
theorem dX6_see_61 : decode cX6_see 61 = .ok (.aload_n 0, 1) := by decide +kernel
theorem dX6_see_62 : decode cX6_see 62 = .ok (.dup, 1) := by decide +kernel
theorem dX6_see_63 : decode cX6_see 63 = .ok (.getfield 89, 3) := by decide +kernel
theorem dX6_see_66 : decode cX6_see 66 = .ok (.iconst 1, 1) := by decide +kernel
theorem dX6_see_67 : decode cX6_see 67 = .ok (.iadd, 1) := by decide +kernel
theorem dX6_see_68 : decode cX6_see 68 = .ok (.putfield 89, 3) := by decide +kernel
theorem dX6_see_71 : decode cX6_see 71 = .ok (.aload_n 0, 1) := by decide +kernel
theorem dX6_see_72 : decode cX6_see 72 = .ok (.getfield 89, 3) := by decide +kernel
theorem dX6_see_75 : decode cX6_see 75 = .ok (.ireturn, 1) := by decide +kernel
theorem dX6_forget_0 : decode cX6_forget 0 = .ok (.aload_n 0, 1) := by decide +kernel
theorem dX6_forget_1 : decode cX6_forget 1 = .ok (.getfield 89, 3) := by decide +kernel
theorem dX6_forget_4 : decode cX6_forget 4 = .ok (.istore_n 1, 1) := by decide +kernel
theorem dX6_forget_5 : decode cX6_forget 5 = .ok (.aload_n 0, 1) := by decide +kernel
theorem dX6_forget_6 : decode cX6_forget 6 = .ok (.iconst 0, 1) := by decide +kernel
theorem dX6_forget_7 : decode cX6_forget 7 = .ok (.putfield 89, 3) := by decide +kernel
theorem dX6_forget_10 : decode cX6_forget 10 = .ok (.iload_n 1, 1) := by decide +kernel
theorem dX6_forget_11 : decode cX6_forget 11 = .ok (.ireturn, 1) := by decide +kernel
theorem dX6_layTired_0 : decode cX6_layTired 0 = .ok (.aload_n 0, 1) := by decide +kernel
theorem dX6_layTired_1 : decode cX6_layTired 1 = .ok (.invokevirtual 132, 3) := by decide +kernel
theorem dX6_layTired_4 : decode cX6_layTired 4 = .ok (.iconst 0, 1) := by decide +kernel
theorem dX6_layTired_5 : decode cX6_layTired 5 = .ok (.istore_n 2, 1) := by decide +kernel
theorem dX6_layTired_6 : decode cX6_layTired 6 = .ok (.iload_n 2, 1) := by decide +kernel
theorem dX6_layTired_7 : decode cX6_layTired 7 = .ok (.bipush 10, 2) := by decide +kernel
theorem dX6_layTired_9 : decode cX6_layTired 9 = .ok (.if_icmp .ge 61, 3) := by decide +kernel
theorem dX6_layTired_12 : decode cX6_layTired 12 = .ok (.aload_n 0, 1) := by decide +kernel
theorem dX6_layTired_13 : decode cX6_layTired 13 = .ok (.iconst 0, 1) := by decide +kernel
theorem dX6_layTired_14 : decode cX6_layTired 14 = .ok (.invokevirtual 103, 3) := by decide +kernel
theorem dX6_layTired_17 : decode cX6_layTired 17 = .ok (.aload_n 0, 1) := by decide +kernel
theorem dX6_layTired_18 : decode cX6_layTired 18 = .ok (.getfield 13, 3) := by decide +kernel
theorem dX6_layTired_21 : decode cX6_layTired 21 = .ok (.iload_n 1, 1) := by decide +kernel
theorem dX6_layTired_22 : decode cX6_layTired 22 = .ok (.iload_n 2, 1) := by decide +kernel
theorem dX6_layTired_23 : decode cX6_layTired 23 = .ok (.iastore, 1) := by decide +kernel
theorem dX6_layTired_24 : decode cX6_layTired 24 = .ok (.aload_n 0, 1) := by decide +kernel
theorem dX6_layTired_25 : decode cX6_layTired 25 = .ok (.getfield 16, 3) := by decide +kernel
theorem dX6_layTired_28 : decode cX6_layTired 28 = .ok (.iload_n 1, 1) := by decide +kernel
theorem dX6_layTired_29 : decode cX6_layTired 29 = .ok (.iconst 0, 1) := by decide +kernel
theorem dX6_layTired_30 : decode cX6_layTired 30 = .ok (.bastore, 1) := by decide +kernel
theorem dX6_layTired_31 : decode cX6_layTired 31 = .ok (.iconst 0, 1) := by decide +kernel
theorem dX6_layTired_32 : decode cX6_layTired 32 = .ok (.istore_n 3, 1) := by decide +kernel
theorem dX6_layTired_33 : decode cX6_layTired 33 = .ok (.iload_n 3, 1) := by decide +kernel
theorem dX6_layTired_34 : decode cX6_layTired 34 = .ok (.bipush 12, 2) := by decide +kernel
theorem dX6_layTired_36 : decode cX6_layTired 36 = .ok (.if_icmp .gt 28, 3) := by decide +kernel
theorem dX6_layTired_39 : decode cX6_layTired 39 = .ok (.aload_n 0, 1) := by decide +kernel
theorem dX6_layTired_40 : decode cX6_layTired 40 = .ok (.getfield 39, 3) := by decide +kernel
theorem dX6_layTired_43 : decode cX6_layTired 43 = .ok (.bipush 13, 2) := by decide +kernel
theorem dX6_layTired_45 : decode cX6_layTired 45 = .ok (.iload_n 2, 1) := by decide +kernel
theorem dX6_layTired_46 : decode cX6_layTired 46 = .ok (.imul, 1) := by decide +kernel
theorem dX6_layTired_47 : decode cX6_layTired 47 = .ok (.iload_n 3, 1) := by decide +kernel
theorem dX6_layTired_48 : decode cX6_layTired 48 = .ok (.iadd, 1) := by decide +kernel
theorem dX6_layTired_49 : decode cX6_layTired 49 = .ok (.aload_n 0, 1) := by decide +kernel
theorem dX6_layTired_50 : decode cX6_layTired 50 = .ok (.invokevirtual 92, 3) := by decide +kernel
theorem dX6_layTired_53 : decode cX6_layTired 53 = .ok (.iastore, 1) := by decide +kernel
theorem dX6_layTired_54 : decode cX6_layTired 54 = .ok (.aload_n 0, 1) := by decide +kernel
theorem dX6_layTired_55 : decode cX6_layTired 55 = .ok (.invokevirtual 126, 3) := by decide +kernel
theorem dX6_layTired_58 : decode cX6_layTired 58 = .ok (.iinc 3 1, 3) := by decide +kernel
theorem dX6_layTired_61 : decode cX6_layTired 61 = .ok (.goto (-28), 3) := by decide +kernel
theorem dX6_layTired_64 : decode cX6_layTired 64 = .ok (.iinc 2 1, 3) := by decide +kernel
theorem dX6_layTired_67 : decode cX6_layTired 67 = .ok (.goto (-61), 3) := by decide +kernel
theorem dX6_layTired_70 : decode cX6_layTired 70 = .ok (.aload_n 0, 1) := by decide +kernel
theorem dX6_layTired_71 : decode cX6_layTired 71 = .ok (.invokevirtual 135, 3) := by decide +kernel
theorem dX6_layTired_74 : decode cX6_layTired 74 = .ok (.return_, 1) := by decide +kernel
theorem dX6_fitting_0 : decode cX6_fitting 0 = .ok (.iconst 0, 1) := by decide +kernel
theorem dX6_fitting_1 : decode cX6_fitting 1 = .ok (.istore_n 1, 1) := by decide +kernel
theorem dX6_fitting_2 : decode cX6_fitting 2 = .ok (.iconst 0, 1) := by decide +kernel
theorem dX6_fitting_3 : decode cX6_fitting 3 = .ok (.istore_n 2, 1) := by decide +kernel
theorem dX6_fitting_4 : decode cX6_fitting 4 = .ok (.iload_n 2, 1) := by decide +kernel
theorem dX6_fitting_5 : decode cX6_fitting 5 = .ok (.bipush 10, 2) := by decide +kernel
theorem dX6_fitting_7 : decode cX6_fitting 7 = .ok (.if_icmp .ge 80, 3) := by decide +kernel
theorem dX6_fitting_10 : decode cX6_fitting 10 = .ok (.iconst 1, 1) := by decide +kernel
theorem dX6_fitting_11 : decode cX6_fitting 11 = .ok (.istore_n 3, 1) := by decide +kernel
theorem dX6_fitting_12 : decode cX6_fitting 12 = .ok (.iconst 0, 1) := by decide +kernel
theorem dX6_fitting_13 : decode cX6_fitting 13 = .ok (.istore 4, 2) := by decide +kernel
theorem dX6_fitting_15 : decode cX6_fitting 15 = .ok (.iload 4, 2) := by decide +kernel
theorem dX6_fitting_17 : decode cX6_fitting 17 = .ok (.aload_n 0, 1) := by decide +kernel
theorem dX6_fitting_18 : decode cX6_fitting 18 = .ok (.getfield 89, 3) := by decide +kernel
theorem dX6_fitting_21 : decode cX6_fitting 21 = .ok (.if_icmp .ge 46, 3) := by decide +kernel
theorem dX6_fitting_24 : decode cX6_fitting 24 = .ok (.iload_n 3, 1) := by decide +kernel
theorem dX6_fitting_25 : decode cX6_fitting 25 = .ok (.ifCond .eq 34, 3) := by decide +kernel
theorem dX6_fitting_28 : decode cX6_fitting 28 = .ok (.aload_n 0, 1) := by decide +kernel
theorem dX6_fitting_29 : decode cX6_fitting 29 = .ok (.getfield 39, 3) := by decide +kernel
theorem dX6_fitting_32 : decode cX6_fitting 32 = .ok (.bipush 13, 2) := by decide +kernel
theorem dX6_fitting_34 : decode cX6_fitting 34 = .ok (.iload_n 2, 1) := by decide +kernel
theorem dX6_fitting_35 : decode cX6_fitting 35 = .ok (.imul, 1) := by decide +kernel
theorem dX6_fitting_36 : decode cX6_fitting 36 = .ok (.aload_n 0, 1) := by decide +kernel
theorem dX6_fitting_37 : decode cX6_fitting 37 = .ok (.getfield 23, 3) := by decide +kernel
theorem dX6_fitting_40 : decode cX6_fitting 40 = .ok (.iload 4, 2) := by decide +kernel
theorem dX6_fitting_42 : decode cX6_fitting 42 = .ok (.iaload, 1) := by decide +kernel
theorem dX6_fitting_43 : decode cX6_fitting 43 = .ok (.iadd, 1) := by decide +kernel
theorem dX6_fitting_44 : decode cX6_fitting 44 = .ok (.iaload, 1) := by decide +kernel
theorem dX6_fitting_45 : decode cX6_fitting 45 = .ok (.aload_n 0, 1) := by decide +kernel
theorem dX6_fitting_46 : decode cX6_fitting 46 = .ok (.getfield 26, 3) := by decide +kernel
theorem dX6_fitting_49 : decode cX6_fitting 49 = .ok (.iload 4, 2) := by decide +kernel
theorem dX6_fitting_51 : decode cX6_fitting 51 = .ok (.iaload, 1) := by decide +kernel
theorem dX6_fitting_52 : decode cX6_fitting 52 = .ok (.if_icmp .ne 7, 3) := by decide +kernel
theorem dX6_fitting_55 : decode cX6_fitting 55 = .ok (.iconst 1, 1) := by decide +kernel
theorem dX6_fitting_56 : decode cX6_fitting 56 = .ok (.goto 4, 3) := by decide +kernel
theorem dX6_fitting_59 : decode cX6_fitting 59 = .ok (.iconst 0, 1) := by decide +kernel
theorem dX6_fitting_60 : decode cX6_fitting 60 = .ok (.istore_n 3, 1) := by decide +kernel
theorem dX6_fitting_61 : decode cX6_fitting 61 = .ok (.iinc 4 1, 3) := by decide +kernel
theorem dX6_fitting_64 : decode cX6_fitting 64 = .ok (.goto (-49), 3) := by decide +kernel
theorem dX6_fitting_67 : decode cX6_fitting 67 = .ok (.iload_n 1, 1) := by decide +kernel
theorem dX6_fitting_68 : decode cX6_fitting 68 = .ok (.iload_n 3, 1) := by decide +kernel
theorem dX6_fitting_69 : decode cX6_fitting 69 = .ok (.ifCond .eq 9, 3) := by decide +kernel
theorem dX6_fitting_72 : decode cX6_fitting 72 = .ok (.iconst 1, 1) := by decide +kernel
theorem dX6_fitting_73 : decode cX6_fitting 73 = .ok (.iload_n 2, 1) := by decide +kernel
theorem dX6_fitting_74 : decode cX6_fitting 74 = .ok (.ishl, 1) := by decide +kernel
theorem dX6_fitting_75 : decode cX6_fitting 75 = .ok (.goto 4, 3) := by decide +kernel
theorem dX6_fitting_78 : decode cX6_fitting 78 = .ok (.iconst 0, 1) := by decide +kernel
theorem dX6_fitting_79 : decode cX6_fitting 79 = .ok (.ior, 1) := by decide +kernel
theorem dX6_fitting_80 : decode cX6_fitting 80 = .ok (.istore_n 1, 1) := by decide +kernel
theorem dX6_fitting_81 : decode cX6_fitting 81 = .ok (.iinc 2 1, 3) := by decide +kernel
theorem dX6_fitting_84 : decode cX6_fitting 84 = .ok (.goto (-80), 3) := by decide +kernel
theorem dX6_fitting_87 : decode cX6_fitting 87 = .ok (.iload_n 1, 1) := by decide +kernel
theorem dX6_fitting_88 : decode cX6_fitting 88 = .ok (.ireturn, 1) := by decide +kernel
theorem dX6_howTired_0 : decode cX6_howTired 0 = .ok (.aload_n 0, 1) := by decide +kernel
theorem dX6_howTired_1 : decode cX6_howTired 1 = .ok (.iload_n 1, 1) := by decide +kernel
theorem dX6_howTired_2 : decode cX6_howTired 2 = .ok (.invokevirtual 163, 3) := by decide +kernel
theorem dX6_howTired_5 : decode cX6_howTired 5 = .ok (.aload_n 0, 1) := by decide +kernel
theorem dX6_howTired_6 : decode cX6_howTired 6 = .ok (.invokevirtual 166, 3) := by decide +kernel
theorem dX6_howTired_9 : decode cX6_howTired 9 = .ok (.ireturn, 1) := by decide +kernel
theorem dX6_worstBehind_0 : decode cX6_worstBehind 0 = .ok (.iconst 0, 1) := by decide +kernel
theorem dX6_worstBehind_1 : decode cX6_worstBehind 1 = .ok (.istore_n 3, 1) := by decide +kernel
theorem dX6_worstBehind_2 : decode cX6_worstBehind 2 = .ok (.iconst (-1), 1) := by decide +kernel
theorem dX6_worstBehind_3 : decode cX6_worstBehind 3 = .ok (.istore 4, 2) := by decide +kernel
theorem dX6_worstBehind_5 : decode cX6_worstBehind 5 = .ok (.iload 4, 2) := by decide +kernel
theorem dX6_worstBehind_7 : decode cX6_worstBehind 7 = .ok (.aload_n 0, 1) := by decide +kernel
theorem dX6_worstBehind_8 : decode cX6_worstBehind 8 = .ok (.getfield 77, 3) := by decide +kernel
theorem dX6_worstBehind_11 : decode cX6_worstBehind 11 = .ok (.if_icmp .ge 77, 3) := by decide +kernel
theorem dX6_worstBehind_14 : decode cX6_worstBehind 14 = .ok (.iconst 0, 1) := by decide +kernel
theorem dX6_worstBehind_15 : decode cX6_worstBehind 15 = .ok (.istore 5, 2) := by decide +kernel
theorem dX6_worstBehind_17 : decode cX6_worstBehind 17 = .ok (.iconst 0, 1) := by decide +kernel
theorem dX6_worstBehind_18 : decode cX6_worstBehind 18 = .ok (.istore 6, 2) := by decide +kernel
theorem dX6_worstBehind_20 : decode cX6_worstBehind 20 = .ok (.iload 6, 2) := by decide +kernel
theorem dX6_worstBehind_22 : decode cX6_worstBehind 22 = .ok (.bipush 10, 2) := by decide +kernel
theorem dX6_worstBehind_24 : decode cX6_worstBehind 24 = .ok (.if_icmp .ge 45, 3) := by decide +kernel
theorem dX6_worstBehind_27 : decode cX6_worstBehind 27 = .ok (.iload 5, 2) := by decide +kernel
theorem dX6_worstBehind_29 : decode cX6_worstBehind 29 = .ok (.iload_n 1, 1) := by decide +kernel
theorem dX6_worstBehind_30 : decode cX6_worstBehind 30 = .ok (.iload 6, 2) := by decide +kernel
theorem dX6_worstBehind_32 : decode cX6_worstBehind 32 = .ok (.invokestatic 169, 3) := by decide +kernel
theorem dX6_worstBehind_35 : decode cX6_worstBehind 35 = .ok (.ifCond .eq 24, 3) := by decide +kernel
theorem dX6_worstBehind_38 : decode cX6_worstBehind 38 = .ok (.aload_n 0, 1) := by decide +kernel
theorem dX6_worstBehind_39 : decode cX6_worstBehind 39 = .ok (.getfield 39, 3) := by decide +kernel
theorem dX6_worstBehind_42 : decode cX6_worstBehind 42 = .ok (.bipush 13, 2) := by decide +kernel
theorem dX6_worstBehind_44 : decode cX6_worstBehind 44 = .ok (.iload 6, 2) := by decide +kernel
theorem dX6_worstBehind_46 : decode cX6_worstBehind 46 = .ok (.imul, 1) := by decide +kernel
theorem dX6_worstBehind_47 : decode cX6_worstBehind 47 = .ok (.iload_n 2, 1) := by decide +kernel
theorem dX6_worstBehind_48 : decode cX6_worstBehind 48 = .ok (.iadd, 1) := by decide +kernel
theorem dX6_worstBehind_49 : decode cX6_worstBehind 49 = .ok (.iaload, 1) := by decide +kernel
theorem dX6_worstBehind_50 : decode cX6_worstBehind 50 = .ok (.iload 4, 2) := by decide +kernel
theorem dX6_worstBehind_52 : decode cX6_worstBehind 52 = .ok (.if_icmp .ne 7, 3) := by decide +kernel
theorem dX6_worstBehind_55 : decode cX6_worstBehind 55 = .ok (.iconst 1, 1) := by decide +kernel
theorem dX6_worstBehind_56 : decode cX6_worstBehind 56 = .ok (.goto 4, 3) := by decide +kernel
theorem dX6_worstBehind_59 : decode cX6_worstBehind 59 = .ok (.iconst 0, 1) := by decide +kernel
theorem dX6_worstBehind_60 : decode cX6_worstBehind 60 = .ok (.iadd, 1) := by decide +kernel
theorem dX6_worstBehind_61 : decode cX6_worstBehind 61 = .ok (.istore 5, 2) := by decide +kernel
theorem dX6_worstBehind_63 : decode cX6_worstBehind 63 = .ok (.iinc 6 1, 3) := by decide +kernel
theorem dX6_worstBehind_66 : decode cX6_worstBehind 66 = .ok (.goto (-46), 3) := by decide +kernel
theorem dX6_worstBehind_69 : decode cX6_worstBehind 69 = .ok (.iload 5, 2) := by decide +kernel
theorem dX6_worstBehind_71 : decode cX6_worstBehind 71 = .ok (.iload_n 3, 1) := by decide +kernel
theorem dX6_worstBehind_72 : decode cX6_worstBehind 72 = .ok (.if_icmp .le 8, 3) := by decide +kernel
theorem dX6_worstBehind_75 : decode cX6_worstBehind 75 = .ok (.iload 5, 2) := by decide +kernel
theorem dX6_worstBehind_77 : decode cX6_worstBehind 77 = .ok (.goto 4, 3) := by decide +kernel
theorem dX6_worstBehind_80 : decode cX6_worstBehind 80 = .ok (.iload_n 3, 1) := by decide +kernel
theorem dX6_worstBehind_81 : decode cX6_worstBehind 81 = .ok (.istore_n 3, 1) := by decide +kernel
theorem dX6_worstBehind_82 : decode cX6_worstBehind 82 = .ok (.iinc 4 1, 3) := by decide +kernel
theorem dX6_worstBehind_85 : decode cX6_worstBehind 85 = .ok (.goto (-80), 3) := by decide +kernel
theorem dX6_worstBehind_88 : decode cX6_worstBehind 88 = .ok (.iload_n 3, 1) := by decide +kernel
theorem dX6_worstBehind_89 : decode cX6_worstBehind 89 = .ok (.ireturn, 1) := by decide +kernel
theorem dX6_lookOf_0 : decode cX6_lookOf 0 = .ok (.aload_n 0, 1) := by decide +kernel
theorem dX6_lookOf_1 : decode cX6_lookOf 1 = .ok (.iload_n 1, 1) := by decide +kernel
theorem dX6_lookOf_2 : decode cX6_lookOf 2 = .ok (.invokevirtual 163, 3) := by decide +kernel
theorem dX6_lookOf_5 : decode cX6_lookOf 5 = .ok (.aload_n 0, 1) := by decide +kernel
theorem dX6_lookOf_6 : decode cX6_lookOf 6 = .ok (.invokevirtual 166, 3) := by decide +kernel
theorem dX6_lookOf_9 : decode cX6_lookOf 9 = .ok (.istore_n 2, 1) := by decide +kernel
theorem dX6_lookOf_10 : decode cX6_lookOf 10 = .ok (.iconst (-1), 1) := by decide +kernel
theorem dX6_lookOf_11 : decode cX6_lookOf 11 = .ok (.istore_n 3, 1) := by decide +kernel
theorem dX6_lookOf_12 : decode cX6_lookOf 12 = .ok (.ldc 173, 2) := by decide +kernel
theorem dX6_lookOf_14 : decode cX6_lookOf 14 = .ok (.istore 4, 2) := by decide +kernel
theorem dX6_lookOf_16 : decode cX6_lookOf 16 = .ok (.iconst 0, 1) := by decide +kernel
theorem dX6_lookOf_17 : decode cX6_lookOf 17 = .ok (.istore 5, 2) := by decide +kernel
theorem dX6_lookOf_19 : decode cX6_lookOf 19 = .ok (.iload 5, 2) := by decide +kernel
theorem dX6_lookOf_21 : decode cX6_lookOf 21 = .ok (.bipush 12, 2) := by decide +kernel
theorem dX6_lookOf_23 : decode cX6_lookOf 23 = .ok (.if_icmp .gt 52, 3) := by decide +kernel
theorem dX6_lookOf_26 : decode cX6_lookOf 26 = .ok (.iload_n 2, 1) := by decide +kernel
theorem dX6_lookOf_27 : decode cX6_lookOf 27 = .ok (.ifCond .eq 48, 3) := by decide +kernel
theorem dX6_lookOf_30 : decode cX6_lookOf 30 = .ok (.aload_n 0, 1) := by decide +kernel
theorem dX6_lookOf_31 : decode cX6_lookOf 31 = .ok (.iload_n 2, 1) := by decide +kernel
theorem dX6_lookOf_32 : decode cX6_lookOf 32 = .ok (.iload 5, 2) := by decide +kernel
theorem dX6_lookOf_34 : decode cX6_lookOf 34 = .ok (.invokevirtual 174, 3) := by decide +kernel
theorem dX6_lookOf_37 : decode cX6_lookOf 37 = .ok (.istore 6, 2) := by decide +kernel
theorem dX6_lookOf_39 : decode cX6_lookOf 39 = .ok (.iload 6, 2) := by decide +kernel
theorem dX6_lookOf_41 : decode cX6_lookOf 41 = .ok (.iload 4, 2) := by decide +kernel
theorem dX6_lookOf_43 : decode cX6_lookOf 43 = .ok (.if_icmp .ge 8, 3) := by decide +kernel
theorem dX6_lookOf_46 : decode cX6_lookOf 46 = .ok (.iload 5, 2) := by decide +kernel
theorem dX6_lookOf_48 : decode cX6_lookOf 48 = .ok (.goto 4, 3) := by decide +kernel
theorem dX6_lookOf_51 : decode cX6_lookOf 51 = .ok (.iload_n 3, 1) := by decide +kernel
theorem dX6_lookOf_52 : decode cX6_lookOf 52 = .ok (.istore_n 3, 1) := by decide +kernel
theorem dX6_lookOf_53 : decode cX6_lookOf 53 = .ok (.iload 6, 2) := by decide +kernel
theorem dX6_lookOf_55 : decode cX6_lookOf 55 = .ok (.iload 4, 2) := by decide +kernel
theorem dX6_lookOf_57 : decode cX6_lookOf 57 = .ok (.if_icmp .ge 8, 3) := by decide +kernel
theorem dX6_lookOf_60 : decode cX6_lookOf 60 = .ok (.iload 6, 2) := by decide +kernel
theorem dX6_lookOf_62 : decode cX6_lookOf 62 = .ok (.goto 5, 3) := by decide +kernel
theorem dX6_lookOf_65 : decode cX6_lookOf 65 = .ok (.iload 4, 2) := by decide +kernel
theorem dX6_lookOf_67 : decode cX6_lookOf 67 = .ok (.istore 4, 2) := by decide +kernel
theorem dX6_lookOf_69 : decode cX6_lookOf 69 = .ok (.iinc 5 1, 3) := by decide +kernel
theorem dX6_lookOf_72 : decode cX6_lookOf 72 = .ok (.goto (-53), 3) := by decide +kernel
theorem dX6_lookOf_75 : decode cX6_lookOf 75 = .ok (.iload_n 3, 1) := by decide +kernel
theorem dX6_lookOf_76 : decode cX6_lookOf 76 = .ok (.ireturn, 1) := by decide +kernel
theorem dX6_draw_0 : decode cX6_draw 0 = .ok (.aload_n 0, 1) := by decide +kernel
theorem dX6_draw_1 : decode cX6_draw 1 = .ok (.ldc2_w 177, 3) := by decide +kernel
theorem dX6_draw_4 : decode cX6_draw 4 = .ok (.aload_n 0, 1) := by decide +kernel
theorem dX6_draw_5 : decode cX6_draw 5 = .ok (.getfield 179, 3) := by decide +kernel
theorem dX6_draw_8 : decode cX6_draw 8 = .ok (.lmul, 1) := by decide +kernel
theorem dX6_draw_9 : decode cX6_draw 9 = .ok (.ldc2_w 183, 3) := by decide +kernel
theorem dX6_draw_12 : decode cX6_draw 12 = .ok (.ladd, 1) := by decide +kernel
theorem dX6_draw_13 : decode cX6_draw 13 = .ok (.ldc2_w 185, 3) := by decide +kernel
theorem dX6_draw_16 : decode cX6_draw 16 = .ok (.land, 1) := by decide +kernel
theorem dX6_draw_17 : decode cX6_draw 17 = .ok (.putfield 179, 3) := by decide +kernel
theorem dX6_draw_20 : decode cX6_draw 20 = .ok (.aload_n 0, 1) := by decide +kernel
theorem dX6_draw_21 : decode cX6_draw 21 = .ok (.getfield 179, 3) := by decide +kernel
theorem dX6_draw_24 : decode cX6_draw 24 = .ok (.ldc2_w 187, 3) := by decide +kernel
theorem dX6_draw_27 : decode cX6_draw 27 = .ok (.ldiv, 1) := by decide +kernel
theorem dX6_draw_28 : decode cX6_draw 28 = .ok (.iload_n 1, 1) := by decide +kernel
theorem dX6_draw_29 : decode cX6_draw 29 = .ok (.i2l, 1) := by decide +kernel
theorem dX6_draw_30 : decode cX6_draw 30 = .ok (.lrem, 1) := by decide +kernel
theorem dX6_draw_31 : decode cX6_draw 31 = .ok (.l2i, 1) := by decide +kernel
theorem dX6_draw_32 : decode cX6_draw 32 = .ok (.ireturn, 1) := by decide +kernel
theorem dX6_nightsNow_0 : decode cX6_nightsNow 0 = .ok (.aload_n 0, 1) := by decide +kernel
theorem dX6_nightsNow_1 : decode cX6_nightsNow 1 = .ok (.invokevirtual 132, 3) := by decide +kernel
theorem dX6_nightsNow_4 : decode cX6_nightsNow 4 = .ok (.aload_n 0, 1) := by decide +kernel
theorem dX6_nightsNow_5 : decode cX6_nightsNow 5 = .ok (.iload_n 2, 1) := by decide +kernel
theorem dX6_nightsNow_6 : decode cX6_nightsNow 6 = .ok (.i2l, 1) := by decide +kernel
theorem dX6_nightsNow_7 : decode cX6_nightsNow 7 = .ok (.putfield 179, 3) := by decide +kernel
theorem dX6_nightsNow_10 : decode cX6_nightsNow 10 = .ok (.iconst 0, 1) := by decide +kernel
theorem dX6_nightsNow_11 : decode cX6_nightsNow 11 = .ok (.istore 4, 2) := by decide +kernel
theorem dX6_nightsNow_13 : decode cX6_nightsNow 13 = .ok (.iconst 0, 1) := by decide +kernel
theorem dX6_nightsNow_14 : decode cX6_nightsNow 14 = .ok (.istore 5, 2) := by decide +kernel
theorem dX6_nightsNow_16 : decode cX6_nightsNow 16 = .ok (.iload 5, 2) := by decide +kernel
theorem dX6_nightsNow_18 : decode cX6_nightsNow 18 = .ok (.iload_n 1, 1) := by decide +kernel
theorem dX6_nightsNow_19 : decode cX6_nightsNow 19 = .ok (.if_icmp .ge 54, 3) := by decide +kernel
theorem dX6_nightsNow_22 : decode cX6_nightsNow 22 = .ok (.aload_n 0, 1) := by decide +kernel
theorem dX6_nightsNow_23 : decode cX6_nightsNow 23 = .ok (.aload_n 0, 1) := by decide +kernel
theorem dX6_nightsNow_24 : decode cX6_nightsNow 24 = .ok (.aload_n 0, 1) := by decide +kernel
theorem dX6_nightsNow_25 : decode cX6_nightsNow 25 = .ok (.getfield 77, 3) := by decide +kernel
theorem dX6_nightsNow_28 : decode cX6_nightsNow 28 = .ok (.invokevirtual 189, 3) := by decide +kernel
theorem dX6_nightsNow_31 : decode cX6_nightsNow 31 = .ok (.invokevirtual 120, 3) := by decide +kernel
theorem dX6_nightsNow_34 : decode cX6_nightsNow 34 = .ok (.aload_n 0, 1) := by decide +kernel
theorem dX6_nightsNow_35 : decode cX6_nightsNow 35 = .ok (.aload_n 0, 1) := by decide +kernel
theorem dX6_nightsNow_36 : decode cX6_nightsNow 36 = .ok (.aload_n 0, 1) := by decide +kernel
theorem dX6_nightsNow_37 : decode cX6_nightsNow 37 = .ok (.getfield 77, 3) := by decide +kernel
theorem dX6_nightsNow_40 : decode cX6_nightsNow 40 = .ok (.invokevirtual 189, 3) := by decide +kernel
theorem dX6_nightsNow_43 : decode cX6_nightsNow 43 = .ok (.invokevirtual 123, 3) := by decide +kernel
theorem dX6_nightsNow_46 : decode cX6_nightsNow 46 = .ok (.iload 4, 2) := by decide +kernel
theorem dX6_nightsNow_48 : decode cX6_nightsNow 48 = .ok (.aload_n 0, 1) := by decide +kernel
theorem dX6_nightsNow_49 : decode cX6_nightsNow 49 = .ok (.invokevirtual 92, 3) := by decide +kernel
theorem dX6_nightsNow_52 : decode cX6_nightsNow 52 = .ok (.ifCond .ne 7, 3) := by decide +kernel
theorem dX6_nightsNow_55 : decode cX6_nightsNow 55 = .ok (.iconst 1, 1) := by decide +kernel
theorem dX6_nightsNow_56 : decode cX6_nightsNow 56 = .ok (.goto 4, 3) := by decide +kernel
theorem dX6_nightsNow_59 : decode cX6_nightsNow 59 = .ok (.iconst 0, 1) := by decide +kernel
theorem dX6_nightsNow_60 : decode cX6_nightsNow 60 = .ok (.iadd, 1) := by decide +kernel
theorem dX6_nightsNow_61 : decode cX6_nightsNow 61 = .ok (.istore 4, 2) := by decide +kernel
theorem dX6_nightsNow_63 : decode cX6_nightsNow 63 = .ok (.aload_n 0, 1) := by decide +kernel
theorem dX6_nightsNow_64 : decode cX6_nightsNow 64 = .ok (.invokevirtual 126, 3) := by decide +kernel
theorem dX6_nightsNow_67 : decode cX6_nightsNow 67 = .ok (.iinc 5 1, 3) := by decide +kernel
theorem dX6_nightsNow_70 : decode cX6_nightsNow 70 = .ok (.goto (-54), 3) := by decide +kernel
theorem dX6_nightsNow_73 : decode cX6_nightsNow 73 = .ok (.aload_n 0, 1) := by decide +kernel
theorem dX6_nightsNow_74 : decode cX6_nightsNow 74 = .ok (.invokevirtual 129, 3) := by decide +kernel
theorem dX6_nightsNow_77 : decode cX6_nightsNow 77 = .ok (.istore 5, 2) := by decide +kernel
theorem dX6_nightsNow_79 : decode cX6_nightsNow 79 = .ok (.aload_n 0, 1) := by decide +kernel
theorem dX6_nightsNow_80 : decode cX6_nightsNow 80 = .ok (.invokevirtual 135, 3) := by decide +kernel
theorem dX6_nightsNow_83 : decode cX6_nightsNow 83 = .ok (.iload_n 3, 1) := by decide +kernel
theorem dX6_nightsNow_84 : decode cX6_nightsNow 84 = .ok (.ifCond .ne 8, 3) := by decide +kernel
theorem dX6_nightsNow_87 : decode cX6_nightsNow 87 = .ok (.iload 4, 2) := by decide +kernel
theorem dX6_nightsNow_89 : decode cX6_nightsNow 89 = .ok (.goto 18, 3) := by decide +kernel
theorem dX6_nightsNow_92 : decode cX6_nightsNow 92 = .ok (.iload_n 3, 1) := by decide +kernel
theorem dX6_nightsNow_93 : decode cX6_nightsNow 93 = .ok (.iconst 1, 1) := by decide +kernel
theorem dX6_nightsNow_94 : decode cX6_nightsNow 94 = .ok (.if_icmp .ne 8, 3) := by decide +kernel
theorem dX6_nightsNow_97 : decode cX6_nightsNow 97 = .ok (.iload 5, 2) := by decide +kernel
theorem dX6_nightsNow_99 : decode cX6_nightsNow 99 = .ok (.goto 8, 3) := by decide +kernel
theorem dX6_nightsNow_102 : decode cX6_nightsNow 102 = .ok (.aload_n 0, 1) := by decide +kernel
theorem dX6_nightsNow_103 : decode cX6_nightsNow 103 = .ok (.getfield 179, 3) := by decide +kernel
theorem dX6_nightsNow_106 : decode cX6_nightsNow 106 = .ok (.l2i, 1) := by decide +kernel
theorem dX6_nightsNow_107 : decode cX6_nightsNow 107 = .ok (.ireturn, 1) := by decide +kernel
theorem dX6_nights_0 : decode cX6_nights 0 = .ok (.iload_n 1, 1) := by decide +kernel
theorem dX6_nights_1 : decode cX6_nights 1 = .ok (.iconst 1, 1) := by decide +kernel
theorem dX6_nights_2 : decode cX6_nights 2 = .ok (.bipush 60, 2) := by decide +kernel
theorem dX6_nights_4 : decode cX6_nights 4 = .ok (.invokestatic 51, 3) := by decide +kernel
theorem dX6_nights_7 : decode cX6_nights 7 = .ok (.ifCond .eq 16, 3) := by decide +kernel
theorem dX6_nights_10 : decode cX6_nights 10 = .ok (.iload_n 2, 1) := by decide +kernel
theorem dX6_nights_11 : decode cX6_nights 11 = .ok (.ifCond .lt 12, 3) := by decide +kernel
theorem dX6_nights_14 : decode cX6_nights 14 = .ok (.iload_n 3, 1) := by decide +kernel
theorem dX6_nights_15 : decode cX6_nights 15 = .ok (.iconst 0, 1) := by decide +kernel
theorem dX6_nights_16 : decode cX6_nights 16 = .ok (.iconst 2, 1) := by decide +kernel
theorem dX6_nights_17 : decode cX6_nights 17 = .ok (.invokestatic 51, 3) := by decide +kernel
theorem dX6_nights_20 : decode cX6_nights 20 = .ok (.ifCond .ne 6, 3) := by decide +kernel
theorem dX6_nights_23 : decode cX6_nights 23 = .ok (.bipush (-102), 2) := by decide +kernel
theorem dX6_nights_25 : decode cX6_nights 25 = .ok (.ireturn, 1) := by decide +kernel
theorem dX6_nights_26 : decode cX6_nights 26 = .ok (.aload_n 0, 1) := by decide +kernel
end
section
theorem dX6_nights_27 : decode cX6_nights 27 = .ok (.getfield 77, 3) := by decide +kernel
theorem dX6_nights_30 : decode cX6_nights 30 = .ok (.ifCond .ne 8, 3) := by decide +kernel
theorem dX6_nights_33 : decode cX6_nights 33 = .ok (.bipush (-103), 2) := by decide +kernel
theorem dX6_nights_35 : decode cX6_nights 35 = .ok (.goto 10, 3) := by decide +kernel
theorem dX6_nights_38 : decode cX6_nights 38 = .ok (.aload_n 0, 1) := by decide +kernel
theorem dX6_nights_39 : decode cX6_nights 39 = .ok (.iload_n 1, 1) := by decide +kernel
theorem dX6_nights_40 : decode cX6_nights 40 = .ok (.iload_n 2, 1) := by decide +kernel
theorem dX6_nights_41 : decode cX6_nights 41 = .ok (.iload_n 3, 1) := by decide +kernel
theorem dX6_nights_42 : decode cX6_nights 42 = .ok (.invokevirtual 192, 3) := by decide +kernel
theorem dX6_nights_45 : decode cX6_nights 45 = .ok (.ireturn, 1) := by decide +kernel
theorem dX6_image_0 : decode cX6_image 0 = .ok (.aload_n 0, 1) := by decide +kernel
theorem dX6_image_1 : decode cX6_image 1 = .ok (.getfield 77, 3) := by decide +kernel
theorem dX6_image_4 : decode cX6_image 4 = .ok (.ifCond .ne 6, 3) := by decide +kernel
theorem dX6_image_7 : decode cX6_image 7 = .ok (.bipush (-103), 2) := by decide +kernel
theorem dX6_image_9 : decode cX6_image 9 = .ok (.ireturn, 1) := by decide +kernel
theorem dX6_image_10 : decode cX6_image 10 = .ok (.aload_n 0, 1) := by decide +kernel
theorem dX6_image_11 : decode cX6_image 11 = .ok (.iconst 1, 1) := by decide +kernel
theorem dX6_image_12 : decode cX6_image 12 = .ok (.putfield 195, 3) := by decide +kernel
theorem dX6_image_15 : decode cX6_image 15 = .ok (.aload_n 0, 1) := by decide +kernel
theorem dX6_image_16 : decode cX6_image 16 = .ok (.aload_n 0, 1) := by decide +kernel
theorem dX6_image_17 : decode cX6_image 17 = .ok (.getfield 83, 3) := by decide +kernel
theorem dX6_image_20 : decode cX6_image 20 = .ok (.putfield 198, 3) := by decide +kernel
theorem dX6_image_23 : decode cX6_image 23 = .ok (.aload_n 0, 1) := by decide +kernel
theorem dX6_image_24 : decode cX6_image 24 = .ok (.aload_n 0, 1) := by decide +kernel
theorem dX6_image_25 : decode cX6_image 25 = .ok (.getfield 89, 3) := by decide +kernel
theorem dX6_image_28 : decode cX6_image 28 = .ok (.putfield 201, 3) := by decide +kernel
theorem dX6_image_31 : decode cX6_image 31 = .ok (.aload_n 0, 1) := by decide +kernel
theorem dX6_image_32 : decode cX6_image 32 = .ok (.iconst 1, 1) := by decide +kernel
theorem dX6_image_33 : decode cX6_image 33 = .ok (.invokevirtual 99, 3) := by decide +kernel
theorem dX6_image_36 : decode cX6_image 36 = .ok (.iconst 0, 1) := by decide +kernel
theorem dX6_image_37 : decode cX6_image 37 = .ok (.istore_n 1, 1) := by decide +kernel
theorem dX6_image_38 : decode cX6_image 38 = .ok (.iload_n 1, 1) := by decide +kernel
theorem dX6_image_39 : decode cX6_image 39 = .ok (.iconst 5, 1) := by decide +kernel
theorem dX6_image_40 : decode cX6_image 40 = .ok (.if_icmp .ge 21, 3) := by decide +kernel
theorem dX6_image_43 : decode cX6_image 43 = .ok (.aload_n 0, 1) := by decide +kernel
theorem dX6_image_44 : decode cX6_image 44 = .ok (.getfield 42, 3) := by decide +kernel
theorem dX6_image_47 : decode cX6_image 47 = .ok (.iload_n 1, 1) := by decide +kernel
theorem dX6_image_48 : decode cX6_image 48 = .ok (.aload_n 0, 1) := by decide +kernel
theorem dX6_image_49 : decode cX6_image 49 = .ok (.getfield 20, 3) := by decide +kernel
theorem dX6_image_52 : decode cX6_image 52 = .ok (.iload_n 1, 1) := by decide +kernel
theorem dX6_image_53 : decode cX6_image 53 = .ok (.iaload, 1) := by decide +kernel
theorem dX6_image_54 : decode cX6_image 54 = .ok (.iastore, 1) := by decide +kernel
theorem dX6_image_55 : decode cX6_image 55 = .ok (.iinc 1 1, 3) := by decide +kernel
theorem dX6_image_58 : decode cX6_image 58 = .ok (.goto (-20), 3) := by decide +kernel
theorem dX6_image_61 : decode cX6_image 61 = .ok (.iconst 0, 1) := by decide +kernel
theorem dX6_image_62 : decode cX6_image 62 = .ok (.istore_n 1, 1) := by decide +kernel
theorem dX6_image_63 : decode cX6_image 63 = .ok (.iload_n 1, 1) := by decide +kernel
theorem dX6_image_64 : decode cX6_image 64 = .ok (.bipush 6, 2) := by decide +kernel
theorem dX6_image_66 : decode cX6_image 66 = .ok (.if_icmp .ge 33, 3) := by decide +kernel
theorem dX6_image_69 : decode cX6_image 69 = .ok (.aload_n 0, 1) := by decide +kernel
theorem dX6_image_70 : decode cX6_image 70 = .ok (.getfield 45, 3) := by decide +kernel
theorem dX6_image_73 : decode cX6_image 73 = .ok (.iload_n 1, 1) := by decide +kernel
theorem dX6_image_74 : decode cX6_image 74 = .ok (.aload_n 0, 1) := by decide +kernel
theorem dX6_image_75 : decode cX6_image 75 = .ok (.getfield 23, 3) := by decide +kernel
theorem dX6_image_78 : decode cX6_image 78 = .ok (.iload_n 1, 1) := by decide +kernel
theorem dX6_image_79 : decode cX6_image 79 = .ok (.iaload, 1) := by decide +kernel
theorem dX6_image_80 : decode cX6_image 80 = .ok (.iastore, 1) := by decide +kernel
theorem dX6_image_81 : decode cX6_image 81 = .ok (.aload_n 0, 1) := by decide +kernel
theorem dX6_image_82 : decode cX6_image 82 = .ok (.getfield 48, 3) := by decide +kernel
theorem dX6_image_85 : decode cX6_image 85 = .ok (.iload_n 1, 1) := by decide +kernel
theorem dX6_image_86 : decode cX6_image 86 = .ok (.aload_n 0, 1) := by decide +kernel
theorem dX6_image_87 : decode cX6_image 87 = .ok (.getfield 26, 3) := by decide +kernel
theorem dX6_image_90 : decode cX6_image 90 = .ok (.iload_n 1, 1) := by decide +kernel
theorem dX6_image_91 : decode cX6_image 91 = .ok (.iaload, 1) := by decide +kernel
theorem dX6_image_92 : decode cX6_image 92 = .ok (.iastore, 1) := by decide +kernel
theorem dX6_image_93 : decode cX6_image 93 = .ok (.iinc 1 1, 3) := by decide +kernel
theorem dX6_image_96 : decode cX6_image 96 = .ok (.goto (-33), 3) := by decide +kernel
theorem dX6_image_99 : decode cX6_image 99 = .ok (.aload_n 0, 1) := by decide +kernel
theorem dX6_image_100 : decode cX6_image 100 = .ok (.getfield 86, 3) := by decide +kernel
theorem dX6_image_103 : decode cX6_image 103 = .ok (.ireturn, 1) := by decide +kernel
theorem dX6_restore_0 : decode cX6_restore 0 = .ok (.aload_n 0, 1) := by decide +kernel
theorem dX6_restore_1 : decode cX6_restore 1 = .ok (.getfield 195, 3) := by decide +kernel
theorem dX6_restore_4 : decode cX6_restore 4 = .ok (.ifCond .eq 14, 3) := by decide +kernel
theorem dX6_restore_7 : decode cX6_restore 7 = .ok (.aload_n 0, 1) := by decide +kernel
theorem dX6_restore_8 : decode cX6_restore 8 = .ok (.getfield 198, 3) := by decide +kernel
theorem dX6_restore_11 : decode cX6_restore 11 = .ok (.aload_n 0, 1) := by decide +kernel
theorem dX6_restore_12 : decode cX6_restore 12 = .ok (.getfield 83, 3) := by decide +kernel
theorem dX6_restore_15 : decode cX6_restore 15 = .ok (.if_icmp .eq 6, 3) := by decide +kernel
theorem dX6_restore_18 : decode cX6_restore 18 = .ok (.bipush (-103), 2) := by decide +kernel
theorem dX6_restore_20 : decode cX6_restore 20 = .ok (.ireturn, 1) := by decide +kernel
theorem dX6_restore_21 : decode cX6_restore 21 = .ok (.aload_n 0, 1) := by decide +kernel
theorem dX6_restore_22 : decode cX6_restore 22 = .ok (.aload_n 0, 1) := by decide +kernel
theorem dX6_restore_23 : decode cX6_restore 23 = .ok (.getfield 201, 3) := by decide +kernel
theorem dX6_restore_26 : decode cX6_restore 26 = .ok (.putfield 89, 3) := by decide +kernel
theorem dX6_restore_29 : decode cX6_restore 29 = .ok (.aload_n 0, 1) := by decide +kernel
theorem dX6_restore_30 : decode cX6_restore 30 = .ok (.iconst 1, 1) := by decide +kernel
theorem dX6_restore_31 : decode cX6_restore 31 = .ok (.invokevirtual 103, 3) := by decide +kernel
theorem dX6_restore_34 : decode cX6_restore 34 = .ok (.iconst 0, 1) := by decide +kernel
theorem dX6_restore_35 : decode cX6_restore 35 = .ok (.istore_n 1, 1) := by decide +kernel
theorem dX6_restore_36 : decode cX6_restore 36 = .ok (.iload_n 1, 1) := by decide +kernel
theorem dX6_restore_37 : decode cX6_restore 37 = .ok (.iconst 5, 1) := by decide +kernel
theorem dX6_restore_38 : decode cX6_restore 38 = .ok (.if_icmp .ge 21, 3) := by decide +kernel
theorem dX6_restore_41 : decode cX6_restore 41 = .ok (.aload_n 0, 1) := by decide +kernel
theorem dX6_restore_42 : decode cX6_restore 42 = .ok (.getfield 20, 3) := by decide +kernel
theorem dX6_restore_45 : decode cX6_restore 45 = .ok (.iload_n 1, 1) := by decide +kernel
theorem dX6_restore_46 : decode cX6_restore 46 = .ok (.aload_n 0, 1) := by decide +kernel
theorem dX6_restore_47 : decode cX6_restore 47 = .ok (.getfield 42, 3) := by decide +kernel
theorem dX6_restore_50 : decode cX6_restore 50 = .ok (.iload_n 1, 1) := by decide +kernel
theorem dX6_restore_51 : decode cX6_restore 51 = .ok (.iaload, 1) := by decide +kernel
theorem dX6_restore_52 : decode cX6_restore 52 = .ok (.iastore, 1) := by decide +kernel
theorem dX6_restore_53 : decode cX6_restore 53 = .ok (.iinc 1 1, 3) := by decide +kernel
theorem dX6_restore_56 : decode cX6_restore 56 = .ok (.goto (-20), 3) := by decide +kernel
theorem dX6_restore_59 : decode cX6_restore 59 = .ok (.iconst 0, 1) := by decide +kernel
theorem dX6_restore_60 : decode cX6_restore 60 = .ok (.istore_n 1, 1) := by decide +kernel
theorem dX6_restore_61 : decode cX6_restore 61 = .ok (.iload_n 1, 1) := by decide +kernel
theorem dX6_restore_62 : decode cX6_restore 62 = .ok (.bipush 6, 2) := by decide +kernel
theorem dX6_restore_64 : decode cX6_restore 64 = .ok (.if_icmp .ge 33, 3) := by decide +kernel
theorem dX6_restore_67 : decode cX6_restore 67 = .ok (.aload_n 0, 1) := by decide +kernel
theorem dX6_restore_68 : decode cX6_restore 68 = .ok (.getfield 23, 3) := by decide +kernel
theorem dX6_restore_71 : decode cX6_restore 71 = .ok (.iload_n 1, 1) := by decide +kernel
theorem dX6_restore_72 : decode cX6_restore 72 = .ok (.aload_n 0, 1) := by decide +kernel
theorem dX6_restore_73 : decode cX6_restore 73 = .ok (.getfield 45, 3) := by decide +kernel
theorem dX6_restore_76 : decode cX6_restore 76 = .ok (.iload_n 1, 1) := by decide +kernel
theorem dX6_restore_77 : decode cX6_restore 77 = .ok (.iaload, 1) := by decide +kernel
theorem dX6_restore_78 : decode cX6_restore 78 = .ok (.iastore, 1) := by decide +kernel
theorem dX6_restore_79 : decode cX6_restore 79 = .ok (.aload_n 0, 1) := by decide +kernel
theorem dX6_restore_80 : decode cX6_restore 80 = .ok (.getfield 26, 3) := by decide +kernel
theorem dX6_restore_83 : decode cX6_restore 83 = .ok (.iload_n 1, 1) := by decide +kernel
theorem dX6_restore_84 : decode cX6_restore 84 = .ok (.aload_n 0, 1) := by decide +kernel
theorem dX6_restore_85 : decode cX6_restore 85 = .ok (.getfield 48, 3) := by decide +kernel
theorem dX6_restore_88 : decode cX6_restore 88 = .ok (.iload_n 1, 1) := by decide +kernel
theorem dX6_restore_89 : decode cX6_restore 89 = .ok (.iaload, 1) := by decide +kernel
theorem dX6_restore_90 : decode cX6_restore 90 = .ok (.iastore, 1) := by decide +kernel
theorem dX6_restore_91 : decode cX6_restore 91 = .ok (.iinc 1 1, 3) := by decide +kernel
theorem dX6_restore_94 : decode cX6_restore 94 = .ok (.goto (-33), 3) := by decide +kernel
theorem dX6_restore_97 : decode cX6_restore 97 = .ok (.aload_n 0, 1) := by decide +kernel
theorem dX6_restore_98 : decode cX6_restore 98 = .ok (.getfield 86, 3) := by decide +kernel
theorem dX6_restore_101 : decode cX6_restore 101 = .ok (.ireturn, 1) := by decide +kernel
theorem dX6_tiredAll_0 : decode cX6_tiredAll 0 = .ok (.iconst 0, 1) := by decide +kernel
theorem dX6_tiredAll_1 : decode cX6_tiredAll 1 = .ok (.istore_n 1, 1) := by decide +kernel
theorem dX6_tiredAll_2 : decode cX6_tiredAll 2 = .ok (.iconst 0, 1) := by decide +kernel
theorem dX6_tiredAll_3 : decode cX6_tiredAll 3 = .ok (.istore_n 2, 1) := by decide +kernel
theorem dX6_tiredAll_4 : decode cX6_tiredAll 4 = .ok (.iload_n 2, 1) := by decide +kernel
theorem dX6_tiredAll_5 : decode cX6_tiredAll 5 = .ok (.aload_n 0, 1) := by decide +kernel
theorem dX6_tiredAll_6 : decode cX6_tiredAll 6 = .ok (.getfield 77, 3) := by decide +kernel
theorem dX6_tiredAll_9 : decode cX6_tiredAll 9 = .ok (.if_icmp .ge 18, 3) := by decide +kernel
theorem dX6_tiredAll_12 : decode cX6_tiredAll 12 = .ok (.iload_n 1, 1) := by decide +kernel
theorem dX6_tiredAll_13 : decode cX6_tiredAll 13 = .ok (.aload_n 0, 1) := by decide +kernel
theorem dX6_tiredAll_14 : decode cX6_tiredAll 14 = .ok (.getfield 13, 3) := by decide +kernel
theorem dX6_tiredAll_17 : decode cX6_tiredAll 17 = .ok (.iload_n 2, 1) := by decide +kernel
theorem dX6_tiredAll_18 : decode cX6_tiredAll 18 = .ok (.iaload, 1) := by decide +kernel
theorem dX6_tiredAll_19 : decode cX6_tiredAll 19 = .ok (.iadd, 1) := by decide +kernel
theorem dX6_tiredAll_20 : decode cX6_tiredAll 20 = .ok (.istore_n 1, 1) := by decide +kernel
theorem dX6_tiredAll_21 : decode cX6_tiredAll 21 = .ok (.iinc 2 1, 3) := by decide +kernel
theorem dX6_tiredAll_24 : decode cX6_tiredAll 24 = .ok (.goto (-20), 3) := by decide +kernel
theorem dX6_tiredAll_27 : decode cX6_tiredAll 27 = .ok (.iload_n 1, 1) := by decide +kernel
theorem dX6_tiredAll_28 : decode cX6_tiredAll 28 = .ok (.ireturn, 1) := by decide +kernel
theorem dX6_howMany_0 : decode cX6_howMany 0 = .ok (.iload_n 1, 1) := by decide +kernel
theorem dX6_howMany_1 : decode cX6_howMany 1 = .ok (.tableswitch 96 0 8 #[51, 56, 61, 66, 71, 76, 81, 86, 91], 51) := by decide +kernel
theorem dX6_howMany_52 : decode cX6_howMany 52 = .ok (.aload_n 0, 1) := by decide +kernel
theorem dX6_howMany_53 : decode cX6_howMany 53 = .ok (.getfield 77, 3) := by decide +kernel
theorem dX6_howMany_56 : decode cX6_howMany 56 = .ok (.ireturn, 1) := by decide +kernel
theorem dX6_howMany_57 : decode cX6_howMany 57 = .ok (.aload_n 0, 1) := by decide +kernel
theorem dX6_howMany_58 : decode cX6_howMany 58 = .ok (.getfield 80, 3) := by decide +kernel
theorem dX6_howMany_61 : decode cX6_howMany 61 = .ok (.ireturn, 1) := by decide +kernel
theorem dX6_howMany_62 : decode cX6_howMany 62 = .ok (.aload_n 0, 1) := by decide +kernel
theorem dX6_howMany_63 : decode cX6_howMany 63 = .ok (.invokevirtual 129, 3) := by decide +kernel
theorem dX6_howMany_66 : decode cX6_howMany 66 = .ok (.ireturn, 1) := by decide +kernel
theorem dX6_howMany_67 : decode cX6_howMany 67 = .ok (.aload_n 0, 1) := by decide +kernel
theorem dX6_howMany_68 : decode cX6_howMany 68 = .ok (.getfield 86, 3) := by decide +kernel
theorem dX6_howMany_71 : decode cX6_howMany 71 = .ok (.ireturn, 1) := by decide +kernel
theorem dX6_howMany_72 : decode cX6_howMany 72 = .ok (.aload_n 0, 1) := by decide +kernel
theorem dX6_howMany_73 : decode cX6_howMany 73 = .ok (.invokevirtual 204, 3) := by decide +kernel
theorem dX6_howMany_76 : decode cX6_howMany 76 = .ok (.ireturn, 1) := by decide +kernel
theorem dX6_howMany_77 : decode cX6_howMany 77 = .ok (.aload_n 0, 1) := by decide +kernel
theorem dX6_howMany_78 : decode cX6_howMany 78 = .ok (.getfield 89, 3) := by decide +kernel
theorem dX6_howMany_81 : decode cX6_howMany 81 = .ok (.ireturn, 1) := by decide +kernel
theorem dX6_howMany_82 : decode cX6_howMany 82 = .ok (.aload_n 0, 1) := by decide +kernel
theorem dX6_howMany_83 : decode cX6_howMany 83 = .ok (.getfield 55, 3) := by decide +kernel
theorem dX6_howMany_86 : decode cX6_howMany 86 = .ok (.ireturn, 1) := by decide +kernel
theorem dX6_howMany_87 : decode cX6_howMany 87 = .ok (.aload_n 0, 1) := by decide +kernel
theorem dX6_howMany_88 : decode cX6_howMany 88 = .ok (.getfield 83, 3) := by decide +kernel
theorem dX6_howMany_91 : decode cX6_howMany 91 = .ok (.ireturn, 1) := by decide +kernel
theorem dX6_howMany_92 : decode cX6_howMany 92 = .ok (.aload_n 0, 1) := by decide +kernel
theorem dX6_howMany_93 : decode cX6_howMany 93 = .ok (.getfield 148, 3) := by decide +kernel
theorem dX6_howMany_96 : decode cX6_howMany 96 = .ok (.ireturn, 1) := by decide +kernel
theorem dX6_howMany_97 : decode cX6_howMany 97 = .ok (.bipush (-102), 2) := by decide +kernel
theorem dX6_howMany_99 : decode cX6_howMany 99 = .ok (.ireturn, 1) := by decide +kernel
theorem dX6_count_0 : decode cX6_count 0 = .ok (.aload_n 0, 1) := by decide +kernel
theorem dX6_count_1 : decode cX6_count 1 = .ok (.iload_n 1, 1) := by decide +kernel
theorem dX6_count_2 : decode cX6_count 2 = .ok (.invokevirtual 207, 3) := by decide +kernel
theorem dX6_count_5 : decode cX6_count 5 = .ok (.ireturn, 1) := by decide +kernel
theorem dX6_mix_0 : decode cX6_mix 0 = .ok (.aload_n 0, 1) := by decide +kernel
theorem dX6_mix_1 : decode cX6_mix 1 = .ok (.ldc2_w 210, 3) := by decide +kernel
theorem dX6_mix_4 : decode cX6_mix 4 = .ok (.aload_n 0, 1) := by decide +kernel
theorem dX6_mix_5 : decode cX6_mix 5 = .ok (.getfield 212, 3) := by decide +kernel
theorem dX6_mix_8 : decode cX6_mix 8 = .ok (.lmul, 1) := by decide +kernel
theorem dX6_mix_9 : decode cX6_mix 9 = .ok (.lload_n 1, 1) := by decide +kernel
theorem dX6_mix_10 : decode cX6_mix 10 = .ok (.ladd, 1) := by decide +kernel
theorem dX6_mix_11 : decode cX6_mix 11 = .ok (.putfield 212, 3) := by decide +kernel
theorem dX6_mix_14 : decode cX6_mix 14 = .ok (.return_, 1) := by decide +kernel
theorem dX6_digest_0 : decode cX6_digest 0 = .ok (.aload_n 0, 1) := by decide +kernel
theorem dX6_digest_1 : decode cX6_digest 1 = .ok (.ldc2_w 215, 3) := by decide +kernel
theorem dX6_digest_4 : decode cX6_digest 4 = .ok (.putfield 212, 3) := by decide +kernel
theorem dX6_digest_7 : decode cX6_digest 7 = .ok (.iconst 0, 1) := by decide +kernel
theorem dX6_digest_8 : decode cX6_digest 8 = .ok (.istore_n 1, 1) := by decide +kernel
theorem dX6_digest_9 : decode cX6_digest 9 = .ok (.iload_n 1, 1) := by decide +kernel
theorem dX6_digest_10 : decode cX6_digest 10 = .ok (.aload_n 0, 1) := by decide +kernel
theorem dX6_digest_11 : decode cX6_digest 11 = .ok (.getfield 77, 3) := by decide +kernel
theorem dX6_digest_14 : decode cX6_digest 14 = .ok (.if_icmp .ge 58, 3) := by decide +kernel
theorem dX6_digest_17 : decode cX6_digest 17 = .ok (.iconst 0, 1) := by decide +kernel
theorem dX6_digest_18 : decode cX6_digest 18 = .ok (.istore_n 2, 1) := by decide +kernel
theorem dX6_digest_19 : decode cX6_digest 19 = .ok (.iload_n 2, 1) := by decide +kernel
theorem dX6_digest_20 : decode cX6_digest 20 = .ok (.bipush 7, 2) := by decide +kernel
theorem dX6_digest_22 : decode cX6_digest 22 = .ok (.if_icmp .ge 20, 3) := by decide +kernel
theorem dX6_digest_25 : decode cX6_digest 25 = .ok (.aload_n 0, 1) := by decide +kernel
theorem dX6_digest_26 : decode cX6_digest 26 = .ok (.aload_n 0, 1) := by decide +kernel
theorem dX6_digest_27 : decode cX6_digest 27 = .ok (.iload_n 1, 1) := by decide +kernel
theorem dX6_digest_28 : decode cX6_digest 28 = .ok (.iload_n 2, 1) := by decide +kernel
theorem dX6_digest_29 : decode cX6_digest 29 = .ok (.invokevirtual 116, 3) := by decide +kernel
theorem dX6_digest_32 : decode cX6_digest 32 = .ok (.i2l, 1) := by decide +kernel
theorem dX6_digest_33 : decode cX6_digest 33 = .ok (.invokevirtual 217, 3) := by decide +kernel
theorem dX6_digest_36 : decode cX6_digest 36 = .ok (.iinc 2 1, 3) := by decide +kernel
theorem dX6_digest_39 : decode cX6_digest 39 = .ok (.goto (-20), 3) := by decide +kernel
theorem dX6_digest_42 : decode cX6_digest 42 = .ok (.aload_n 0, 1) := by decide +kernel
theorem dX6_digest_43 : decode cX6_digest 43 = .ok (.aload_n 0, 1) := by decide +kernel
theorem dX6_digest_44 : decode cX6_digest 44 = .ok (.getfield 16, 3) := by decide +kernel
theorem dX6_digest_47 : decode cX6_digest 47 = .ok (.iload_n 1, 1) := by decide +kernel
theorem dX6_digest_48 : decode cX6_digest 48 = .ok (.baload, 1) := by decide +kernel
theorem dX6_digest_49 : decode cX6_digest 49 = .ok (.ifCond .eq 7, 3) := by decide +kernel
theorem dX6_digest_52 : decode cX6_digest 52 = .ok (.lconst 0, 1) := by decide +kernel
theorem dX6_digest_53 : decode cX6_digest 53 = .ok (.goto 10, 3) := by decide +kernel
theorem dX6_digest_56 : decode cX6_digest 56 = .ok (.aload_n 0, 1) := by decide +kernel
theorem dX6_digest_57 : decode cX6_digest 57 = .ok (.iload_n 1, 1) := by decide +kernel
theorem dX6_digest_58 : decode cX6_digest 58 = .ok (.iconst 3, 1) := by decide +kernel
theorem dX6_digest_59 : decode cX6_digest 59 = .ok (.invokevirtual 141, 3) := by decide +kernel
theorem dX6_digest_62 : decode cX6_digest 62 = .ok (.i2l, 1) := by decide +kernel
theorem dX6_digest_63 : decode cX6_digest 63 = .ok (.invokevirtual 217, 3) := by decide +kernel
theorem dX6_digest_66 : decode cX6_digest 66 = .ok (.iinc 1 1, 3) := by decide +kernel
theorem dX6_digest_69 : decode cX6_digest 69 = .ok (.goto (-60), 3) := by decide +kernel
theorem dX6_digest_72 : decode cX6_digest 72 = .ok (.aload_n 0, 1) := by decide +kernel
theorem dX6_digest_73 : decode cX6_digest 73 = .ok (.getfield 77, 3) := by decide +kernel
theorem dX6_digest_76 : decode cX6_digest 76 = .ok (.ifCond .le 32, 3) := by decide +kernel
theorem dX6_digest_79 : decode cX6_digest 79 = .ok (.aload_n 0, 1) := by decide +kernel
theorem dX6_digest_80 : decode cX6_digest 80 = .ok (.aload_n 0, 1) := by decide +kernel
theorem dX6_digest_81 : decode cX6_digest 81 = .ok (.invokevirtual 92, 3) := by decide +kernel
theorem dX6_digest_84 : decode cX6_digest 84 = .ok (.i2l, 1) := by decide +kernel
theorem dX6_digest_85 : decode cX6_digest 85 = .ok (.invokevirtual 217, 3) := by decide +kernel
theorem dX6_digest_88 : decode cX6_digest 88 = .ok (.aload_n 0, 1) := by decide +kernel
theorem dX6_digest_89 : decode cX6_digest 89 = .ok (.aload_n 0, 1) := by decide +kernel
theorem dX6_digest_90 : decode cX6_digest 90 = .ok (.iconst 0, 1) := by decide +kernel
theorem dX6_digest_91 : decode cX6_digest 91 = .ok (.invokevirtual 160, 3) := by decide +kernel
theorem dX6_digest_94 : decode cX6_digest 94 = .ok (.i2l, 1) := by decide +kernel
theorem dX6_digest_95 : decode cX6_digest 95 = .ok (.invokevirtual 217, 3) := by decide +kernel
theorem dX6_digest_98 : decode cX6_digest 98 = .ok (.aload_n 0, 1) := by decide +kernel
theorem dX6_digest_99 : decode cX6_digest 99 = .ok (.aload_n 0, 1) := by decide +kernel
theorem dX6_digest_100 : decode cX6_digest 100 = .ok (.iconst 1, 1) := by decide +kernel
theorem dX6_digest_101 : decode cX6_digest 101 = .ok (.invokevirtual 160, 3) := by decide +kernel
theorem dX6_digest_104 : decode cX6_digest 104 = .ok (.i2l, 1) := by decide +kernel
theorem dX6_digest_105 : decode cX6_digest 105 = .ok (.invokevirtual 217, 3) := by decide +kernel
theorem dX6_digest_108 : decode cX6_digest 108 = .ok (.iconst 0, 1) := by decide +kernel
theorem dX6_digest_109 : decode cX6_digest 109 = .ok (.istore_n 1, 1) := by decide +kernel
theorem dX6_digest_110 : decode cX6_digest 110 = .ok (.iload_n 1, 1) := by decide +kernel
theorem dX6_digest_111 : decode cX6_digest 111 = .ok (.aload_n 0, 1) := by decide +kernel
theorem dX6_digest_112 : decode cX6_digest 112 = .ok (.getfield 55, 3) := by decide +kernel
theorem dX6_digest_115 : decode cX6_digest 115 = .ok (.if_icmp .ge 20, 3) := by decide +kernel
theorem dX6_digest_118 : decode cX6_digest 118 = .ok (.aload_n 0, 1) := by decide +kernel
theorem dX6_digest_119 : decode cX6_digest 119 = .ok (.aload_n 0, 1) := by decide +kernel
theorem dX6_digest_120 : decode cX6_digest 120 = .ok (.getfield 29, 3) := by decide +kernel
theorem dX6_digest_123 : decode cX6_digest 123 = .ok (.iload_n 1, 1) := by decide +kernel
theorem dX6_digest_124 : decode cX6_digest 124 = .ok (.baload, 1) := by decide +kernel
theorem dX6_digest_125 : decode cX6_digest 125 = .ok (.i2l, 1) := by decide +kernel
theorem dX6_digest_126 : decode cX6_digest 126 = .ok (.invokevirtual 217, 3) := by decide +kernel
theorem dX6_digest_129 : decode cX6_digest 129 = .ok (.iinc 1 1, 3) := by decide +kernel
theorem dX6_digest_132 : decode cX6_digest 132 = .ok (.goto (-22), 3) := by decide +kernel
theorem dX6_digest_135 : decode cX6_digest 135 = .ok (.iconst 0, 1) := by decide +kernel
theorem dX6_digest_136 : decode cX6_digest 136 = .ok (.istore_n 1, 1) := by decide +kernel
theorem dX6_digest_137 : decode cX6_digest 137 = .ok (.iload_n 1, 1) := by decide +kernel
theorem dX6_digest_138 : decode cX6_digest 138 = .ok (.bipush 9, 2) := by decide +kernel
theorem dX6_digest_140 : decode cX6_digest 140 = .ok (.if_icmp .ge 19, 3) := by decide +kernel
theorem dX6_digest_143 : decode cX6_digest 143 = .ok (.aload_n 0, 1) := by decide +kernel
theorem dX6_digest_144 : decode cX6_digest 144 = .ok (.aload_n 0, 1) := by decide +kernel
theorem dX6_digest_145 : decode cX6_digest 145 = .ok (.iload_n 1, 1) := by decide +kernel
theorem dX6_digest_146 : decode cX6_digest 146 = .ok (.invokevirtual 207, 3) := by decide +kernel
theorem dX6_digest_149 : decode cX6_digest 149 = .ok (.i2l, 1) := by decide +kernel
theorem dX6_digest_150 : decode cX6_digest 150 = .ok (.invokevirtual 217, 3) := by decide +kernel
theorem dX6_digest_153 : decode cX6_digest 153 = .ok (.iinc 1 1, 3) := by decide +kernel
theorem dX6_digest_156 : decode cX6_digest 156 = .ok (.goto (-19), 3) := by decide +kernel
theorem dX6_digest_159 : decode cX6_digest 159 = .ok (.aload_n 0, 1) := by decide +kernel
theorem dX6_digest_160 : decode cX6_digest 160 = .ok (.getfield 212, 3) := by decide +kernel
theorem dX6_digest_163 : decode cX6_digest 163 = .ok (.lreturn, 1) := by decide +kernel
theorem dL_law_0 : decode cL_law 0 = .ok (.new 7, 3) := by decide +kernel
theorem dL_law_3 : decode cL_law 3 = .ok (.dup, 1) := by decide +kernel
theorem dL_law_4 : decode cL_law 4 = .ok (.invokespecial 9, 3) := by decide +kernel
theorem dL_law_7 : decode cL_law 7 = .ok (.astore_n 1, 1) := by decide +kernel
theorem dL_law_8 : decode cL_law 8 = .ok (.new 10, 3) := by decide +kernel
theorem dL_law_11 : decode cL_law 11 = .ok (.dup, 1) := by decide +kernel
theorem dL_law_12 : decode cL_law 12 = .ok (.invokespecial 12, 3) := by decide +kernel
theorem dL_law_15 : decode cL_law 15 = .ok (.astore_n 2, 1) := by decide +kernel
theorem dL_law_16 : decode cL_law 16 = .ok (.iconst 0, 1) := by decide +kernel
theorem dL_law_17 : decode cL_law 17 = .ok (.istore_n 3, 1) := by decide +kernel
theorem dL_law_18 : decode cL_law 18 = .ok (.iload_n 3, 1) := by decide +kernel
theorem dL_law_19 : decode cL_law 19 = .ok (.aload_n 0, 1) := by decide +kernel
theorem dL_law_20 : decode cL_law 20 = .ok (.arraylength, 1) := by decide +kernel
theorem dL_law_21 : decode cL_law 21 = .ok (.iconst 4, 1) := by decide +kernel
theorem dL_law_22 : decode cL_law 22 = .ok (.isub, 1) := by decide +kernel
theorem dL_law_23 : decode cL_law 23 = .ok (.if_icmp .gt 562, 3) := by decide +kernel
theorem dL_law_26 : decode cL_law 26 = .ok (.aload_n 0, 1) := by decide +kernel
theorem dL_law_27 : decode cL_law 27 = .ok (.iload_n 3, 1) := by decide +kernel
theorem dL_law_28 : decode cL_law 28 = .ok (.iaload, 1) := by decide +kernel
theorem dL_law_29 : decode cL_law 29 = .ok (.bipush 31, 2) := by decide +kernel
theorem dL_law_31 : decode cL_law 31 = .ok (.iand, 1) := by decide +kernel
theorem dL_law_32 : decode cL_law 32 = .ok (.tableswitch 547 0 19 #[96, 119, 132, 145, 158, 191, 224, 237, 260, 283, 296, 329, 372, 395, 428, 441, 484, 497, 510, 533], 96) := by decide +kernel
theorem dL_law_128 : decode cL_law 128 = .ok (.aload_n 1, 1) := by decide +kernel
theorem dL_law_129 : decode cL_law 129 = .ok (.aload_n 0, 1) := by decide +kernel
theorem dL_law_130 : decode cL_law 130 = .ok (.iload_n 3, 1) := by decide +kernel
theorem dL_law_131 : decode cL_law 131 = .ok (.iconst 1, 1) := by decide +kernel
theorem dL_law_132 : decode cL_law 132 = .ok (.iadd, 1) := by decide +kernel
theorem dL_law_133 : decode cL_law 133 = .ok (.iaload, 1) := by decide +kernel
theorem dL_law_134 : decode cL_law 134 = .ok (.invokevirtual 13, 3) := by decide +kernel
theorem dL_law_137 : decode cL_law 137 = .ok (.aload_n 2, 1) := by decide +kernel
theorem dL_law_138 : decode cL_law 138 = .ok (.aload_n 0, 1) := by decide +kernel
theorem dL_law_139 : decode cL_law 139 = .ok (.iload_n 3, 1) := by decide +kernel
theorem dL_law_140 : decode cL_law 140 = .ok (.iconst 1, 1) := by decide +kernel
theorem dL_law_141 : decode cL_law 141 = .ok (.iadd, 1) := by decide +kernel
theorem dL_law_142 : decode cL_law 142 = .ok (.iaload, 1) := by decide +kernel
theorem dL_law_143 : decode cL_law 143 = .ok (.invokevirtual 17, 3) := by decide +kernel
theorem dL_law_146 : decode cL_law 146 = .ok (.if_icmp .eq 433, 3) := by decide +kernel
theorem dL_law_149 : decode cL_law 149 = .ok (.iconst 0, 1) := by decide +kernel
theorem dL_law_150 : decode cL_law 150 = .ok (.ireturn, 1) := by decide +kernel
theorem dL_law_151 : decode cL_law 151 = .ok (.aload_n 1, 1) := by decide +kernel
theorem dL_law_152 : decode cL_law 152 = .ok (.invokevirtual 18, 3) := by decide +kernel
theorem dL_law_155 : decode cL_law 155 = .ok (.aload_n 2, 1) := by decide +kernel
theorem dL_law_156 : decode cL_law 156 = .ok (.invokevirtual 22, 3) := by decide +kernel
theorem dL_law_159 : decode cL_law 159 = .ok (.if_icmp .eq 420, 3) := by decide +kernel
theorem dL_law_162 : decode cL_law 162 = .ok (.iconst 0, 1) := by decide +kernel
theorem dL_law_163 : decode cL_law 163 = .ok (.ireturn, 1) := by decide +kernel
theorem dL_law_164 : decode cL_law 164 = .ok (.aload_n 1, 1) := by decide +kernel
theorem dL_law_165 : decode cL_law 165 = .ok (.invokevirtual 23, 3) := by decide +kernel
theorem dL_law_168 : decode cL_law 168 = .ok (.aload_n 2, 1) := by decide +kernel
theorem dL_law_169 : decode cL_law 169 = .ok (.invokevirtual 26, 3) := by decide +kernel
theorem dL_law_172 : decode cL_law 172 = .ok (.if_icmp .eq 407, 3) := by decide +kernel
theorem dL_law_175 : decode cL_law 175 = .ok (.iconst 0, 1) := by decide +kernel
theorem dL_law_176 : decode cL_law 176 = .ok (.ireturn, 1) := by decide +kernel
theorem dL_law_177 : decode cL_law 177 = .ok (.aload_n 1, 1) := by decide +kernel
theorem dL_law_178 : decode cL_law 178 = .ok (.invokevirtual 27, 3) := by decide +kernel
theorem dL_law_181 : decode cL_law 181 = .ok (.aload_n 2, 1) := by decide +kernel
theorem dL_law_182 : decode cL_law 182 = .ok (.invokevirtual 30, 3) := by decide +kernel
theorem dL_law_185 : decode cL_law 185 = .ok (.if_icmp .eq 394, 3) := by decide +kernel
theorem dL_law_188 : decode cL_law 188 = .ok (.iconst 0, 1) := by decide +kernel
theorem dL_law_189 : decode cL_law 189 = .ok (.ireturn, 1) := by decide +kernel
theorem dL_law_190 : decode cL_law 190 = .ok (.aload_n 1, 1) := by decide +kernel
theorem dL_law_191 : decode cL_law 191 = .ok (.aload_n 0, 1) := by decide +kernel
theorem dL_law_192 : decode cL_law 192 = .ok (.iload_n 3, 1) := by decide +kernel
theorem dL_law_193 : decode cL_law 193 = .ok (.iconst 1, 1) := by decide +kernel
theorem dL_law_194 : decode cL_law 194 = .ok (.iadd, 1) := by decide +kernel
theorem dL_law_195 : decode cL_law 195 = .ok (.iaload, 1) := by decide +kernel
theorem dL_law_196 : decode cL_law 196 = .ok (.aload_n 0, 1) := by decide +kernel
theorem dL_law_197 : decode cL_law 197 = .ok (.iload_n 3, 1) := by decide +kernel
theorem dL_law_198 : decode cL_law 198 = .ok (.iconst 2, 1) := by decide +kernel
theorem dL_law_199 : decode cL_law 199 = .ok (.iadd, 1) := by decide +kernel
theorem dL_law_200 : decode cL_law 200 = .ok (.iaload, 1) := by decide +kernel
theorem dL_law_201 : decode cL_law 201 = .ok (.invokevirtual 31, 3) := by decide +kernel
theorem dL_law_204 : decode cL_law 204 = .ok (.aload_n 2, 1) := by decide +kernel
theorem dL_law_205 : decode cL_law 205 = .ok (.aload_n 0, 1) := by decide +kernel
theorem dL_law_206 : decode cL_law 206 = .ok (.iload_n 3, 1) := by decide +kernel
theorem dL_law_207 : decode cL_law 207 = .ok (.iconst 1, 1) := by decide +kernel
theorem dL_law_208 : decode cL_law 208 = .ok (.iadd, 1) := by decide +kernel
theorem dL_law_209 : decode cL_law 209 = .ok (.iaload, 1) := by decide +kernel
theorem dL_law_210 : decode cL_law 210 = .ok (.aload_n 0, 1) := by decide +kernel
theorem dL_law_211 : decode cL_law 211 = .ok (.iload_n 3, 1) := by decide +kernel
theorem dL_law_212 : decode cL_law 212 = .ok (.iconst 2, 1) := by decide +kernel
theorem dL_law_213 : decode cL_law 213 = .ok (.iadd, 1) := by decide +kernel
theorem dL_law_214 : decode cL_law 214 = .ok (.iaload, 1) := by decide +kernel
theorem dL_law_215 : decode cL_law 215 = .ok (.invokevirtual 35, 3) := by decide +kernel
theorem dL_law_218 : decode cL_law 218 = .ok (.if_icmp .eq 361, 3) := by decide +kernel
theorem dL_law_221 : decode cL_law 221 = .ok (.iconst 0, 1) := by decide +kernel
theorem dL_law_222 : decode cL_law 222 = .ok (.ireturn, 1) := by decide +kernel
theorem dL_law_223 : decode cL_law 223 = .ok (.aload_n 1, 1) := by decide +kernel
theorem dL_law_224 : decode cL_law 224 = .ok (.aload_n 0, 1) := by decide +kernel
theorem dL_law_225 : decode cL_law 225 = .ok (.iload_n 3, 1) := by decide +kernel
theorem dL_law_226 : decode cL_law 226 = .ok (.iconst 1, 1) := by decide +kernel
theorem dL_law_227 : decode cL_law 227 = .ok (.iadd, 1) := by decide +kernel
theorem dL_law_228 : decode cL_law 228 = .ok (.iaload, 1) := by decide +kernel
theorem dL_law_229 : decode cL_law 229 = .ok (.aload_n 0, 1) := by decide +kernel
theorem dL_law_230 : decode cL_law 230 = .ok (.iload_n 3, 1) := by decide +kernel
theorem dL_law_231 : decode cL_law 231 = .ok (.iconst 2, 1) := by decide +kernel
theorem dL_law_232 : decode cL_law 232 = .ok (.iadd, 1) := by decide +kernel
theorem dL_law_233 : decode cL_law 233 = .ok (.iaload, 1) := by decide +kernel
theorem dL_law_234 : decode cL_law 234 = .ok (.invokevirtual 36, 3) := by decide +kernel
theorem dL_law_237 : decode cL_law 237 = .ok (.aload_n 2, 1) := by decide +kernel
theorem dL_law_238 : decode cL_law 238 = .ok (.aload_n 0, 1) := by decide +kernel
theorem dL_law_239 : decode cL_law 239 = .ok (.iload_n 3, 1) := by decide +kernel
theorem dL_law_240 : decode cL_law 240 = .ok (.iconst 1, 1) := by decide +kernel
theorem dL_law_241 : decode cL_law 241 = .ok (.iadd, 1) := by decide +kernel
theorem dL_law_242 : decode cL_law 242 = .ok (.iaload, 1) := by decide +kernel
theorem dL_law_243 : decode cL_law 243 = .ok (.aload_n 0, 1) := by decide +kernel
theorem dL_law_244 : decode cL_law 244 = .ok (.iload_n 3, 1) := by decide +kernel
theorem dL_law_245 : decode cL_law 245 = .ok (.iconst 2, 1) := by decide +kernel
theorem dL_law_246 : decode cL_law 246 = .ok (.iadd, 1) := by decide +kernel
theorem dL_law_247 : decode cL_law 247 = .ok (.iaload, 1) := by decide +kernel
theorem dL_law_248 : decode cL_law 248 = .ok (.invokevirtual 39, 3) := by decide +kernel
theorem dL_law_251 : decode cL_law 251 = .ok (.if_icmp .eq 328, 3) := by decide +kernel
theorem dL_law_254 : decode cL_law 254 = .ok (.iconst 0, 1) := by decide +kernel
theorem dL_law_255 : decode cL_law 255 = .ok (.ireturn, 1) := by decide +kernel
theorem dL_law_256 : decode cL_law 256 = .ok (.aload_n 1, 1) := by decide +kernel
theorem dL_law_257 : decode cL_law 257 = .ok (.invokevirtual 40, 3) := by decide +kernel
theorem dL_law_260 : decode cL_law 260 = .ok (.aload_n 2, 1) := by decide +kernel
theorem dL_law_261 : decode cL_law 261 = .ok (.invokevirtual 43, 3) := by decide +kernel
theorem dL_law_264 : decode cL_law 264 = .ok (.if_icmp .eq 315, 3) := by decide +kernel
theorem dL_law_267 : decode cL_law 267 = .ok (.iconst 0, 1) := by decide +kernel
theorem dL_law_268 : decode cL_law 268 = .ok (.ireturn, 1) := by decide +kernel
theorem dL_law_269 : decode cL_law 269 = .ok (.aload_n 1, 1) := by decide +kernel
theorem dL_law_270 : decode cL_law 270 = .ok (.aload_n 0, 1) := by decide +kernel
theorem dL_law_271 : decode cL_law 271 = .ok (.iload_n 3, 1) := by decide +kernel
theorem dL_law_272 : decode cL_law 272 = .ok (.iconst 1, 1) := by decide +kernel
theorem dL_law_273 : decode cL_law 273 = .ok (.iadd, 1) := by decide +kernel
theorem dL_law_274 : decode cL_law 274 = .ok (.iaload, 1) := by decide +kernel
theorem dL_law_275 : decode cL_law 275 = .ok (.invokevirtual 44, 3) := by decide +kernel
theorem dL_law_278 : decode cL_law 278 = .ok (.aload_n 2, 1) := by decide +kernel
theorem dL_law_279 : decode cL_law 279 = .ok (.aload_n 0, 1) := by decide +kernel
theorem dL_law_280 : decode cL_law 280 = .ok (.iload_n 3, 1) := by decide +kernel
theorem dL_law_281 : decode cL_law 281 = .ok (.iconst 1, 1) := by decide +kernel
theorem dL_law_282 : decode cL_law 282 = .ok (.iadd, 1) := by decide +kernel
theorem dL_law_283 : decode cL_law 283 = .ok (.iaload, 1) := by decide +kernel
theorem dL_law_284 : decode cL_law 284 = .ok (.invokevirtual 47, 3) := by decide +kernel
theorem dL_law_287 : decode cL_law 287 = .ok (.if_icmp .eq 292, 3) := by decide +kernel
theorem dL_law_290 : decode cL_law 290 = .ok (.iconst 0, 1) := by decide +kernel
theorem dL_law_291 : decode cL_law 291 = .ok (.ireturn, 1) := by decide +kernel
theorem dL_law_292 : decode cL_law 292 = .ok (.aload_n 1, 1) := by decide +kernel
theorem dL_law_293 : decode cL_law 293 = .ok (.aload_n 0, 1) := by decide +kernel
theorem dL_law_294 : decode cL_law 294 = .ok (.iload_n 3, 1) := by decide +kernel
theorem dL_law_295 : decode cL_law 295 = .ok (.iconst 1, 1) := by decide +kernel
theorem dL_law_296 : decode cL_law 296 = .ok (.iadd, 1) := by decide +kernel
theorem dL_law_297 : decode cL_law 297 = .ok (.iaload, 1) := by decide +kernel
theorem dL_law_298 : decode cL_law 298 = .ok (.invokevirtual 48, 3) := by decide +kernel
theorem dL_law_301 : decode cL_law 301 = .ok (.aload_n 2, 1) := by decide +kernel
theorem dL_law_302 : decode cL_law 302 = .ok (.aload_n 0, 1) := by decide +kernel
theorem dL_law_303 : decode cL_law 303 = .ok (.iload_n 3, 1) := by decide +kernel
theorem dL_law_304 : decode cL_law 304 = .ok (.iconst 1, 1) := by decide +kernel
theorem dL_law_305 : decode cL_law 305 = .ok (.iadd, 1) := by decide +kernel
theorem dL_law_306 : decode cL_law 306 = .ok (.iaload, 1) := by decide +kernel
theorem dL_law_307 : decode cL_law 307 = .ok (.invokevirtual 51, 3) := by decide +kernel
theorem dL_law_310 : decode cL_law 310 = .ok (.if_icmp .eq 269, 3) := by decide +kernel
theorem dL_law_313 : decode cL_law 313 = .ok (.iconst 0, 1) := by decide +kernel
theorem dL_law_314 : decode cL_law 314 = .ok (.ireturn, 1) := by decide +kernel
theorem dL_law_315 : decode cL_law 315 = .ok (.aload_n 1, 1) := by decide +kernel
theorem dL_law_316 : decode cL_law 316 = .ok (.invokevirtual 52, 3) := by decide +kernel
theorem dL_law_319 : decode cL_law 319 = .ok (.aload_n 2, 1) := by decide +kernel
theorem dL_law_320 : decode cL_law 320 = .ok (.invokevirtual 55, 3) := by decide +kernel
theorem dL_law_323 : decode cL_law 323 = .ok (.if_icmp .eq 256, 3) := by decide +kernel
theorem dL_law_326 : decode cL_law 326 = .ok (.iconst 0, 1) := by decide +kernel
theorem dL_law_327 : decode cL_law 327 = .ok (.ireturn, 1) := by decide +kernel
theorem dL_law_328 : decode cL_law 328 = .ok (.aload_n 1, 1) := by decide +kernel
theorem dL_law_329 : decode cL_law 329 = .ok (.aload_n 0, 1) := by decide +kernel
theorem dL_law_330 : decode cL_law 330 = .ok (.iload_n 3, 1) := by decide +kernel
theorem dL_law_331 : decode cL_law 331 = .ok (.iconst 1, 1) := by decide +kernel
theorem dL_law_332 : decode cL_law 332 = .ok (.iadd, 1) := by decide +kernel
theorem dL_law_333 : decode cL_law 333 = .ok (.iaload, 1) := by decide +kernel
theorem dL_law_334 : decode cL_law 334 = .ok (.aload_n 0, 1) := by decide +kernel
theorem dL_law_335 : decode cL_law 335 = .ok (.iload_n 3, 1) := by decide +kernel
theorem dL_law_336 : decode cL_law 336 = .ok (.iconst 2, 1) := by decide +kernel
theorem dL_law_337 : decode cL_law 337 = .ok (.iadd, 1) := by decide +kernel
theorem dL_law_338 : decode cL_law 338 = .ok (.iaload, 1) := by decide +kernel
theorem dL_law_339 : decode cL_law 339 = .ok (.invokevirtual 56, 3) := by decide +kernel
theorem dL_law_342 : decode cL_law 342 = .ok (.aload_n 2, 1) := by decide +kernel
theorem dL_law_343 : decode cL_law 343 = .ok (.aload_n 0, 1) := by decide +kernel
theorem dL_law_344 : decode cL_law 344 = .ok (.iload_n 3, 1) := by decide +kernel
theorem dL_law_345 : decode cL_law 345 = .ok (.iconst 1, 1) := by decide +kernel
theorem dL_law_346 : decode cL_law 346 = .ok (.iadd, 1) := by decide +kernel
theorem dL_law_347 : decode cL_law 347 = .ok (.iaload, 1) := by decide +kernel
theorem dL_law_348 : decode cL_law 348 = .ok (.aload_n 0, 1) := by decide +kernel
theorem dL_law_349 : decode cL_law 349 = .ok (.iload_n 3, 1) := by decide +kernel
theorem dL_law_350 : decode cL_law 350 = .ok (.iconst 2, 1) := by decide +kernel
theorem dL_law_351 : decode cL_law 351 = .ok (.iadd, 1) := by decide +kernel
theorem dL_law_352 : decode cL_law 352 = .ok (.iaload, 1) := by decide +kernel
theorem dL_law_353 : decode cL_law 353 = .ok (.invokevirtual 59, 3) := by decide +kernel
theorem dL_law_356 : decode cL_law 356 = .ok (.if_icmp .eq 223, 3) := by decide +kernel
theorem dL_law_359 : decode cL_law 359 = .ok (.iconst 0, 1) := by decide +kernel
theorem dL_law_360 : decode cL_law 360 = .ok (.ireturn, 1) := by decide +kernel
theorem dL_law_361 : decode cL_law 361 = .ok (.aload_n 1, 1) := by decide +kernel
theorem dL_law_362 : decode cL_law 362 = .ok (.aload_n 0, 1) := by decide +kernel
theorem dL_law_363 : decode cL_law 363 = .ok (.iload_n 3, 1) := by decide +kernel
theorem dL_law_364 : decode cL_law 364 = .ok (.iconst 1, 1) := by decide +kernel
theorem dL_law_365 : decode cL_law 365 = .ok (.iadd, 1) := by decide +kernel
theorem dL_law_366 : decode cL_law 366 = .ok (.iaload, 1) := by decide +kernel
theorem dL_law_367 : decode cL_law 367 = .ok (.aload_n 0, 1) := by decide +kernel
theorem dL_law_368 : decode cL_law 368 = .ok (.iload_n 3, 1) := by decide +kernel
theorem dL_law_369 : decode cL_law 369 = .ok (.iconst 2, 1) := by decide +kernel
theorem dL_law_370 : decode cL_law 370 = .ok (.iadd, 1) := by decide +kernel
theorem dL_law_371 : decode cL_law 371 = .ok (.iaload, 1) := by decide +kernel
theorem dL_law_372 : decode cL_law 372 = .ok (.aload_n 0, 1) := by decide +kernel
theorem dL_law_373 : decode cL_law 373 = .ok (.iload_n 3, 1) := by decide +kernel
theorem dL_law_374 : decode cL_law 374 = .ok (.iconst 3, 1) := by decide +kernel
theorem dL_law_375 : decode cL_law 375 = .ok (.iadd, 1) := by decide +kernel
theorem dL_law_376 : decode cL_law 376 = .ok (.iaload, 1) := by decide +kernel
theorem dL_law_377 : decode cL_law 377 = .ok (.invokevirtual 60, 3) := by decide +kernel
theorem dL_law_380 : decode cL_law 380 = .ok (.aload_n 2, 1) := by decide +kernel
theorem dL_law_381 : decode cL_law 381 = .ok (.aload_n 0, 1) := by decide +kernel
theorem dL_law_382 : decode cL_law 382 = .ok (.iload_n 3, 1) := by decide +kernel
theorem dL_law_383 : decode cL_law 383 = .ok (.iconst 1, 1) := by decide +kernel
theorem dL_law_384 : decode cL_law 384 = .ok (.iadd, 1) := by decide +kernel
theorem dL_law_385 : decode cL_law 385 = .ok (.iaload, 1) := by decide +kernel
theorem dL_law_386 : decode cL_law 386 = .ok (.aload_n 0, 1) := by decide +kernel
theorem dL_law_387 : decode cL_law 387 = .ok (.iload_n 3, 1) := by decide +kernel
theorem dL_law_388 : decode cL_law 388 = .ok (.iconst 2, 1) := by decide +kernel
theorem dL_law_389 : decode cL_law 389 = .ok (.iadd, 1) := by decide +kernel
theorem dL_law_390 : decode cL_law 390 = .ok (.iaload, 1) := by decide +kernel
theorem dL_law_391 : decode cL_law 391 = .ok (.aload_n 0, 1) := by decide +kernel
theorem dL_law_392 : decode cL_law 392 = .ok (.iload_n 3, 1) := by decide +kernel
theorem dL_law_393 : decode cL_law 393 = .ok (.iconst 3, 1) := by decide +kernel
theorem dL_law_394 : decode cL_law 394 = .ok (.iadd, 1) := by decide +kernel
theorem dL_law_395 : decode cL_law 395 = .ok (.iaload, 1) := by decide +kernel
theorem dL_law_396 : decode cL_law 396 = .ok (.invokevirtual 64, 3) := by decide +kernel
theorem dL_law_399 : decode cL_law 399 = .ok (.if_icmp .eq 180, 3) := by decide +kernel
theorem dL_law_402 : decode cL_law 402 = .ok (.iconst 0, 1) := by decide +kernel
theorem dL_law_403 : decode cL_law 403 = .ok (.ireturn, 1) := by decide +kernel
theorem dL_law_404 : decode cL_law 404 = .ok (.aload_n 1, 1) := by decide +kernel
theorem dL_law_405 : decode cL_law 405 = .ok (.aload_n 0, 1) := by decide +kernel
theorem dL_law_406 : decode cL_law 406 = .ok (.iload_n 3, 1) := by decide +kernel
theorem dL_law_407 : decode cL_law 407 = .ok (.iconst 1, 1) := by decide +kernel
theorem dL_law_408 : decode cL_law 408 = .ok (.iadd, 1) := by decide +kernel
theorem dL_law_409 : decode cL_law 409 = .ok (.iaload, 1) := by decide +kernel
theorem dL_law_410 : decode cL_law 410 = .ok (.invokevirtual 65, 3) := by decide +kernel
theorem dL_law_413 : decode cL_law 413 = .ok (.aload_n 2, 1) := by decide +kernel
theorem dL_law_414 : decode cL_law 414 = .ok (.aload_n 0, 1) := by decide +kernel
theorem dL_law_415 : decode cL_law 415 = .ok (.iload_n 3, 1) := by decide +kernel
theorem dL_law_416 : decode cL_law 416 = .ok (.iconst 1, 1) := by decide +kernel
theorem dL_law_417 : decode cL_law 417 = .ok (.iadd, 1) := by decide +kernel
theorem dL_law_418 : decode cL_law 418 = .ok (.iaload, 1) := by decide +kernel
theorem dL_law_419 : decode cL_law 419 = .ok (.invokevirtual 68, 3) := by decide +kernel
theorem dL_law_422 : decode cL_law 422 = .ok (.if_icmp .eq 157, 3) := by decide +kernel
theorem dL_law_425 : decode cL_law 425 = .ok (.iconst 0, 1) := by decide +kernel
theorem dL_law_426 : decode cL_law 426 = .ok (.ireturn, 1) := by decide +kernel
theorem dL_law_427 : decode cL_law 427 = .ok (.aload_n 1, 1) := by decide +kernel
theorem dL_law_428 : decode cL_law 428 = .ok (.aload_n 0, 1) := by decide +kernel
theorem dL_law_429 : decode cL_law 429 = .ok (.iload_n 3, 1) := by decide +kernel
theorem dL_law_430 : decode cL_law 430 = .ok (.iconst 1, 1) := by decide +kernel
theorem dL_law_431 : decode cL_law 431 = .ok (.iadd, 1) := by decide +kernel
theorem dL_law_432 : decode cL_law 432 = .ok (.iaload, 1) := by decide +kernel
theorem dL_law_433 : decode cL_law 433 = .ok (.aload_n 0, 1) := by decide +kernel
theorem dL_law_434 : decode cL_law 434 = .ok (.iload_n 3, 1) := by decide +kernel
theorem dL_law_435 : decode cL_law 435 = .ok (.iconst 2, 1) := by decide +kernel
theorem dL_law_436 : decode cL_law 436 = .ok (.iadd, 1) := by decide +kernel
theorem dL_law_437 : decode cL_law 437 = .ok (.iaload, 1) := by decide +kernel
theorem dL_law_438 : decode cL_law 438 = .ok (.invokevirtual 69, 3) := by decide +kernel
theorem dL_law_441 : decode cL_law 441 = .ok (.aload_n 2, 1) := by decide +kernel
theorem dL_law_442 : decode cL_law 442 = .ok (.aload_n 0, 1) := by decide +kernel
theorem dL_law_443 : decode cL_law 443 = .ok (.iload_n 3, 1) := by decide +kernel
theorem dL_law_444 : decode cL_law 444 = .ok (.iconst 1, 1) := by decide +kernel
theorem dL_law_445 : decode cL_law 445 = .ok (.iadd, 1) := by decide +kernel
theorem dL_law_446 : decode cL_law 446 = .ok (.iaload, 1) := by decide +kernel
theorem dL_law_447 : decode cL_law 447 = .ok (.aload_n 0, 1) := by decide +kernel
theorem dL_law_448 : decode cL_law 448 = .ok (.iload_n 3, 1) := by decide +kernel
theorem dL_law_449 : decode cL_law 449 = .ok (.iconst 2, 1) := by decide +kernel
theorem dL_law_450 : decode cL_law 450 = .ok (.iadd, 1) := by decide +kernel
theorem dL_law_451 : decode cL_law 451 = .ok (.iaload, 1) := by decide +kernel
theorem dL_law_452 : decode cL_law 452 = .ok (.invokevirtual 72, 3) := by decide +kernel
theorem dL_law_455 : decode cL_law 455 = .ok (.if_icmp .eq 124, 3) := by decide +kernel
theorem dL_law_458 : decode cL_law 458 = .ok (.iconst 0, 1) := by decide +kernel
theorem dL_law_459 : decode cL_law 459 = .ok (.ireturn, 1) := by decide +kernel
theorem dL_law_460 : decode cL_law 460 = .ok (.aload_n 1, 1) := by decide +kernel
theorem dL_law_461 : decode cL_law 461 = .ok (.invokevirtual 73, 3) := by decide +kernel
theorem dL_law_464 : decode cL_law 464 = .ok (.aload_n 2, 1) := by decide +kernel
theorem dL_law_465 : decode cL_law 465 = .ok (.invokevirtual 76, 3) := by decide +kernel
theorem dL_law_468 : decode cL_law 468 = .ok (.if_icmp .eq 111, 3) := by decide +kernel
theorem dL_law_471 : decode cL_law 471 = .ok (.iconst 0, 1) := by decide +kernel
theorem dL_law_472 : decode cL_law 472 = .ok (.ireturn, 1) := by decide +kernel
theorem dL_law_473 : decode cL_law 473 = .ok (.aload_n 1, 1) := by decide +kernel
theorem dL_law_474 : decode cL_law 474 = .ok (.aload_n 0, 1) := by decide +kernel
theorem dL_law_475 : decode cL_law 475 = .ok (.iload_n 3, 1) := by decide +kernel
theorem dL_law_476 : decode cL_law 476 = .ok (.iconst 1, 1) := by decide +kernel
theorem dL_law_477 : decode cL_law 477 = .ok (.iadd, 1) := by decide +kernel
theorem dL_law_478 : decode cL_law 478 = .ok (.iaload, 1) := by decide +kernel
theorem dL_law_479 : decode cL_law 479 = .ok (.aload_n 0, 1) := by decide +kernel
theorem dL_law_480 : decode cL_law 480 = .ok (.iload_n 3, 1) := by decide +kernel
theorem dL_law_481 : decode cL_law 481 = .ok (.iconst 2, 1) := by decide +kernel
theorem dL_law_482 : decode cL_law 482 = .ok (.iadd, 1) := by decide +kernel
theorem dL_law_483 : decode cL_law 483 = .ok (.iaload, 1) := by decide +kernel
theorem dL_law_484 : decode cL_law 484 = .ok (.aload_n 0, 1) := by decide +kernel
theorem dL_law_485 : decode cL_law 485 = .ok (.iload_n 3, 1) := by decide +kernel
theorem dL_law_486 : decode cL_law 486 = .ok (.iconst 3, 1) := by decide +kernel
theorem dL_law_487 : decode cL_law 487 = .ok (.iadd, 1) := by decide +kernel
theorem dL_law_488 : decode cL_law 488 = .ok (.iaload, 1) := by decide +kernel
theorem dL_law_489 : decode cL_law 489 = .ok (.invokevirtual 77, 3) := by decide +kernel
theorem dL_law_492 : decode cL_law 492 = .ok (.aload_n 2, 1) := by decide +kernel
theorem dL_law_493 : decode cL_law 493 = .ok (.aload_n 0, 1) := by decide +kernel
theorem dL_law_494 : decode cL_law 494 = .ok (.iload_n 3, 1) := by decide +kernel
theorem dL_law_495 : decode cL_law 495 = .ok (.iconst 1, 1) := by decide +kernel
theorem dL_law_496 : decode cL_law 496 = .ok (.iadd, 1) := by decide +kernel
theorem dL_law_497 : decode cL_law 497 = .ok (.iaload, 1) := by decide +kernel
theorem dL_law_498 : decode cL_law 498 = .ok (.aload_n 0, 1) := by decide +kernel
theorem dL_law_499 : decode cL_law 499 = .ok (.iload_n 3, 1) := by decide +kernel
theorem dL_law_500 : decode cL_law 500 = .ok (.iconst 2, 1) := by decide +kernel
theorem dL_law_501 : decode cL_law 501 = .ok (.iadd, 1) := by decide +kernel
theorem dL_law_502 : decode cL_law 502 = .ok (.iaload, 1) := by decide +kernel
theorem dL_law_503 : decode cL_law 503 = .ok (.aload_n 0, 1) := by decide +kernel
theorem dL_law_504 : decode cL_law 504 = .ok (.iload_n 3, 1) := by decide +kernel
theorem dL_law_505 : decode cL_law 505 = .ok (.iconst 3, 1) := by decide +kernel
theorem dL_law_506 : decode cL_law 506 = .ok (.iadd, 1) := by decide +kernel
theorem dL_law_507 : decode cL_law 507 = .ok (.iaload, 1) := by decide +kernel
theorem dL_law_508 : decode cL_law 508 = .ok (.invokevirtual 80, 3) := by decide +kernel
theorem dL_law_511 : decode cL_law 511 = .ok (.if_icmp .eq 68, 3) := by decide +kernel
theorem dL_law_514 : decode cL_law 514 = .ok (.iconst 0, 1) := by decide +kernel
theorem dL_law_515 : decode cL_law 515 = .ok (.ireturn, 1) := by decide +kernel
theorem dL_law_516 : decode cL_law 516 = .ok (.aload_n 1, 1) := by decide +kernel
theorem dL_law_517 : decode cL_law 517 = .ok (.invokevirtual 81, 3) := by decide +kernel
theorem dL_law_520 : decode cL_law 520 = .ok (.aload_n 2, 1) := by decide +kernel
theorem dL_law_521 : decode cL_law 521 = .ok (.invokevirtual 84, 3) := by decide +kernel
theorem dL_law_524 : decode cL_law 524 = .ok (.if_icmp .eq 55, 3) := by decide +kernel
theorem dL_law_527 : decode cL_law 527 = .ok (.iconst 0, 1) := by decide +kernel
theorem dL_law_528 : decode cL_law 528 = .ok (.ireturn, 1) := by decide +kernel
theorem dL_law_529 : decode cL_law 529 = .ok (.aload_n 1, 1) := by decide +kernel
theorem dL_law_530 : decode cL_law 530 = .ok (.invokevirtual 85, 3) := by decide +kernel
theorem dL_law_533 : decode cL_law 533 = .ok (.aload_n 2, 1) := by decide +kernel
theorem dL_law_534 : decode cL_law 534 = .ok (.invokevirtual 88, 3) := by decide +kernel
theorem dL_law_537 : decode cL_law 537 = .ok (.if_icmp .eq 42, 3) := by decide +kernel
theorem dL_law_540 : decode cL_law 540 = .ok (.iconst 0, 1) := by decide +kernel
theorem dL_law_541 : decode cL_law 541 = .ok (.ireturn, 1) := by decide +kernel
theorem dL_law_542 : decode cL_law 542 = .ok (.aload_n 1, 1) := by decide +kernel
theorem dL_law_543 : decode cL_law 543 = .ok (.aload_n 0, 1) := by decide +kernel
theorem dL_law_544 : decode cL_law 544 = .ok (.iload_n 3, 1) := by decide +kernel
theorem dL_law_545 : decode cL_law 545 = .ok (.iconst 1, 1) := by decide +kernel
theorem dL_law_546 : decode cL_law 546 = .ok (.iadd, 1) := by decide +kernel
theorem dL_law_547 : decode cL_law 547 = .ok (.iaload, 1) := by decide +kernel
theorem dL_law_548 : decode cL_law 548 = .ok (.invokevirtual 89, 3) := by decide +kernel
theorem dL_law_551 : decode cL_law 551 = .ok (.aload_n 2, 1) := by decide +kernel
theorem dL_law_552 : decode cL_law 552 = .ok (.aload_n 0, 1) := by decide +kernel
theorem dL_law_553 : decode cL_law 553 = .ok (.iload_n 3, 1) := by decide +kernel
theorem dL_law_554 : decode cL_law 554 = .ok (.iconst 1, 1) := by decide +kernel
theorem dL_law_555 : decode cL_law 555 = .ok (.iadd, 1) := by decide +kernel
theorem dL_law_556 : decode cL_law 556 = .ok (.iaload, 1) := by decide +kernel
theorem dL_law_557 : decode cL_law 557 = .ok (.invokevirtual 92, 3) := by decide +kernel
theorem dL_law_560 : decode cL_law 560 = .ok (.if_icmp .eq 19, 3) := by decide +kernel
theorem dL_law_563 : decode cL_law 563 = .ok (.iconst 0, 1) := by decide +kernel
theorem dL_law_564 : decode cL_law 564 = .ok (.ireturn, 1) := by decide +kernel
theorem dL_law_565 : decode cL_law 565 = .ok (.aload_n 1, 1) := by decide +kernel
theorem dL_law_566 : decode cL_law 566 = .ok (.invokevirtual 93, 3) := by decide +kernel
theorem dL_law_569 : decode cL_law 569 = .ok (.aload_n 2, 1) := by decide +kernel
theorem dL_law_570 : decode cL_law 570 = .ok (.invokevirtual 97, 3) := by decide +kernel
theorem dL_law_573 : decode cL_law 573 = .ok (.lcmp, 1) := by decide +kernel
theorem dL_law_574 : decode cL_law 574 = .ok (.ifCond .eq 5, 3) := by decide +kernel
theorem dL_law_577 : decode cL_law 577 = .ok (.iconst 0, 1) := by decide +kernel
theorem dL_law_578 : decode cL_law 578 = .ok (.ireturn, 1) := by decide +kernel
theorem dL_law_579 : decode cL_law 579 = .ok (.iinc 3 4, 3) := by decide +kernel
theorem dL_law_582 : decode cL_law 582 = .ok (.goto (-564), 3) := by decide +kernel
theorem dL_law_585 : decode cL_law 585 = .ok (.iconst 1, 1) := by decide +kernel
theorem dL_law_586 : decode cL_law 586 = .ok (.ireturn, 1) := by decide +kernel
end
section
/-! the judgement J: the machine at a pc with locals lv, stack st, world ws; worlds up to order -/
abbrev Cx : Type := va_G × ClassId × ClassId × ClassId × ClassId × ClassId
def cxT (x : Cx) : List (ClassId × FieldType) := [(x.2.1, .int), (x.2.2.1, .boolean), (x.2.2.2.1, .byte), (x.2.2.2.2.1, .object "WakefulBed$Night"), (x.2.2.2.2.2, .array .int)]
def gw : List Cond := lw_tbl.filter goodWord
theorem gw_in {w : Cond} (h : w ∈ lw_tbl) (g : goodWord w = true) : w ∈ gw := List.mem_filter.mpr ⟨h, g⟩
theorem gw_good : GoodIn gw gw := fun w h => ⟨h, good_of_word (List.mem_filter.mp h).2⟩
def nst1 : Cond := .methodLinkNest RX3 37 yX5_isWithin RX5
def nst2 : Cond := .methodLinkNest RX3 31 yX5_kindByLetter RX5
def nst3 : Cond := .methodLinkNest RX2 72 yX5_tiredByHour RX5
def mx_AO (U : State) : Prop := (Cond.arrayOver (.array .int)).before #[] U = true
theorem mx_AO.moved {u U : State} (hvm : u.vm.Alike U.vm) (h : mx_AO u) : mx_AO U := Jvm.Stand.arrayOver_alikeB hvm h
def cxK (x : Cx) (U : State) : Prop := va_K x.1 vwCl (cxT x) U ∧ va_Nw nst1 U ∧ va_Nw nst2 U ∧ va_Nw nst3 U ∧ va_AO "WakefulBed$Night" U ∧ mx_AO U
theorem cxK.warm {x : Cx} {s U : State} (hW : s.WarmedH U.vm) (h : cxK x s) : cxK x U :=
  ⟨va_K.moved hW.alike h.1, va_Nw.warmM hW h.2.1, va_Nw.warmM hW h.2.2.1, va_Nw.warmM hW h.2.2.2.1, va_AO.moved hW.alike h.2.2.2.2.1, mx_AO.moved hW.alike h.2.2.2.2.2⟩
theorem cxK.same {x : Cx} {s U : State} (hv : s.vm = U.vm) (h : cxK x s) : cxK x U :=
  ⟨va_K.moved (by rw [hv]; exact Vm.Alike.refl _) h.1, va_Nw.same rfl hv h.2.1, va_Nw.same rfl hv h.2.2.1, va_Nw.same rfl hv h.2.2.2.1, va_AO.moved (by rw [hv]; exact Vm.Alike.refl _) h.2.2.2.2.1, mx_AO.moved (by rw [hv]; exact Vm.Alike.refl _) h.2.2.2.2.2⟩
-- worlds up to order
theorem va_P.perm {D : va_G} {cl : List vw_C} {w w' : va_W} {H : Heap} (h : va_P D cl w H) (hp : w.Perm w') : va_P D cl w' H := by
  intro k q hk
  obtain ⟨i, hi⟩ := List.getElem?_of_mem (hp.mem_iff.mpr (List.mem_of_getElem? hk))
  exact h i q hi
theorem va_D_iff {A : Nat → Prop} {w : va_W} : va_D A w ↔ (w.map (·.1)).Nodup ∧ ∀ q ∈ w, A q.1 := by
  rw [List.nodup_iff_pairwise_ne, List.pairwise_iff_getElem]
  constructor
  · intro h
    refine ⟨fun i j hi hj hij e => ?_, fun q hq => ?_⟩
    · rw [List.length_map] at hi hj
      have := h.1 i j _ _ (List.getElem?_eq_getElem hi) (List.getElem?_eq_getElem hj) (by simpa using e)
      omega
    · obtain ⟨i, hi⟩ := List.getElem?_of_mem hq
      exact h.2 i q hi
  · intro h
    refine ⟨fun i j p q hi hj e => ?_, fun k q hk => h.2 q (List.mem_of_getElem? hk)⟩
    obtain ⟨li, ei⟩ := List.getElem?_eq_some_iff.mp hi
    obtain ⟨lj, ej⟩ := List.getElem?_eq_some_iff.mp hj
    rcases Nat.lt_trichotomy i j with c | c | c
    · exact (h.1 i j (by simpa using li) (by simpa using lj) c (by simp [ei, ej, e])).elim
    · exact c
    · exact (h.1 j i (by simpa using lj) (by simpa using li) c (by simp [ei, ej, e])).elim
theorem va_D.perm {A : Nat → Prop} {w w' : va_W} (h : va_D A w) (hp : w.Perm w') : va_D A w' := by
  rw [va_D_iff] at h ⊢
  exact ⟨(hp.map _).nodup_iff.mp h.1, fun q hq => h.2 q (hp.mem_iff.mpr hq)⟩
theorem pm_rng {α : Type} : ∀ (l : List α), (List.range l.length).filterMap (fun i => l[i]?) = l
  | [] => rfl
  | a :: l => by
    rw [List.length_cons, List.range_succ_eq_map, List.filterMap_cons]
    simp only [List.getElem?_cons_zero, List.filterMap_map]
    refine congrArg (List.cons a) ?_
    exact pm_rng l
theorem pm_idx {α : Type} (l : List α) (is : List Nat) (h : is.isPerm (List.range l.length) = true) : l.Perm (is.filterMap (fun i => l[i]?)) := by
  have h2 : is.Perm (List.range l.length) := List.isPerm_iff.mp h
  have h3 := (h2.filterMap (fun i => l[i]?)).symm
  rw [pm_rng] at h3
  exact h3
/-- cells by their places -/
theorem pm_w {w w' : va_W} (is : List Nat) (h : is.isPerm (List.range w.length) = true) (e : is.filterMap (fun i => w[i]?) = w') : w.Perm w' := e ▸ pm_idx w is h
/-- blocks by their places -/
def fl (bs : List va_W) : va_W := bs.flatten
theorem pm_b {bs bs' : List va_W} (is : List Nat) (h : is.isPerm (List.range bs.length) = true) (e : is.filterMap (fun i => bs[i]?) = bs') : (fl bs).Perm (fl bs') := by
  subst e
  exact (pm_idx bs is h).flatten
theorem pm_c {bs bc br : List va_W} (is js : List Nat) (h : (is ++ js).isPerm (List.range bs.length) = true) (e : is.filterMap (fun i => bs[i]?) = bc) (f : js.filterMap (fun i => bs[i]?) = br) : (fl bs).Perm (fl bc ++ fl br) := by
  subst e; subst f
  have h1 := (pm_idx bs (is ++ js) h).flatten
  rw [List.filterMap_append, List.flatten_append] at h1
  exact h1

-- the machine's constants, in one
abbrev Mx : Type := Program × Env × Room × State × MethodId × Array Value × List Frame × Method × Code × (Nat → Prop) × (State → Prop) × Nat × Nat
def jRet (cc : ByteArray) (pc : Nat) (v : Option Value) : Prop := (∃ i : Int32, v = some (.int i) ∧ decode cc pc = .ok (.ireturn, 1)) ∨ (∃ i : Int64, v = some (.long i) ∧ decode cc pc = .ok (.lreturn, 1)) ∨ (v = none ∧ decode cc pc = .ok (.return_, 1))
def jEnv (M : Mx) (l : Launch) (x : Cx) (cc : ByteArray) (nL : Nat) (y : MethodName) (d : Nat) (P : Option Value → va_W → Prop) : Prop := match M with
  | (p, e, R, s, m, args, below, meth, c, A, Q, mc, ms) =>
    (p.tables.exec = Jvm.exec ∧ c.code = cc ∧ c.maxLocals = nL ∧ s.vm.findClass y.cls = some m.cls ∧ meth.name = y.name ∧ (∀ w ∈ gw, w.before args s = true) ∧ cxK x s ∧ (∀ q, s.heap.size ≤ q → A q)) ∧
    (d ≤ R.frames ∧ 40 * d ≤ R.locals ∧ mc ≤ R.cells ∧ ms ≤ R.slots) ∧
    ∀ (v : Option Value) (ws : va_W) (pc : Nat) (H : Heap) (locs : List Loc) (ls : Array Slot) (cells slots : Nat), P v ws → jRet cc pc v → cells ≤ mc → slots ≤ ms → va_P x.1 vwCl ws H → va_D A ws → va_S A s.heap H locs → W p l e R s m args below meth c H locs cells slots Q (F0 m pc ls v.toList)
def J (M : Mx) (l : Launch) (x : Cx) (cc : ByteArray) (nL : Nat) (y : MethodName) (d : Nat) (P : Option Value → va_W → Prop) (k n pc : Nat) (lv : List (Nat × Value)) (st : List Value) (ws : va_W) : Prop := match M with
  | (p, e, R, s, m, args, below, meth, c, A, Q, mc, ms) =>
    jEnv (p, e, R, s, m, args, below, meth, c, A, Q, mc, ms) l x cc nL y d P → ∀ (cells slots : Nat) (H : Heap) (locs : List Loc) (ls : Array Slot), cells + k ≤ mc → slots + n ≤ ms → va_P x.1 vwCl ws H → va_D A ws → va_S A s.heap H locs → lv_has ls nL lv → W p l e R s m args below meth c H locs cells slots Q (F0 m pc ls st)
end
section
section
variable {M : Mx} {l : Launch} {x : Cx} {cc : ByteArray} {nL : Nat} {y : MethodName} {d : Nat} {P : Option Value → va_W → Prop} {k n pc : Nat} {lv : List (Nat × Value)} {st : List Value} {ws : va_W}
theorem j_iconst {i : Int} {v : Int32} (hd : decode cc pc = .ok (.iconst i, 1)) (hv : Int32.ofInt i = v) (kk : J M l x cc nL y d P k n (pc + 1) lv (.int v :: st) ws) : J M l x cc nL y d P k n pc lv st ws := by
  obtain ⟨p, e, R, s, m, args, below, meth, c, A, Q, mc, ms⟩ := M
  intro E cells slots H locs ls h1 h2 hP hD hS hl
  exact lv_iconst E.1.1 E.1.2.1 hd hv (kk E cells slots H locs ls h1 h2 hP hD hS hl)
theorem j_bipush {i : Int} {v : Int32} (hd : decode cc pc = .ok (.bipush i, 2)) (hv : (Int8.ofInt i).toInt32 = v) (kk : J M l x cc nL y d P k n (pc + 2) lv (.int v :: st) ws) : J M l x cc nL y d P k n pc lv st ws := by
  obtain ⟨p, e, R, s, m, args, below, meth, c, A, Q, mc, ms⟩ := M
  intro E cells slots H locs ls h1 h2 hP hD hS hl
  exact lv_bipush E.1.1 E.1.2.1 hd hv (kk E cells slots H locs ls h1 h2 hP hD hS hl)
theorem j_sipush {i : Int} {v : Int32} (hd : decode cc pc = .ok (.sipush i, 3)) (hv : (Int16.ofInt i).toInt32 = v) (kk : J M l x cc nL y d P k n (pc + 3) lv (.int v :: st) ws) : J M l x cc nL y d P k n pc lv st ws := by
  obtain ⟨p, e, R, s, m, args, below, meth, c, A, Q, mc, ms⟩ := M
  intro E cells slots H locs ls h1 h2 hP hD hS hl
  exact lv_sipush E.1.1 E.1.2.1 hd hv (kk E cells slots H locs ls h1 h2 hP hD hS hl)
theorem j_lconst {i : Fin 2} {v : Int64} (hd : decode cc pc = .ok (.lconst i, 1)) (hv : Int64.ofNat (i : Nat) = v) (kk : J M l x cc nL y d P k n (pc + 1) lv (.long v :: st) ws) : J M l x cc nL y d P k n pc lv st ws := by
  obtain ⟨p, e, R, s, m, args, below, meth, c, A, Q, mc, ms⟩ := M
  intro E cells slots H locs ls h1 h2 hP hD hS hl
  exact lv_lconst E.1.1 E.1.2.1 hd hv (kk E cells slots H locs ls h1 h2 hP hD hS hl)
theorem j_ldc {i : Nat} {v : Int32} (hd : decode cc pc = .ok (.ldc i, 2)) (hc : Cond.constant y.cls i v ∈ gw) (kk : J M l x cc nL y d P k n (pc + 2) lv (.int v :: st) ws) : J M l x cc nL y d P k n pc lv st ws := by
  obtain ⟨p, e, R, s, m, args, below, meth, c, A, Q, mc, ms⟩ := M
  intro E cells slots H locs ls h1 h2 hP hD hS hl
  exact lv_ldc E.1.1 E.1.2.1 E.1.2.2.2.1 (E.1.2.2.2.2.2.1 _ hc) hd (kk E cells slots H locs ls h1 h2 hP hD hS hl)
theorem j_ldc2 {i : Nat} {v : Int64} (hd : decode cc pc = .ok (.ldc2_w i, 3)) (hc : Cond.constantLong y.cls i v ∈ gw) (kk : J M l x cc nL y d P k n (pc + 3) lv (.long v :: st) ws) : J M l x cc nL y d P k n pc lv st ws := by
  obtain ⟨p, e, R, s, m, args, below, meth, c, A, Q, mc, ms⟩ := M
  intro E cells slots H locs ls h1 h2 hP hD hS hl
  exact lv_ldc2 E.1.1 E.1.2.1 E.1.2.2.2.1 (E.1.2.2.2.2.2.1 _ hc) hd (kk E cells slots H locs ls h1 h2 hP hD hS hl)
theorem j_iload_n (q : Nat) {j : Fin 4} {i : Nat} {v : Int32} (hd : decode cc pc = .ok (.iload_n j, 1)) (hi : (j : Nat) = i) (hq : lv[q]? = some (i, .int v)) (kk : J M l x cc nL y d P k n (pc + 1) lv (.int v :: st) ws) : J M l x cc nL y d P k n pc lv st ws := by
  obtain ⟨p, e, R, s, m, args, below, meth, c, A, Q, mc, ms⟩ := M
  intro E cells slots H locs ls h1 h2 hP hD hS hl
  exact lv_iload_n E.1.1 E.1.2.1 hd hi (lv_at hl q hq) (kk E cells slots H locs ls h1 h2 hP hD hS hl)
theorem j_iload (q : Nat) {i : Nat} {v : Int32} (hd : decode cc pc = .ok (.iload i, 2)) (hq : lv[q]? = some (i, .int v)) (kk : J M l x cc nL y d P k n (pc + 2) lv (.int v :: st) ws) : J M l x cc nL y d P k n pc lv st ws := by
  obtain ⟨p, e, R, s, m, args, below, meth, c, A, Q, mc, ms⟩ := M
  intro E cells slots H locs ls h1 h2 hP hD hS hl
  exact lv_iload E.1.1 E.1.2.1 hd (lv_at hl q hq) (kk E cells slots H locs ls h1 h2 hP hD hS hl)
theorem j_lload_n (q : Nat) {j : Fin 4} {i : Nat} {v : Int64} (hd : decode cc pc = .ok (.lload_n j, 1)) (hi : (j : Nat) = i) (hq : lv[q]? = some (i, .long v)) (kk : J M l x cc nL y d P k n (pc + 1) lv (.long v :: st) ws) : J M l x cc nL y d P k n pc lv st ws := by
  obtain ⟨p, e, R, s, m, args, below, meth, c, A, Q, mc, ms⟩ := M
  intro E cells slots H locs ls h1 h2 hP hD hS hl
  exact lv_lload_n E.1.1 E.1.2.1 hd hi (lv_at hl q hq) (kk E cells slots H locs ls h1 h2 hP hD hS hl)
theorem j_lload (q : Nat) {i : Nat} {v : Int64} (hd : decode cc pc = .ok (.lload i, 2)) (hq : lv[q]? = some (i, .long v)) (kk : J M l x cc nL y d P k n (pc + 2) lv (.long v :: st) ws) : J M l x cc nL y d P k n pc lv st ws := by
  obtain ⟨p, e, R, s, m, args, below, meth, c, A, Q, mc, ms⟩ := M
  intro E cells slots H locs ls h1 h2 hP hD hS hl
  exact lv_lload E.1.1 E.1.2.1 hd (lv_at hl q hq) (kk E cells slots H locs ls h1 h2 hP hD hS hl)
theorem j_aload_n (q : Nat) {j : Fin 4} {i : Nat} {v : Nat} (hd : decode cc pc = .ok (.aload_n j, 1)) (hi : (j : Nat) = i) (hq : lv[q]? = some (i, .ref v)) (kk : J M l x cc nL y d P k n (pc + 1) lv (.ref v :: st) ws) : J M l x cc nL y d P k n pc lv st ws := by
  obtain ⟨p, e, R, s, m, args, below, meth, c, A, Q, mc, ms⟩ := M
  intro E cells slots H locs ls h1 h2 hP hD hS hl
  exact lv_aload_n E.1.1 E.1.2.1 hd hi (lv_at hl q hq) (kk E cells slots H locs ls h1 h2 hP hD hS hl)
theorem j_aload (q : Nat) {i : Nat} {v : Nat} (hd : decode cc pc = .ok (.aload i, 2)) (hq : lv[q]? = some (i, .ref v)) (kk : J M l x cc nL y d P k n (pc + 2) lv (.ref v :: st) ws) : J M l x cc nL y d P k n pc lv st ws := by
  obtain ⟨p, e, R, s, m, args, below, meth, c, A, Q, mc, ms⟩ := M
  intro E cells slots H locs ls h1 h2 hP hD hS hl
  exact lv_aload E.1.1 E.1.2.1 hd (lv_at hl q hq) (kk E cells slots H locs ls h1 h2 hP hD hS hl)
theorem j_istore_n {j : Fin 4} {i : Nat} {v : Int32} {lv' : List (Nat × Value)} (hd : decode cc pc = .ok (.istore_n j, 1)) (hi : (j : Nat) = i) (hn : i < nL) (hlv : (i, Value.int v) :: lv.filter (fun q => !(q.1 == i) && !(q.1 + 1 == i && q.2.category == 2)) = lv') (kk : J M l x cc nL y d P k n (pc + 1) lv' st ws) : J M l x cc nL y d P k n pc lv (.int v :: st) ws := by
  obtain ⟨p, e, R, s, m, args, below, meth, c, A, Q, mc, ms⟩ := M
  intro E cells slots H locs ls h1 h2 hP hD hS hl
  exact lv_istore_n E.1.1 E.1.2.1 hd hi hl hn hlv (fun ls hl => kk E cells slots H locs ls h1 h2 hP hD hS hl)
theorem j_istore {i : Nat} {v : Int32} {lv' : List (Nat × Value)} (hd : decode cc pc = .ok (.istore i, 2)) (hn : i < nL) (hlv : (i, Value.int v) :: lv.filter (fun q => !(q.1 == i) && !(q.1 + 1 == i && q.2.category == 2)) = lv') (kk : J M l x cc nL y d P k n (pc + 2) lv' st ws) : J M l x cc nL y d P k n pc lv (.int v :: st) ws := by
  obtain ⟨p, e, R, s, m, args, below, meth, c, A, Q, mc, ms⟩ := M
  intro E cells slots H locs ls h1 h2 hP hD hS hl
  exact lv_istore E.1.1 E.1.2.1 hd hl hn hlv (fun ls hl => kk E cells slots H locs ls h1 h2 hP hD hS hl)
theorem j_lstore_n {j : Fin 4} {i : Nat} {v : Int64} {lv' : List (Nat × Value)} (hd : decode cc pc = .ok (.lstore_n j, 1)) (hi : (j : Nat) = i) (hn : i + 1 < nL) (hlv : (i, Value.long v) :: lv.filter (fun q => !(q.1 == i) && (!(q.1 == i + 1) && !(q.1 + 1 == i && q.2.category == 2))) = lv') (kk : J M l x cc nL y d P k n (pc + 1) lv' st ws) : J M l x cc nL y d P k n pc lv (.long v :: st) ws := by
  obtain ⟨p, e, R, s, m, args, below, meth, c, A, Q, mc, ms⟩ := M
  intro E cells slots H locs ls h1 h2 hP hD hS hl
  exact lv_lstore_n E.1.1 E.1.2.1 hd hi hl hn hlv (fun ls hl => kk E cells slots H locs ls h1 h2 hP hD hS hl)
theorem j_lstore {i : Nat} {v : Int64} {lv' : List (Nat × Value)} (hd : decode cc pc = .ok (.lstore i, 2)) (hn : i + 1 < nL) (hlv : (i, Value.long v) :: lv.filter (fun q => !(q.1 == i) && (!(q.1 == i + 1) && !(q.1 + 1 == i && q.2.category == 2))) = lv') (kk : J M l x cc nL y d P k n (pc + 2) lv' st ws) : J M l x cc nL y d P k n pc lv (.long v :: st) ws := by
  obtain ⟨p, e, R, s, m, args, below, meth, c, A, Q, mc, ms⟩ := M
  intro E cells slots H locs ls h1 h2 hP hD hS hl
  exact lv_lstore E.1.1 E.1.2.1 hd hl hn hlv (fun ls hl => kk E cells slots H locs ls h1 h2 hP hD hS hl)
theorem j_astore_n {j : Fin 4} {i : Nat} {v : Nat} {lv' : List (Nat × Value)} (hd : decode cc pc = .ok (.astore_n j, 1)) (hi : (j : Nat) = i) (hn : i < nL) (hlv : (i, Value.ref v) :: lv.filter (fun q => !(q.1 == i) && !(q.1 + 1 == i && q.2.category == 2)) = lv') (kk : J M l x cc nL y d P k n (pc + 1) lv' st ws) : J M l x cc nL y d P k n pc lv (.ref v :: st) ws := by
  obtain ⟨p, e, R, s, m, args, below, meth, c, A, Q, mc, ms⟩ := M
  intro E cells slots H locs ls h1 h2 hP hD hS hl
  exact lv_astore_n E.1.1 E.1.2.1 hd hi hl hn hlv (fun ls hl => kk E cells slots H locs ls h1 h2 hP hD hS hl)
theorem j_astore {i : Nat} {v : Nat} {lv' : List (Nat × Value)} (hd : decode cc pc = .ok (.astore i, 2)) (hn : i < nL) (hlv : (i, Value.ref v) :: lv.filter (fun q => !(q.1 == i) && !(q.1 + 1 == i && q.2.category == 2)) = lv') (kk : J M l x cc nL y d P k n (pc + 2) lv' st ws) : J M l x cc nL y d P k n pc lv (.ref v :: st) ws := by
  obtain ⟨p, e, R, s, m, args, below, meth, c, A, Q, mc, ms⟩ := M
  intro E cells slots H locs ls h1 h2 hP hD hS hl
  exact lv_astore E.1.1 E.1.2.1 hd hl hn hlv (fun ls hl => kk E cells slots H locs ls h1 h2 hP hD hS hl)
theorem j_iinc (q : Nat) {i : Nat} {t : Int} {u v : Int32} {lv' : List (Nat × Value)} (hd : decode cc pc = .ok (.iinc i t, 3)) (hq : lv[q]? = some (i, .int u)) (hv : u + Int32.ofInt t = v) (hn : i < nL) (hlv : (i, Value.int v) :: lv.filter (fun q => !(q.1 == i) && !(q.1 + 1 == i && q.2.category == 2)) = lv') (kk : J M l x cc nL y d P k n (pc + 3) lv' st ws) : J M l x cc nL y d P k n pc lv st ws := by
  obtain ⟨p, e, R, s, m, args, below, meth, c, A, Q, mc, ms⟩ := M
  intro E cells slots H locs ls h1 h2 hP hD hS hl
  exact lv_iinc E.1.1 E.1.2.1 hd hl hq hv hn hlv (fun ls hl => kk E cells slots H locs ls h1 h2 hP hD hS hl)
theorem j_iadd {a b : Int32} (hd : decode cc pc = .ok (.iadd, 1)) (kk : J M l x cc nL y d P k n (pc + 1) lv (.int (a + b) :: st) ws) : J M l x cc nL y d P k n pc lv (.int b :: .int a :: st) ws := by
  obtain ⟨p, e, R, s, m, args, below, meth, c, A, Q, mc, ms⟩ := M
  intro E cells slots H locs ls h1 h2 hP hD hS hl
  exact lv_iadd E.1.1 E.1.2.1 hd (kk E cells slots H locs ls h1 h2 hP hD hS hl)
theorem j_isub {a b : Int32} (hd : decode cc pc = .ok (.isub, 1)) (kk : J M l x cc nL y d P k n (pc + 1) lv (.int (a - b) :: st) ws) : J M l x cc nL y d P k n pc lv (.int b :: .int a :: st) ws := by
  obtain ⟨p, e, R, s, m, args, below, meth, c, A, Q, mc, ms⟩ := M
  intro E cells slots H locs ls h1 h2 hP hD hS hl
  exact lv_isub E.1.1 E.1.2.1 hd (kk E cells slots H locs ls h1 h2 hP hD hS hl)
theorem j_imul {a b : Int32} (hd : decode cc pc = .ok (.imul, 1)) (kk : J M l x cc nL y d P k n (pc + 1) lv (.int (a * b) :: st) ws) : J M l x cc nL y d P k n pc lv (.int b :: .int a :: st) ws := by
  obtain ⟨p, e, R, s, m, args, below, meth, c, A, Q, mc, ms⟩ := M
  intro E cells slots H locs ls h1 h2 hP hD hS hl
  exact lv_imul E.1.1 E.1.2.1 hd (kk E cells slots H locs ls h1 h2 hP hD hS hl)
theorem j_iand {a b : Int32} (hd : decode cc pc = .ok (.iand, 1)) (kk : J M l x cc nL y d P k n (pc + 1) lv (.int (a &&& b) :: st) ws) : J M l x cc nL y d P k n pc lv (.int b :: .int a :: st) ws := by
  obtain ⟨p, e, R, s, m, args, below, meth, c, A, Q, mc, ms⟩ := M
  intro E cells slots H locs ls h1 h2 hP hD hS hl
  exact lv_iand E.1.1 E.1.2.1 hd (kk E cells slots H locs ls h1 h2 hP hD hS hl)
theorem j_ior {a b : Int32} (hd : decode cc pc = .ok (.ior, 1)) (kk : J M l x cc nL y d P k n (pc + 1) lv (.int (a ||| b) :: st) ws) : J M l x cc nL y d P k n pc lv (.int b :: .int a :: st) ws := by
  obtain ⟨p, e, R, s, m, args, below, meth, c, A, Q, mc, ms⟩ := M
  intro E cells slots H locs ls h1 h2 hP hD hS hl
  exact lv_ior E.1.1 E.1.2.1 hd (kk E cells slots H locs ls h1 h2 hP hD hS hl)
theorem j_idiv {a b : Int32} (hd : decode cc pc = .ok (.idiv, 1)) (hne : ¬ b = 0) (kk : J M l x cc nL y d P k n (pc + 1) lv (.int (a / b) :: st) ws) : J M l x cc nL y d P k n pc lv (.int b :: .int a :: st) ws := by
  obtain ⟨p, e, R, s, m, args, below, meth, c, A, Q, mc, ms⟩ := M
  intro E cells slots H locs ls h1 h2 hP hD hS hl
  exact lv_idiv E.1.1 E.1.2.1 hd hne (kk E cells slots H locs ls h1 h2 hP hD hS hl)
theorem j_irem {a b : Int32} (hd : decode cc pc = .ok (.irem, 1)) (hne : ¬ b = 0) (kk : J M l x cc nL y d P k n (pc + 1) lv (.int (a - a / b * b) :: st) ws) : J M l x cc nL y d P k n pc lv (.int b :: .int a :: st) ws := by
  obtain ⟨p, e, R, s, m, args, below, meth, c, A, Q, mc, ms⟩ := M
  intro E cells slots H locs ls h1 h2 hP hD hS hl
  exact lv_irem E.1.1 E.1.2.1 hd hne (kk E cells slots H locs ls h1 h2 hP hD hS hl)
theorem j_ladd {a b : Int64} (hd : decode cc pc = .ok (.ladd, 1)) (kk : J M l x cc nL y d P k n (pc + 1) lv (.long (a + b) :: st) ws) : J M l x cc nL y d P k n pc lv (.long b :: .long a :: st) ws := by
  obtain ⟨p, e, R, s, m, args, below, meth, c, A, Q, mc, ms⟩ := M
  intro E cells slots H locs ls h1 h2 hP hD hS hl
  exact lv_ladd E.1.1 E.1.2.1 hd (kk E cells slots H locs ls h1 h2 hP hD hS hl)
theorem j_lmul {a b : Int64} (hd : decode cc pc = .ok (.lmul, 1)) (kk : J M l x cc nL y d P k n (pc + 1) lv (.long (a * b) :: st) ws) : J M l x cc nL y d P k n pc lv (.long b :: .long a :: st) ws := by
  obtain ⟨p, e, R, s, m, args, below, meth, c, A, Q, mc, ms⟩ := M
  intro E cells slots H locs ls h1 h2 hP hD hS hl
  exact lv_lmul E.1.1 E.1.2.1 hd (kk E cells slots H locs ls h1 h2 hP hD hS hl)
theorem j_land {a b : Int64} (hd : decode cc pc = .ok (.land, 1)) (kk : J M l x cc nL y d P k n (pc + 1) lv (.long (a &&& b) :: st) ws) : J M l x cc nL y d P k n pc lv (.long b :: .long a :: st) ws := by
  obtain ⟨p, e, R, s, m, args, below, meth, c, A, Q, mc, ms⟩ := M
  intro E cells slots H locs ls h1 h2 hP hD hS hl
  exact lv_land E.1.1 E.1.2.1 hd (kk E cells slots H locs ls h1 h2 hP hD hS hl)
theorem j_ldiv {a b : Int64} (hd : decode cc pc = .ok (.ldiv, 1)) (hne : ¬ b = 0) (kk : J M l x cc nL y d P k n (pc + 1) lv (.long (a / b) :: st) ws) : J M l x cc nL y d P k n pc lv (.long b :: .long a :: st) ws := by
  obtain ⟨p, e, R, s, m, args, below, meth, c, A, Q, mc, ms⟩ := M
  intro E cells slots H locs ls h1 h2 hP hD hS hl
  exact lv_ldiv E.1.1 E.1.2.1 hd hne (kk E cells slots H locs ls h1 h2 hP hD hS hl)
theorem j_lrem {a b : Int64} (hd : decode cc pc = .ok (.lrem, 1)) (hne : ¬ b = 0) (kk : J M l x cc nL y d P k n (pc + 1) lv (.long (a - a / b * b) :: st) ws) : J M l x cc nL y d P k n pc lv (.long b :: .long a :: st) ws := by
  obtain ⟨p, e, R, s, m, args, below, meth, c, A, Q, mc, ms⟩ := M
  intro E cells slots H locs ls h1 h2 hP hD hS hl
  exact lv_lrem E.1.1 E.1.2.1 hd hne (kk E cells slots H locs ls h1 h2 hP hD hS hl)
theorem j_ishl {a b : Int32} (hd : decode cc pc = .ok (.ishl, 1)) (kk : J M l x cc nL y d P k n (pc + 1) lv (.int (a <<< (b &&& 31)) :: st) ws) : J M l x cc nL y d P k n pc lv (.int b :: .int a :: st) ws := by
  obtain ⟨p, e, R, s, m, args, below, meth, c, A, Q, mc, ms⟩ := M
  intro E cells slots H locs ls h1 h2 hP hD hS hl
  exact lv_ishl E.1.1 E.1.2.1 hd (kk E cells slots H locs ls h1 h2 hP hD hS hl)
theorem j_ishr {a b : Int32} (hd : decode cc pc = .ok (.ishr, 1)) (kk : J M l x cc nL y d P k n (pc + 1) lv (.int (a >>> (b &&& 31)) :: st) ws) : J M l x cc nL y d P k n pc lv (.int b :: .int a :: st) ws := by
  obtain ⟨p, e, R, s, m, args, below, meth, c, A, Q, mc, ms⟩ := M
  intro E cells slots H locs ls h1 h2 hP hD hS hl
  exact lv_ishr E.1.1 E.1.2.1 hd (kk E cells slots H locs ls h1 h2 hP hD hS hl)
theorem j_i2l {a : Int32} (hd : decode cc pc = .ok (.i2l, 1)) (kk : J M l x cc nL y d P k n (pc + 1) lv (.long a.toInt64 :: st) ws) : J M l x cc nL y d P k n pc lv (.int a :: st) ws := by
  obtain ⟨p, e, R, s, m, args, below, meth, c, A, Q, mc, ms⟩ := M
  intro E cells slots H locs ls h1 h2 hP hD hS hl
  exact lv_i2l E.1.1 E.1.2.1 hd rfl (kk E cells slots H locs ls h1 h2 hP hD hS hl)
theorem j_l2i {a : Int64} (hd : decode cc pc = .ok (.l2i, 1)) (kk : J M l x cc nL y d P k n (pc + 1) lv (.int a.toInt32 :: st) ws) : J M l x cc nL y d P k n pc lv (.long a :: st) ws := by
  obtain ⟨p, e, R, s, m, args, below, meth, c, A, Q, mc, ms⟩ := M
  intro E cells slots H locs ls h1 h2 hP hD hS hl
  exact lv_l2i E.1.1 E.1.2.1 hd rfl (kk E cells slots H locs ls h1 h2 hP hD hS hl)
theorem j_i2b {a : Int32} (hd : decode cc pc = .ok (.i2b, 1)) (kk : J M l x cc nL y d P k n (pc + 1) lv (.int a.toInt8.toInt32 :: st) ws) : J M l x cc nL y d P k n pc lv (.int a :: st) ws := by
  obtain ⟨p, e, R, s, m, args, below, meth, c, A, Q, mc, ms⟩ := M
  intro E cells slots H locs ls h1 h2 hP hD hS hl
  exact lv_i2b E.1.1 E.1.2.1 hd rfl (kk E cells slots H locs ls h1 h2 hP hD hS hl)
theorem j_dup {v : Value} (hd : decode cc pc = .ok (.dup, 1)) (hv : v.category = 1) (kk : J M l x cc nL y d P k n (pc + 1) lv (v :: v :: st) ws) : J M l x cc nL y d P k n pc lv (v :: st) ws := by
  obtain ⟨p, e, R, s, m, args, below, meth, c, A, Q, mc, ms⟩ := M
  intro E cells slots H locs ls h1 h2 hP hD hS hl
  exact lv_dup E.1.1 E.1.2.1 hd hv (kk E cells slots H locs ls h1 h2 hP hD hS hl)
theorem j_pop {v : Value} (hd : decode cc pc = .ok (.pop, 1)) (hv : v.category = 1) (kk : J M l x cc nL y d P k n (pc + 1) lv st ws) : J M l x cc nL y d P k n pc lv (v :: st) ws := by
  obtain ⟨p, e, R, s, m, args, below, meth, c, A, Q, mc, ms⟩ := M
  intro E cells slots H locs ls h1 h2 hP hD hS hl
  exact lv_pop E.1.1 E.1.2.1 hd hv (kk E cells slots H locs ls h1 h2 hP hD hS hl)
theorem j_dup2 {v u : Value} (hd : decode cc pc = .ok (.dup2, 1)) (hv : v.category = 1) (hu : u.category = 1) (kk : J M l x cc nL y d P k n (pc + 1) lv (v :: u :: v :: u :: st) ws) : J M l x cc nL y d P k n pc lv (v :: u :: st) ws := by
  obtain ⟨p, e, R, s, m, args, below, meth, c, A, Q, mc, ms⟩ := M
  intro E cells slots H locs ls h1 h2 hP hD hS hl
  exact lv_dup2_11 E.1.1 E.1.2.1 hd hv hu (kk E cells slots H locs ls h1 h2 hP hD hS hl)
theorem j_goto {off : Int} {tgt : Nat} (hd : decode cc pc = .ok (.goto off, 3)) (ht : (pc : Int) + off = (tgt : Int)) (kk : J M l x cc nL y d P k n tgt lv st ws) : J M l x cc nL y d P k n pc lv st ws := by
  obtain ⟨p, e, R, s, m, args, below, meth, c, A, Q, mc, ms⟩ := M
  intro E cells slots H locs ls h1 h2 hP hD hS hl
  exact lv_goto E.1.1 E.1.2.1 hd ht (kk E cells slots H locs ls h1 h2 hP hD hS hl)
theorem j_if_eq {a : Int32} {off : Int} {tgt : Nat} (hd : decode cc pc = .ok (.ifCond .eq off, 3)) (ht : (pc : Int) + off = (tgt : Int)) (kt : a = 0 → J M l x cc nL y d P k n tgt lv st ws) (kf : ¬ a = 0 → J M l x cc nL y d P k n (pc + 3) lv st ws) : J M l x cc nL y d P k n pc lv (.int a :: st) ws := by
  obtain ⟨p, e, R, s, m, args, below, meth, c, A, Q, mc, ms⟩ := M
  intro E cells slots H locs ls h1 h2 hP hD hS hl
  exact lv_if_eq E.1.1 E.1.2.1 hd ht (fun q => kt q E cells slots H locs ls h1 h2 hP hD hS hl) (fun q => kf q E cells slots H locs ls h1 h2 hP hD hS hl)
theorem j_icmp_eq {a b : Int32} {off : Int} {tgt : Nat} (hd : decode cc pc = .ok (.if_icmp .eq off, 3)) (ht : (pc : Int) + off = (tgt : Int)) (kt : a = b → J M l x cc nL y d P k n tgt lv st ws) (kf : ¬ a = b → J M l x cc nL y d P k n (pc + 3) lv st ws) : J M l x cc nL y d P k n pc lv (.int b :: .int a :: st) ws := by
  obtain ⟨p, e, R, s, m, args, below, meth, c, A, Q, mc, ms⟩ := M
  intro E cells slots H locs ls h1 h2 hP hD hS hl
  exact lv_icmp_eq E.1.1 E.1.2.1 hd ht (fun q => kt q E cells slots H locs ls h1 h2 hP hD hS hl) (fun q => kf q E cells slots H locs ls h1 h2 hP hD hS hl)
theorem j_if_ne {a : Int32} {off : Int} {tgt : Nat} (hd : decode cc pc = .ok (.ifCond .ne off, 3)) (ht : (pc : Int) + off = (tgt : Int)) (kt : ¬ a = 0 → J M l x cc nL y d P k n tgt lv st ws) (kf : a = 0 → J M l x cc nL y d P k n (pc + 3) lv st ws) : J M l x cc nL y d P k n pc lv (.int a :: st) ws := by
  obtain ⟨p, e, R, s, m, args, below, meth, c, A, Q, mc, ms⟩ := M
  intro E cells slots H locs ls h1 h2 hP hD hS hl
  exact lv_if_ne E.1.1 E.1.2.1 hd ht (fun q => kt q E cells slots H locs ls h1 h2 hP hD hS hl) (fun q => kf q E cells slots H locs ls h1 h2 hP hD hS hl)
theorem j_icmp_ne {a b : Int32} {off : Int} {tgt : Nat} (hd : decode cc pc = .ok (.if_icmp .ne off, 3)) (ht : (pc : Int) + off = (tgt : Int)) (kt : ¬ a = b → J M l x cc nL y d P k n tgt lv st ws) (kf : a = b → J M l x cc nL y d P k n (pc + 3) lv st ws) : J M l x cc nL y d P k n pc lv (.int b :: .int a :: st) ws := by
  obtain ⟨p, e, R, s, m, args, below, meth, c, A, Q, mc, ms⟩ := M
  intro E cells slots H locs ls h1 h2 hP hD hS hl
  exact lv_icmp_ne E.1.1 E.1.2.1 hd ht (fun q => kt q E cells slots H locs ls h1 h2 hP hD hS hl) (fun q => kf q E cells slots H locs ls h1 h2 hP hD hS hl)
theorem j_if_lt {a : Int32} {off : Int} {tgt : Nat} (hd : decode cc pc = .ok (.ifCond .lt off, 3)) (ht : (pc : Int) + off = (tgt : Int)) (kt : a < 0 → J M l x cc nL y d P k n tgt lv st ws) (kf : ¬ a < 0 → J M l x cc nL y d P k n (pc + 3) lv st ws) : J M l x cc nL y d P k n pc lv (.int a :: st) ws := by
  obtain ⟨p, e, R, s, m, args, below, meth, c, A, Q, mc, ms⟩ := M
  intro E cells slots H locs ls h1 h2 hP hD hS hl
  exact lv_if_lt E.1.1 E.1.2.1 hd ht (fun q => kt q E cells slots H locs ls h1 h2 hP hD hS hl) (fun q => kf q E cells slots H locs ls h1 h2 hP hD hS hl)
theorem j_icmp_lt {a b : Int32} {off : Int} {tgt : Nat} (hd : decode cc pc = .ok (.if_icmp .lt off, 3)) (ht : (pc : Int) + off = (tgt : Int)) (kt : a < b → J M l x cc nL y d P k n tgt lv st ws) (kf : ¬ a < b → J M l x cc nL y d P k n (pc + 3) lv st ws) : J M l x cc nL y d P k n pc lv (.int b :: .int a :: st) ws := by
  obtain ⟨p, e, R, s, m, args, below, meth, c, A, Q, mc, ms⟩ := M
  intro E cells slots H locs ls h1 h2 hP hD hS hl
  exact lv_icmp_lt E.1.1 E.1.2.1 hd ht (fun q => kt q E cells slots H locs ls h1 h2 hP hD hS hl) (fun q => kf q E cells slots H locs ls h1 h2 hP hD hS hl)
theorem j_if_ge {a : Int32} {off : Int} {tgt : Nat} (hd : decode cc pc = .ok (.ifCond .ge off, 3)) (ht : (pc : Int) + off = (tgt : Int)) (kt : 0 ≤ a → J M l x cc nL y d P k n tgt lv st ws) (kf : ¬ 0 ≤ a → J M l x cc nL y d P k n (pc + 3) lv st ws) : J M l x cc nL y d P k n pc lv (.int a :: st) ws := by
  obtain ⟨p, e, R, s, m, args, below, meth, c, A, Q, mc, ms⟩ := M
  intro E cells slots H locs ls h1 h2 hP hD hS hl
  exact lv_if_ge E.1.1 E.1.2.1 hd ht (fun q => kt q E cells slots H locs ls h1 h2 hP hD hS hl) (fun q => kf q E cells slots H locs ls h1 h2 hP hD hS hl)
theorem j_icmp_ge {a b : Int32} {off : Int} {tgt : Nat} (hd : decode cc pc = .ok (.if_icmp .ge off, 3)) (ht : (pc : Int) + off = (tgt : Int)) (kt : b ≤ a → J M l x cc nL y d P k n tgt lv st ws) (kf : ¬ b ≤ a → J M l x cc nL y d P k n (pc + 3) lv st ws) : J M l x cc nL y d P k n pc lv (.int b :: .int a :: st) ws := by
  obtain ⟨p, e, R, s, m, args, below, meth, c, A, Q, mc, ms⟩ := M
  intro E cells slots H locs ls h1 h2 hP hD hS hl
  exact lv_icmp_ge E.1.1 E.1.2.1 hd ht (fun q => kt q E cells slots H locs ls h1 h2 hP hD hS hl) (fun q => kf q E cells slots H locs ls h1 h2 hP hD hS hl)
theorem j_if_gt {a : Int32} {off : Int} {tgt : Nat} (hd : decode cc pc = .ok (.ifCond .gt off, 3)) (ht : (pc : Int) + off = (tgt : Int)) (kt : 0 < a → J M l x cc nL y d P k n tgt lv st ws) (kf : ¬ 0 < a → J M l x cc nL y d P k n (pc + 3) lv st ws) : J M l x cc nL y d P k n pc lv (.int a :: st) ws := by
  obtain ⟨p, e, R, s, m, args, below, meth, c, A, Q, mc, ms⟩ := M
  intro E cells slots H locs ls h1 h2 hP hD hS hl
  exact lv_if_gt E.1.1 E.1.2.1 hd ht (fun q => kt q E cells slots H locs ls h1 h2 hP hD hS hl) (fun q => kf q E cells slots H locs ls h1 h2 hP hD hS hl)
theorem j_icmp_gt {a b : Int32} {off : Int} {tgt : Nat} (hd : decode cc pc = .ok (.if_icmp .gt off, 3)) (ht : (pc : Int) + off = (tgt : Int)) (kt : b < a → J M l x cc nL y d P k n tgt lv st ws) (kf : ¬ b < a → J M l x cc nL y d P k n (pc + 3) lv st ws) : J M l x cc nL y d P k n pc lv (.int b :: .int a :: st) ws := by
  obtain ⟨p, e, R, s, m, args, below, meth, c, A, Q, mc, ms⟩ := M
  intro E cells slots H locs ls h1 h2 hP hD hS hl
  exact lv_icmp_gt E.1.1 E.1.2.1 hd ht (fun q => kt q E cells slots H locs ls h1 h2 hP hD hS hl) (fun q => kf q E cells slots H locs ls h1 h2 hP hD hS hl)
theorem j_if_le {a : Int32} {off : Int} {tgt : Nat} (hd : decode cc pc = .ok (.ifCond .le off, 3)) (ht : (pc : Int) + off = (tgt : Int)) (kt : a ≤ 0 → J M l x cc nL y d P k n tgt lv st ws) (kf : ¬ a ≤ 0 → J M l x cc nL y d P k n (pc + 3) lv st ws) : J M l x cc nL y d P k n pc lv (.int a :: st) ws := by
  obtain ⟨p, e, R, s, m, args, below, meth, c, A, Q, mc, ms⟩ := M
  intro E cells slots H locs ls h1 h2 hP hD hS hl
  exact lv_if_le E.1.1 E.1.2.1 hd ht (fun q => kt q E cells slots H locs ls h1 h2 hP hD hS hl) (fun q => kf q E cells slots H locs ls h1 h2 hP hD hS hl)
theorem j_icmp_le {a b : Int32} {off : Int} {tgt : Nat} (hd : decode cc pc = .ok (.if_icmp .le off, 3)) (ht : (pc : Int) + off = (tgt : Int)) (kt : a ≤ b → J M l x cc nL y d P k n tgt lv st ws) (kf : ¬ a ≤ b → J M l x cc nL y d P k n (pc + 3) lv st ws) : J M l x cc nL y d P k n pc lv (.int b :: .int a :: st) ws := by
  obtain ⟨p, e, R, s, m, args, below, meth, c, A, Q, mc, ms⟩ := M
  intro E cells slots H locs ls h1 h2 hP hD hS hl
  exact lv_icmp_le E.1.1 E.1.2.1 hd ht (fun q => kt q E cells slots H locs ls h1 h2 hP hD hS hl) (fun q => kf q E cells slots H locs ls h1 h2 hP hD hS hl)
theorem j_lcmp {a b : Int64} (hd : decode cc pc = .ok (.lcmp, 1)) (kk : J M l x cc nL y d P k n (pc + 1) lv (.int (lg_cmp a b) :: st) ws) : J M l x cc nL y d P k n pc lv (.long b :: .long a :: st) ws := by
  obtain ⟨p, e, R, s, m, args, below, meth, c, A, Q, mc, ms⟩ := M
  intro E cells slots H locs ls h1 h2 hP hD hS hl
  exact W.lcmp E.1.1 E.1.2.1 hd (kk E cells slots H locs ls h1 h2 hP hD hS hl)
theorem j_tabOut {dflt lo hi : Int} {offs : Array Int} {len : Nat} {a : Int32} {tgt : Nat} (hd : decode cc pc = .ok (.tableswitch dflt lo hi offs, len)) (h : a.toInt < lo ∨ hi < a.toInt) (ht : (pc : Int) + dflt = (tgt : Int)) (kk : J M l x cc nL y d P k n tgt lv st ws) : J M l x cc nL y d P k n pc lv (.int a :: st) ws := by
  obtain ⟨p, e, R, s, m, args, below, meth, c, A, Q, mc, ms⟩ := M
  intro E cells slots H locs ls h1 h2 hP hD hS hl
  exact lv_tableOut E.1.1 E.1.2.1 hd h ht (kk E cells slots H locs ls h1 h2 hP hD hS hl)
theorem j_tabIn {dflt lo hi : Int} {offs : Array Int} {len : Nat} {a : Int32} {off : Int} {tgt : Nat} (hd : decode cc pc = .ok (.tableswitch dflt lo hi offs, len)) (g1 : ¬ a.toInt < lo) (g2 : ¬ hi < a.toInt) (ho : offs[(a.toInt - lo).toNat]? = some off) (ht : (pc : Int) + off = (tgt : Int)) (kk : J M l x cc nL y d P k n tgt lv st ws) : J M l x cc nL y d P k n pc lv (.int a :: st) ws := by
  obtain ⟨p, e, R, s, m, args, below, meth, c, A, Q, mc, ms⟩ := M
  intro E cells slots H locs ls h1 h2 hP hD hS hl
  exact lv_tableIn E.1.1 E.1.2.1 hd g1 g2 ho ht (kk E cells slots H locs ls h1 h2 hP hD hS hl)
theorem j_lookup {dflt : Int} {ps : Array (Int × Int)} {len : Nat} {a : Int32} {off : Int} {tgt : Nat} (hd : decode cc pc = .ok (.lookupswitch dflt ps, len)) (hp : (ps.toList.zip (ps.toList.drop 1)).all (fun (a, next) => a.1 < next.1) = true) (ho : Op.lookupswitch.offset ps.toList dflt a.toInt = off) (ht : (pc : Int) + off = (tgt : Int)) (kk : J M l x cc nL y d P k n tgt lv st ws) : J M l x cc nL y d P k n pc lv (.int a :: st) ws := by
  obtain ⟨p, e, R, s, m, args, below, meth, c, A, Q, mc, ms⟩ := M
  intro E cells slots H locs ls h1 h2 hP hD hS hl
  exact lv_lookup E.1.1 E.1.2.1 hd hp ho ht (kk E cells slots H locs ls h1 h2 hP hD hS hl)
end
end
section
/-! words of the tables that many rules need -/
theorem mmax_s : Cond.static Lib.Math.max.name ∈ gw := gw_in (by decide +kernel) (by decide +kernel)
theorem mmin_s : Cond.static Lib.Math.min.name ∈ gw := gw_in (by decide +kernel) (by decide +kernel)
theorem math_i : Cond.initialized "java/lang/Math" ∈ gw := gw_in (by decide +kernel) (by decide +kernel)
theorem mmax_c : Cond.code Lib.Math.max.name Lib.Math.max.code 2 (some .int) ∈ gw := gw_in (by decide +kernel) (by decide +kernel)
theorem mmin_c : Cond.code Lib.Math.min.name Lib.Math.min.code 2 (some .int) ∈ gw := gw_in (by decide +kernel) (by decide +kernel)
theorem obj_n : Cond.instanceMethod objectInit ∈ gw := gw_in (by decide +kernel) (by decide +kernel)
theorem obj_c : Cond.code objectInit ⟨#[0xb1]⟩ 1 none ∈ gw := gw_in (by decide +kernel) (by decide +kernel)
section
variable {M : Mx} {l : Launch} {x : Cx} {cc : ByteArray} {nL : Nat} {y : MethodName} {d : Nat} {P : Option Value → va_W → Prop} {k n pc : Nat} {lv : List (Nat × Value)} {st : List Value} {ws : va_W}
/-- what a field access of a class needs of the tables -/
def FOK (own : String) (idx ci kf : Nat) (ty : FieldType) (fin : Bool) : Prop := ∃ (C : String) (T : u_T) (N : Nat) (ty0 : Nat → FieldType), vwCl[ci]? = some (C, T, N) ∧ kf < N ∧ (∀ w ∈ u_ws C T N, w ∈ gw) ∧ Cond.fieldLink own idx own (T kf).2.1 (T kf).2.2.1 ∈ gw ∧ (∀ k, k < N → parseFieldDescriptor (T k).2.2.1 = some (ty0 k)) ∧ (∀ a, a < N → ∀ b, b < N → a ≠ b → (T a).2.1 ≠ (T b).2.1) ∧ parseFieldDescriptor (T kf).2.2.1 = some ty ∧ (T kf).2.2.2 = fin ∧ (T kf).1 = own
theorem j_get (q0 : Nat) {a idx ci kf : Nat} {ty : FieldType} {fin : Bool} {fs : List Value} {v : Value} (hd : decode cc pc = .ok (.getfield idx, 3)) (hF : FOK y.cls idx ci kf ty fin) (he : ws[q0]? = some (a, .inr (ci, fs))) (hv : fs[kf]? = some v) (kk : J M l x cc nL y d P k n (pc + 3) lv (v :: st) ws) : J M l x cc nL y d P k n pc lv (.ref a :: st) ws := by
  obtain ⟨p, e, R, s, m, args, below, meth, c, A, Q, mc, ms⟩ := M
  intro E cells slots H locs ls h1 h2 hP hD hS hl
  obtain ⟨C, T, N, ty0, f1, f2, f3, f4, f5, f6, f7, f8, f9⟩ := hF
  exact va_get E.1.1 E.1.2.1 E.1.2.2.2.2.2.1 f3 E.1.2.2.2.1 E.1.2.2.2.2.2.2.1.1 hP q0 he f1 kf f2 (E.1.2.2.2.2.2.1 _ f4) (fun z h => by rw [f9] at h; exact h) hv hd (kk E cells slots H locs ls h1 h2 hP hD hS hl)
theorem j_put (q0 : Nat) {a idx ci kf : Nat} {ty : FieldType} {fs : List Value} {v : Value} {ws' : va_W} (hd : decode cc pc = .ok (.putfield idx, 3)) (hF : FOK y.cls idx ci kf ty false) (he : ws[q0]? = some (a, .inr (ci, fs))) (hn : narrow ty v = v) (hfit : fits ty v = true) (hl0 : kf < fs.length) (hw : ws.set q0 (a, .inr (ci, fs.set kf v)) = ws') (kk : J M l x cc nL y d P k n (pc + 3) lv st ws') : J M l x cc nL y d P k n pc lv (v :: .ref a :: st) ws := by
  obtain ⟨p, e, R, s, m, args, below, meth, c, A, Q, mc, ms⟩ := M
  intro E cells slots H locs ls h1 h2 hP hD hS hl
  obtain ⟨C, T, N, ty0, f1, f2, f3, f4, f5, f6, f7, f8, f9⟩ := hF
  subst hw
  exact va_put E.1.1 E.1.2.1 E.1.2.2.2.2.2.1 f3 ty0 f5 f6 E.1.2.2.2.1 E.1.2.2.2.2.2.2.1.1 hP hD hS q0 he f1 kf f2 (E.1.2.2.2.2.2.1 _ f4) (fun z h => by rw [f9] at h; exact h) f8 f7 hn hfit hl0 hd (fun H1 locs1 hP hD hS => kk E cells slots H1 locs1 ls h1 h2 hP hD hS hl)
theorem j_putF (q0 : Nat) {a idx ci kf : Nat} {ty : FieldType} {fs : List Value} {v : Value} {ws' : va_W} (hd : decode cc pc = .ok (.putfield idx, 3)) (hF : FOK y.cls idx ci kf ty true) (hy : y.name = "<init>") (he : ws[q0]? = some (a, .inr (ci, fs))) (hn : narrow ty v = v) (hfit : fits ty v = true) (hl0 : kf < fs.length) (hw : ws.set q0 (a, .inr (ci, fs.set kf v)) = ws') (kk : J M l x cc nL y d P k n (pc + 3) lv st ws') : J M l x cc nL y d P k n pc lv (v :: .ref a :: st) ws := by
  obtain ⟨p, e, R, s, m, args, below, meth, c, A, Q, mc, ms⟩ := M
  intro E cells slots H locs ls h1 h2 hP hD hS hl
  obtain ⟨C, T, N, ty0, f1, f2, f3, f4, f5, f6, f7, f8, f9⟩ := hF
  subst hw
  exact va_putF E.1.1 E.1.2.1 E.1.2.2.2.2.2.1 f3 ty0 f5 f6 E.1.2.2.2.1 E.1.2.2.2.2.2.2.1.1 hP hD hS q0 he f1 kf f2 (E.1.2.2.2.2.2.1 _ f4) (fun z h => by rw [f9] at h; exact h) f8 (E.1.2.2.2.2.1.trans hy) f9 f7 hn hfit hl0 hd (fun H1 locs1 hP hD hS => kk E cells slots H1 locs1 ls h1 h2 hP hD hS hl)
theorem j_iald (q0 : Nat) {a N : Nat} {f : Nat → Int32} {i : Int32} (hd : decode cc pc = .ok (.iaload, 1)) (ha : ws[q0]? = some (a, .inl (x.2.1, N, .inl f))) (hin : vp_in i N) (kk : J M l x cc nL y d P k n (pc + 1) lv (.int (f i.toNatClampNeg) :: st) ws) : J M l x cc nL y d P k n pc lv (.int i :: .ref a :: st) ws := by
  obtain ⟨p, e, R, s, m, args, below, meth, c, A, Q, mc, ms⟩ := M
  intro E cells slots H locs ls h1 h2 hP hD hS hl
  exact va_iald E.1.1 E.1.2.1 E.1.2.2.2.2.2.2.1.1 hP q0 0 ha rfl hin hd (kk E cells slots H locs ls h1 h2 hP hD hS hl)
theorem j_zald (q0 : Nat) {a N : Nat} {f : Nat → Int32} {i : Int32} (hd : decode cc pc = .ok (.baload, 1)) (ha : ws[q0]? = some (a, .inl (x.2.2.1, N, .inl f))) (hin : vp_in i N) (kk : J M l x cc nL y d P k n (pc + 1) lv (.int (f i.toNatClampNeg) :: st) ws) : J M l x cc nL y d P k n pc lv (.int i :: .ref a :: st) ws := by
  obtain ⟨p, e, R, s, m, args, below, meth, c, A, Q, mc, ms⟩ := M
  intro E cells slots H locs ls h1 h2 hP hD hS hl
  exact va_zald E.1.1 E.1.2.1 E.1.2.2.2.2.2.2.1.1 hP q0 1 ha rfl hin hd (kk E cells slots H locs ls h1 h2 hP hD hS hl)
theorem j_bald (q0 : Nat) {a N : Nat} {f : Nat → Int32} {i : Int32} (hd : decode cc pc = .ok (.baload, 1)) (ha : ws[q0]? = some (a, .inl (x.2.2.2.1, N, .inl f))) (hin : vp_in i N) (kk : J M l x cc nL y d P k n (pc + 1) lv (.int (f i.toNatClampNeg) :: st) ws) : J M l x cc nL y d P k n pc lv (.int i :: .ref a :: st) ws := by
  obtain ⟨p, e, R, s, m, args, below, meth, c, A, Q, mc, ms⟩ := M
  intro E cells slots H locs ls h1 h2 hP hD hS hl
  exact va_bald E.1.1 E.1.2.1 E.1.2.2.2.2.2.2.1.1 hP q0 2 ha rfl hin hd (kk E cells slots H locs ls h1 h2 hP hD hS hl)
theorem j_iast (q0 : Nat) {a N : Nat} {f : Nat → Int32} {i v : Int32} {ws' : va_W} (hd : decode cc pc = .ok (.iastore, 1)) (ha : ws[q0]? = some (a, .inl (x.2.1, N, .inl f))) (hin : vp_in i N) (hw : ws.set q0 (a, .inl (x.2.1, N, .inl (upd f i.toNatClampNeg v))) = ws') (kk : J M l x cc nL y d P k n (pc + 1) lv st ws') : J M l x cc nL y d P k n pc lv (.int v :: .int i :: .ref a :: st) ws := by
  obtain ⟨p, e, R, s, m, args, below, meth, c, A, Q, mc, ms⟩ := M
  intro E cells slots H locs ls h1 h2 hP hD hS hl
  subst hw
  exact va_iast E.1.1 E.1.2.1 E.1.2.2.2.2.2.2.1.1 hP hD hS q0 0 ha rfl hin hd (fun H1 locs1 hP hD hS => kk E cells slots H1 locs1 ls h1 h2 hP hD hS hl)
theorem j_zast (q0 : Nat) {a N : Nat} {f : Nat → Int32} {i v : Int32} {ws' : va_W} (hd : decode cc pc = .ok (.bastore, 1)) (ha : ws[q0]? = some (a, .inl (x.2.2.1, N, .inl f))) (hin : vp_in i N) (hw : ws.set q0 (a, .inl (x.2.2.1, N, .inl (upd f i.toNatClampNeg (vp_nar .boolean v)))) = ws') (kk : J M l x cc nL y d P k n (pc + 1) lv st ws') : J M l x cc nL y d P k n pc lv (.int v :: .int i :: .ref a :: st) ws := by
  obtain ⟨p, e, R, s, m, args, below, meth, c, A, Q, mc, ms⟩ := M
  intro E cells slots H locs ls h1 h2 hP hD hS hl
  subst hw
  exact va_zast E.1.1 E.1.2.1 E.1.2.2.2.2.2.2.1.1 hP hD hS q0 1 ha rfl hin hd (fun H1 locs1 hP hD hS => kk E cells slots H1 locs1 ls h1 h2 hP hD hS hl)
theorem j_bast (q0 : Nat) {a N : Nat} {f : Nat → Int32} {i v : Int32} {ws' : va_W} (hd : decode cc pc = .ok (.bastore, 1)) (ha : ws[q0]? = some (a, .inl (x.2.2.2.1, N, .inl f))) (hin : vp_in i N) (hw : ws.set q0 (a, .inl (x.2.2.2.1, N, .inl (upd f i.toNatClampNeg (vp_nar .byte v)))) = ws') (kk : J M l x cc nL y d P k n (pc + 1) lv st ws') : J M l x cc nL y d P k n pc lv (.int v :: .int i :: .ref a :: st) ws := by
  obtain ⟨p, e, R, s, m, args, below, meth, c, A, Q, mc, ms⟩ := M
  intro E cells slots H locs ls h1 h2 hP hD hS hl
  subst hw
  exact va_bast E.1.1 E.1.2.1 E.1.2.2.2.2.2.2.1.1 hP hD hS q0 2 ha rfl hin hd (fun H1 locs1 hP hD hS => kk E cells slots H1 locs1 ls h1 h2 hP hD hS hl)
theorem j_alen (q0 t0 : Nat) {a : Nat} {cA : ClassId} {z : vp_A} {ty : FieldType} {v : Int32} (hd : decode cc pc = .ok (.arraylength, 1)) (ha : ws[q0]? = some (a, .inl (cA, z))) (ht : (cxT x)[t0]? = some (cA, ty)) (hv : Int32.ofNat z.1 = v) (kk : J M l x cc nL y d P k n (pc + 1) lv (.int v :: st) ws) : J M l x cc nL y d P k n pc lv (.ref a :: st) ws := by
  obtain ⟨p, e, R, s, m, args, below, meth, c, A, Q, mc, ms⟩ := M
  intro E cells slots H locs ls h1 h2 hP hD hS hl
  exact va_alen E.1.1 E.1.2.1 E.1.2.2.2.2.2.2.1.1 hP q0 t0 ha ht hv hd (kk E cells slots H locs ls h1 h2 hP hD hS hl)
theorem j_aald (q0 : Nat) {a N b : Nat} {f : Nat → Option Nat} {i : Int32} (hd : decode cc pc = .ok (.aaload, 1)) (ha : ws[q0]? = some (a, .inl (x.2.2.2.2.1, N, .inr (.inr (.inr (.inr f)))))) (hin : vp_in i N) (hb : f i.toNatClampNeg = some b) (kk : J M l x cc nL y d P k n (pc + 1) lv (.ref b :: st) ws) : J M l x cc nL y d P k n pc lv (.int i :: .ref a :: st) ws := by
  obtain ⟨p, e, R, s, m, args, below, meth, c, A, Q, mc, ms⟩ := M
  intro E cells slots H locs ls h1 h2 hP hD hS hl
  exact va_aldq E.1.1 E.1.2.1 E.1.2.2.2.2.2.2.1.1 hP q0 3 ha rfl hin hd (by rw [hb]; exact (kk E cells slots H locs ls h1 h2 hP hD hS hl))
theorem j_mald (q0 : Nat) {a N b : Nat} {f : Nat → Option Nat} {i : Int32} (hd : decode cc pc = .ok (.aaload, 1)) (ha : ws[q0]? = some (a, .inl (x.2.2.2.2.2, N, .inr (.inr (.inr (.inr f)))))) (hin : vp_in i N) (hb : f i.toNatClampNeg = some b) (kk : J M l x cc nL y d P k n (pc + 1) lv (.ref b :: st) ws) : J M l x cc nL y d P k n pc lv (.int i :: .ref a :: st) ws := by
  obtain ⟨p, e, R, s, m, args, below, meth, c, A, Q, mc, ms⟩ := M
  intro E cells slots H locs ls h1 h2 hP hD hS hl
  have hlt : i.toNatClampNeg < N := Nat.not_le.mp fun q => hin (Or.inr q)
  refine W.aald (v := .ref b) (ty := .array .int) E.1.1 E.1.2.1 (hP q0 _ ha) ((E.1.2.2.2.2.2.2.1.1.2 4 _ rfl).1 N (fun j => va_rf (f j))) rfl (fun q => by cases q) (by show ¬ (i < 0 ∨ (arrV _ _ _).slots.size ≤ _); rw [arrV_size]; exact hin) (by show (arrV _ _ _).slots[_]? = _; rw [arrV_read _ _ hlt, hb]; rfl) rfl rfl hd (kk E cells slots H locs ls h1 h2 hP hD hS hl)
theorem j_aast (q0 q1 : Nat) {a b N : Nat} {f : Nat → Option Nat} {vs : List Value} {i : Int32} {ws' : va_W} (hd : decode cc pc = .ok (.aastore, 1)) (ha : ws[q0]? = some (a, .inl (x.2.2.2.2.1, N, .inr (.inr (.inr (.inr f)))))) (hv : ws[q1]? = some (b, .inr (2, vs))) (hin : vp_in i N) (hw : ws.set q0 (a, .inl (x.2.2.2.2.1, N, .inr (.inr (.inr (.inr (va_up f i.toNatClampNeg (some b))))))) = ws') (kk : J M l x cc nL y d P k n (pc + 1) lv st ws') : J M l x cc nL y d P k n pc lv (.ref b :: .int i :: .ref a :: st) ws := by
  obtain ⟨p, e, R, s, m, args, below, meth, c, A, Q, mc, ms⟩ := M
  intro E cells slots H locs ls h1 h2 hP hD hS hl
  subst hw
  exact va_astq E.1.1 E.1.2.1 E.1.2.2.2.2.2.2.1.1 hP hD hS q0 3 q1 2 ha rfl hv rfl hin hd (fun H1 locs1 hP hD hS => kk E cells slots H1 locs1 ls h1 h2 hP hD hS hl)
/-- Math.max, Math.min -/
theorem j_mmax {i : Nat} {a b : Int32} (hd : decode cc pc = .ok (.invokestatic i, 3)) (hl0 : Cond.methodLink y.cls i Lib.Math.max.name ∈ gw) (h0 : 1 ≤ d) (hr : (st.map fun v => v.category).sum ≤ 8) (kk : J M l x cc nL y d P k n (pc + 3) lv (.int (if a < b then b else a) :: st) ws) : J M l x cc nL y d P k n pc lv (.int b :: .int a :: st) ws := by
  obtain ⟨p, e, R, s, m, args, below, meth, c, A, Q, mc, ms⟩ := M
  intro E cells slots H locs ls h1 h2 hP hD hS hl
  obtain ⟨E1, E2, E3⟩ := id E
  exact va_mmax E1.1 E1.2.1 (E1.2.2.1.trans hl.1.symm) E1.2.2.2.1 (E1.2.2.2.2.2.1 _ hl0) (E1.2.2.2.2.2.1 _ mmax_s) (E1.2.2.2.2.2.1 _ math_i) (E1.2.2.2.2.2.1 _ mmax_c) (by omega) (by omega) (by omega) (by omega) hd (kk E cells slots H locs ls h1 h2 hP hD hS hl)
theorem j_mmin {i : Nat} {a b : Int32} (hd : decode cc pc = .ok (.invokestatic i, 3)) (hl0 : Cond.methodLink y.cls i Lib.Math.min.name ∈ gw) (h0 : 1 ≤ d) (hr : (st.map fun v => v.category).sum ≤ 8) (kk : J M l x cc nL y d P k n (pc + 3) lv (.int (if b < a then b else a) :: st) ws) : J M l x cc nL y d P k n pc lv (.int b :: .int a :: st) ws := by
  obtain ⟨p, e, R, s, m, args, below, meth, c, A, Q, mc, ms⟩ := M
  intro E cells slots H locs ls h1 h2 hP hD hS hl
  obtain ⟨E1, E2, E3⟩ := id E
  exact va_mmin E1.1 E1.2.1 (E1.2.2.1.trans hl.1.symm) E1.2.2.2.1 (E1.2.2.2.2.2.1 _ hl0) (E1.2.2.2.2.2.1 _ mmin_s) (E1.2.2.2.2.2.1 _ math_i) (E1.2.2.2.2.2.1 _ mmin_c) (by omega) (by omega) (by omega) (by omega) hd (kk E cells slots H locs ls h1 h2 hP hD hS hl)
theorem j_objInit {i a : Nat} (hd : decode cc pc = .ok (.invokespecial i, 3)) (hl0 : Cond.methodLink y.cls i objectInit ∈ gw) (h0 : 1 ≤ d) (hr : (st.map fun v => v.category).sum ≤ 8) (kk : J M l x cc nL y d P k n (pc + 3) lv st ws) : J M l x cc nL y d P k n pc lv (.ref a :: st) ws := by
  obtain ⟨p, e, R, s, m, args, below, meth, c, A, Q, mc, ms⟩ := M
  intro E cells slots H locs ls h1 h2 hP hD hS hl
  obtain ⟨E1, E2, E3⟩ := id E
  exact W.objInit E1.1 E1.2.1 E1.2.2.2.1 (E1.2.2.2.2.2.1 _ hl0) (E1.2.2.2.2.2.1 _ obj_n) (E1.2.2.2.2.2.1 _ obj_c) rfl (by rw [E1.2.2.1]; exact hl.1) rfl hd (by omega) (by show 2 * 0 + _ + 12 ≤ _; omega) (kk E cells slots H locs ls h1 h2 hP hD hS hl)
/-- returns -/
theorem j_iret {v : Int32} (ws' : va_W) (hd : decode cc pc = .ok (.ireturn, 1)) (hp : ws.Perm ws') (hv : P (some (.int v)) ws') : J M l x cc nL y d P k n pc lv [.int v] ws := by
  obtain ⟨p, e, R, s, m, args, below, meth, c, A, Q, mc, ms⟩ := M
  intro E cells slots H locs ls h1 h2 hP hD hS hl
  exact E.2.2 (some (.int v)) ws' pc H locs ls cells slots hv (Or.inl ⟨v, rfl, hd⟩) (by omega) (by omega) (hP.perm hp) (hD.perm hp) hS
theorem j_lret {v : Int64} (ws' : va_W) (hd : decode cc pc = .ok (.lreturn, 1)) (hp : ws.Perm ws') (hv : P (some (.long v)) ws') : J M l x cc nL y d P k n pc lv [.long v] ws := by
  obtain ⟨p, e, R, s, m, args, below, meth, c, A, Q, mc, ms⟩ := M
  intro E cells slots H locs ls h1 h2 hP hD hS hl
  exact E.2.2 (some (.long v)) ws' pc H locs ls cells slots hv (Or.inr (Or.inl ⟨v, rfl, hd⟩)) (by omega) (by omega) (hP.perm hp) (hD.perm hp) hS
theorem j_vret (ws' : va_W) (hd : decode cc pc = .ok (.return_, 1)) (hp : ws.Perm ws') (hv : P none ws') : J M l x cc nL y d P k n pc lv [] ws := by
  obtain ⟨p, e, R, s, m, args, below, meth, c, A, Q, mc, ms⟩ := M
  intro E cells slots H locs ls h1 h2 hP hD hS hl
  exact E.2.2 none ws' pc H locs ls cells slots hv (Or.inr (Or.inr ⟨rfl, hd⟩)) (by omega) (by omega) (hP.perm hp) (hD.perm hp) hS
/-- another order of the world, fewer locals, less room, another name for a state -/
theorem j_perm (ws' : va_W) (hp : ws.Perm ws') (kk : J M l x cc nL y d P k n pc lv st ws') : J M l x cc nL y d P k n pc lv st ws := by
  obtain ⟨p, e, R, s, m, args, below, meth, c, A, Q, mc, ms⟩ := M
  intro E cells slots H locs ls h1 h2 hP hD hS hl
  exact kk E cells slots H locs ls h1 h2 (hP.perm hp) (hD.perm hp) hS hl
theorem j_lv (is : List Nat) {lv' : List (Nat × Value)} (h : lv_pick lv is = lv') (kk : J M l x cc nL y d P k n pc lv' st ws) : J M l x cc nL y d P k n pc lv st ws := by
  obtain ⟨p, e, R, s, m, args, below, meth, c, A, Q, mc, ms⟩ := M
  intro E cells slots H locs ls h1 h2 hP hD hS hl
  exact kk E cells slots H locs ls h1 h2 hP hD hS (lv_sub hl is h)
theorem j_room {k' n' : Nat} (g1 : k' ≤ k) (g2 : n' ≤ n) (kk : J M l x cc nL y d P k' n' pc lv st ws) : J M l x cc nL y d P k n pc lv st ws := by
  obtain ⟨p, e, R, s, m, args, below, meth, c, A, Q, mc, ms⟩ := M
  intro E cells slots H locs ls h1 h2 hP hD hS hl
  exact kk E cells slots H locs ls (by omega) (by omega) hP hD hS hl
theorem j_eq {lv' : List (Nat × Value)} {st' : List Value} {ws' : va_W} (e1 : lv = lv') (e2 : st = st') (e3 : ws = ws') (kk : J M l x cc nL y d P k n pc lv' st' ws') : J M l x cc nL y d P k n pc lv st ws := by
  subst e1; subst e2; subst e3; exact kk
end
end
section
/-! contracts and calls at the judgement J -/
def jPre (x : Cx) (w : va_W) (sz : Nat) (U : State) : Prop := U.heap.size = sz ∧ va_P x.1 vwCl w U.heap ∧ cxK x U ∧ va_D (fun _ => True) w
def jRm (d mc ms : Nat) : Room := { frames := d, cells := mc, slots := ms, locals := 40 * d }
def jQ (x : Cx) (w : va_W) (sz : Nat) (Pst : Option Value → va_W → Prop) : Array Value → State → Outcome → State → Prop := fun _ st oc t => (∃ (v : Option Value) (ws : va_W), oc = .returned v ∧ Pst v ws ∧ va_P x.1 vwCl ws t.heap ∧ va_D (va_A w sz) ws) ∧ va_F (va_A w sz) st t
/-- the contract: from the world w, with the arguments av, the method returns v in a world ws with Pst v ws -/
def MC (l : Launch) (x : Cx) (d mc ms : Nat) (y : MethodName) (cc : ByteArray) (nL : Nat) (ret : Option FieldType) (av : List Value) (w : va_W) (Pst : Option Value → va_W → Prop) : Prop :=
  ∀ sz : Nat, Met l y (.code y cc nL ret :: gw) (jRm d mc ms) (va_Pc av (jPre x w sz)) (jQ x w sz Pst) mc ms (va_A w sz)
def retFit (ret : Option FieldType) (v : Option Value) : Prop := (ret = none ∧ v = none) ∨ (∃ (ty : FieldType) (i : Int32), ret = some ty ∧ v = some (.int i) ∧ narrow ty (.int i) = .int i) ∨ ∃ i : Int64, ret = some .long ∧ v = some (.long i)
theorem jPre_blind (av : List Value) (x : Cx) (w : va_W) (sz : Nat) : FrameBlind (va_Pc av (jPre x w sz)) := by
  intro a U g mk h
  obtain ⟨h0, h1, h2, h3, h4⟩ := h
  exact ⟨h0, h1, h2, cxK.same (s := U) (U := U.calling g mk a) rfl h3, h4⟩
theorem va_P.left {D : va_G} {cl : List vw_C} {a b : va_W} {H : Heap} (h : va_P D cl (a ++ b) H) : va_P D cl a H := by
  intro k q hk
  obtain ⟨i, hi⟩ := List.getElem?_of_mem (List.mem_append_left b (List.mem_of_getElem? hk))
  exact h i q hi
theorem va_P.right {D : va_G} {cl : List vw_C} {a b : va_W} {H : Heap} (h : va_P D cl (a ++ b) H) : va_P D cl b H := by
  intro k q hk
  obtain ⟨i, hi⟩ := List.getElem?_of_mem (List.mem_append_right a (List.mem_of_getElem? hk))
  exact h i q hi
theorem va_D.left {A : Nat → Prop} {a b : va_W} (h : va_D A (a ++ b)) : va_D A a := by
  rw [va_D_iff] at h ⊢
  rw [List.map_append, List.nodup_append] at h
  exact ⟨h.1.1, fun q hq => h.2 q (List.mem_append_left b hq)⟩
theorem va_D.right {A : Nat → Prop} {a b : va_W} (h : va_D A (a ++ b)) : va_D A b := by
  rw [va_D_iff] at h ⊢
  rw [List.map_append, List.nodup_append] at h
  exact ⟨h.1.2.1, fun q hq => h.2 q (List.mem_append_right a hq)⟩
theorem va_A_free {A : Nat → Prop} {a b : va_W} {H0 H : Heap} {locs : List Loc} (hD : va_D A (a ++ b)) (hS : va_S A H0 H locs) (hA : ∀ q, H0.size ≤ q → A q) : ∀ q, va_A a H.size q → A q := by
  intro q h
  rcases h with ⟨k, e, h⟩ | h
  · exact hD.left.2 k (q, e) h
  · exact hA q (Nat.le_trans hS.1 h)
theorem va_join2 {A : Nat → Prop} {D : va_G} {cl : List vw_C} {wc wr w1 : va_W} {H H1 : Heap} (hP : va_P D cl (wc ++ wr) H) (hD : va_D A (wc ++ wr)) (hk : ∀ q : Nat, q < H.size → ¬ va_A wc H.size q → H1[q]? = H[q]?) (hF : ∀ q, va_A wc H.size q → A q) (hP1 : va_P D cl w1 H1) (hD1 : va_D (va_A wc H.size) w1) : va_P D cl (w1 ++ wr) H1 ∧ va_D A (w1 ++ wr) := by
  have apart : ∀ q ∈ wr, q.1 < H.size ∧ ¬ va_A wc H.size q.1 := by
    intro q hq
    obtain ⟨i, hi⟩ := List.getElem?_of_mem hq
    have hl := (hP.right i q hi).lt
    refine ⟨hl, fun h => ?_⟩
    rcases h with ⟨k2, e, h⟩ | h
    · rw [va_D_iff, List.map_append, List.nodup_append] at hD
      exact hD.1.2.2 q.1 (List.mem_map.mpr ⟨(q.1, e), List.mem_of_getElem? h, rfl⟩) q.1 (List.mem_map.mpr ⟨q, hq, rfl⟩) rfl
    · omega
  refine ⟨va_P.app hP1 (fun k q hq => ?_), va_D.app (hD1.weaken (fun k q _ h => hF q.1 h)) hD.right (fun i j p q hp hq hxy => ?_)⟩
  · obtain ⟨g1, g2⟩ := apart q (List.mem_of_getElem? hq)
    exact (hP.right k q hq).kept (hk q.1 g1 g2)
  · exact (apart q (List.mem_of_getElem? hq)).2 (by rw [← hxy]; exact hD1.2 i p hp)
set_option maxHeartbeats 4000000 in
/-- a contract by the walk of its body -/
theorem MC.of {l : Launch} {x : Cx} {d mc ms : Nat} {y : MethodName} {cc : ByteArray} {nL : Nat} {ret : Option FieldType} {av : List Value} {w : va_W} {Pst : Option Value → va_W → Prop} (hy : plainName y.cls = true) (hn : (lg_sl av).length ≤ nL) (hret : ∀ v ws, Pst v ws → retFit ret v) (body : ∀ M : Mx, J M l x cc nL y d Pst mc ms 0 (lv_args 0 av) [] w) : MC l x d mc ms y cc nL ret av w Pst := by
  intro sz
  refine Met.ofW (cc := cc) (maxL := nL) (ret := ret) hy rfl ?_
  intro p e s m args below meth c s₁ B hml hv
  obtain ⟨rfl, hsz, hP, hK, hD0⟩ := hv
  subst hsz
  have hD := hD0.self (sz := s.heap.size)
  have hts := atoms_spec (ws := .code y cc nL ret :: gw) B.pre
  have hlocks := B.notSynchronized
  have hr := B.returns
  have hE : jEnv (p, e, (headSpec (.code y cc nL ret :: gw) (jRm d mc ms)).room, s, m, av.toArray, below, meth, c, va_A w s.heap.size, MQ below (jQ x w s.heap.size Pst) av.toArray s mc ms (va_A w s.heap.size), mc, ms) l x cc nL y d Pst := by
    refine ⟨⟨B.exec, B.bytes, hml, findClass_of_methodNamed B.named, (name_of_methodNamed B.named B.method).1, fun w h => hts w (List.mem_cons_of_mem _ h), hK, fun q h => Or.inr h⟩, ⟨Nat.le_refl _, Nat.le_refl _, Nat.le_refl _, Nat.le_refl _⟩, ?_⟩
    intro v ws pc H locs ls cells slots hPst hR hc1 hc2 hP hD hS
    have post : ∀ (t : State), t.heap = H → jQ x w s.heap.size Pst av.toArray s (.returned v) t := fun t ht => ⟨⟨v, ws, rfl, hPst, by rw [ht]; exact hP, hD⟩, hS.F ht⟩
    refine W.widen (k := mc) (n := ms) hc1 hc2 ?_
    rcases hR with ⟨i, rfl, hd⟩ | ⟨i, rfl, hd⟩ | ⟨rfl, hd⟩
    · rcases hret _ _ hPst with ⟨h1, h2⟩ | ⟨ty, j, h1, h2, h3⟩ | ⟨j, h1, h2⟩
      · cases h2
      · cases h2
        exact W.zret B.exec B.bytes (hr.trans h1) h3 (fun t ht _ => post t ht) hS.2.2 hd
      · cases h2
    · rcases hret _ _ hPst with ⟨h1, h2⟩ | ⟨ty, j, h1, h2, h3⟩ | ⟨j, h1, h2⟩
      · cases h2
      · cases h2
      · exact W.lret B.exec B.bytes (hr.trans h1) (fun t ht _ => post t ht) hS.2.2 hd
    · rcases hret _ _ hPst with ⟨h1, h2⟩ | ⟨ty, j, h1, h2, h3⟩ | ⟨j, h1, h2⟩
      · exact W.vret B.exec B.bytes (hr.trans h1) (fun t ht _ => post t ht) hS.2.2 hd
      · cases h2
      · cases h2
  have hl := lv_entry av (n := nL) hn
  rw [lg_entry_eq]
  have hb := body (p, e, (headSpec (.code y cc nL ret :: gw) (jRm d mc ms)).room, s, m, av.toArray, below, meth, c, va_A w s.heap.size, MQ below (jQ x w s.heap.size Pst) av.toArray s mc ms (va_A w s.heap.size), mc, ms) hE
  exact hb 0 0 s.heap [] _ (Nat.le_of_eq (Nat.zero_add mc)) (Nat.le_of_eq (Nat.zero_add ms)) hP hD va_S.rf hl
section
variable {p : Program} {l : Launch} {e : Env} {R : Room} {s : State} {m : MethodId} {args : Array Value} {below : List Frame} {meth : Method} {c : Code} {A : Nat → Prop} {Q : State → Prop}
theorem jn_core {x : Cx} {wc wr : va_W} {Pst : Option Value → va_W → Prop} {a : Array Value} {H : Heap} {locs : List Loc} {cells slots mc' ms' pc : Nat} {ls : Array Slot} {st rest : List Value} (hr : va_Run p l e R s m args below meth c H locs cells slots mc' ms' (F0 m pc ls st) rest (jQ x wc H.size Pst a) (va_A wc H.size)) (hP : va_P x.1 vwCl (wc ++ wr) H) (hD : va_D A (wc ++ wr)) (hS : va_S A s.heap H locs) (hA : ∀ q, s.heap.size ≤ q → A q) (kk : ∀ (v : Option Value) (w1 : va_W) (H1 : Heap) (locs1 : List Loc), Pst v w1 → va_P x.1 vwCl (w1 ++ wr) H1 → va_D A (w1 ++ wr) → va_S A s.heap H1 locs1 → W p l e R s m args below meth c H1 locs1 (cells + mc') (slots + ms') Q (F0 m (pc + 3) ls (v.toList ++ rest))) : W p l e R s m args below meth c H locs cells slots Q (F0 m pc ls st) := by
  have hF := va_A_free hD hS hA
  intro T hT X
  obtain ⟨v, st₀, t, T', L, h0, X', hL, e1, e2, ⟨⟨v', ws1, hv, hp, hP1, hD1⟩, hz, hk⟩, go⟩ := hr T hT X
  cases hv
  rw [h0] at hz hk
  rw [← e1] at hP1 hz hk
  obtain ⟨hP2, hD2⟩ := va_join2 hP hD hk hF hP1 hD1
  obtain ⟨t2, a1, b1⟩ := kk v ws1 T'.heap (locs ++ L) hp hP2 hD2
    ⟨Nat.le_trans hS.1 hz, fun q h1 h2 => by rw [hk q (Nat.lt_of_lt_of_le h1 hS.1) (fun z => h2 (hF q z))]; exact hS.2.1 q h1 h2, fun q hq => by
      rcases List.mem_append.mp hq with h | h
      · exact hS.2.2 q h
      · exact hF _ (hL q h)⟩ T' rfl X'
  exact ⟨t2, go t2 a1, b1⟩
end
section
variable {M : Mx} {l : Launch} {x : Cx} {cc : ByteArray} {nL : Nat} {y : MethodName} {d : Nat} {P : Option Value → va_W → Prop} {k n pc : Nat} {lv : List (Nat × Value)} {st : List Value} {ws : va_W}
def COK (y' : MethodName) (cc' : ByteArray) (nL' : Nat) (ret' : Option FieldType) (na : Nat) : Prop := Cond.code y' cc' nL' ret' ∈ gw ∧ Cond.initialized y'.cls ∈ gw ∧ (y'.cls ≠ "java/lang/invoke/MethodHandle" ∧ y'.cls ≠ "java/lang/invoke/VarHandle") ∧ (parseMethodDescriptor y'.desc).map (fun d => d.parameters.length) = some na ∧ nL' ≤ 21
/-- what a virtual call needs of the tables -/
def VOK (own : String) (idx : Nat) (y' : MethodName) : Prop := Cond.methodLink own idx y' ∈ gw ∧ Cond.instanceMethod y' ∈ gw ∧ Cond.selects y'.cls y' y' ∈ gw
theorem gw_sub {c : Cond} (h : c ∈ gw) : ∀ w ∈ (c :: gw), w ∈ gw := fun w hw => by
  rcases List.mem_cons.mp hw with rfl | hw
  · exact h
  · exact hw
set_option maxHeartbeats 4000000 in
theorem j_callV {wc wr : va_W} {Pst : Option Value → va_W → Prop} {d' mc' ms' k2 n2 idx b nL' na : Nat} {y' : MethodName} {cc' : ByteArray} {ret' : Option FieldType} {As rest : List Value} (hM : MC l x d' mc' ms' y' cc' nL' ret' (.ref b :: As) wc Pst) (hC : COK y' cc' nL' ret' na) (hV : VOK y.cls idx y') (q0 : Nat) {ci : Nat} {fs : List Value} {r : vw_C} (he : wc[q0]? = some (b, .inr (ci, fs))) (hc : vwCl[ci]? = some r) (hcl : r.1 = y'.cls) (hd : decode cc pc = .ok (.invokevirtual idx, 3)) (h0 : d' + 1 ≤ d) (hk : mc' + k2 ≤ k) (hn : ms' + n2 ≤ n) (ha : As.length = na) (hst : st = As.reverse ++ .ref b :: rest) (hr : (rest.map fun v => v.category).sum ≤ 8) (hp : ws.Perm (wc ++ wr)) (kk : ∀ v w1, Pst v w1 → J M l x cc nL y d P k2 n2 (pc + 3) lv (v.toList ++ rest) (w1 ++ wr)) : J M l x cc nL y d P k n pc lv st ws := by
  obtain ⟨p, e, R, s, m, args, below, meth, c, A, Q, mc, ms⟩ := M
  intro E cells slots H locs ls h1 h2 hP hD hS hl
  obtain ⟨E1, E2, E3⟩ := id E
  obtain ⟨C1, C2, C3, C4, C5⟩ := hC
  obtain ⟨V1, V2, V3⟩ := hV
  have hts := E1.2.2.2.2.2.1
  have hP' := hP.perm hp
  have hD' := hD.perm hp
  have cw : CallW R s args y.cls y'.cls idx y' cc' nL' ret' (.code y' cc' nL' ret' :: gw) (jRm d' mc' ms') mc' ms' na := cwV na hts (fun w hw => gw_good w (by
    rcases List.mem_append.mp hw with h | h
    · simp only [List.mem_cons, List.not_mem_nil, or_false] at h
      rcases h with rfl | rfl | rfl | rfl
      · exact V1
      · exact V2
      · exact V3
      · exact C2
    · exact gw_sub C1 w h)) rfl rfl rfl ⟨rfl, C3.1, C3.2, C4⟩ ⟨by show d' + 1 ≤ _; omega, by show 8 + (nL' + 11) + 40 * d' ≤ _; omega⟩
  have hrecv := va_recv E1.2.2.2.2.2.2.1.1 hP'.left hc he
  rw [hcl] at hrecv
  refine jn_core (wc := wc) (wr := wr) (va_runV (As := As) (rest := rest) (b := b) ⟨E1.1, E1.2.1, E1.2.2.1, E1.2.2.2.1, hts⟩ (hM H.size) cw ⟨jPre_blind _ _ _ _, hrecv, fun U hU hW => ⟨rfl, by rw [hU], by rw [hU]; exact hP'.left, E1.2.2.2.2.2.2.1.warm hW, hD'.left.weaken (fun _ _ _ _ => trivial)⟩⟩ rfl ha hl.1 hst (lv_room hr) hd ⟨by omega, by omega⟩) hP' hD' hS E1.2.2.2.2.2.2.2 (fun v w1 H1 locs1 hv hP hD hS => ?_)
  exact kk v w1 hv E (cells + mc') (slots + ms') H1 locs1 ls (by omega) (by omega) hP hD hS hl
def SOK (own : String) (idx : Nat) (y' : MethodName) : Prop := Cond.methodLink own idx y' ∈ gw ∧ Cond.static y' ∈ gw ∧ y'.cls = own
set_option maxHeartbeats 4000000 in
theorem j_callS {wc wr : va_W} {Pst : Option Value → va_W → Prop} {d' mc' ms' k2 n2 idx nL' na : Nat} {y' : MethodName} {cc' : ByteArray} {ret' : Option FieldType} {As rest : List Value} (hM : MC l x d' mc' ms' y' cc' nL' ret' As wc Pst) (hC : COK y' cc' nL' ret' na) (hV : SOK y.cls idx y') (hd : decode cc pc = .ok (.invokestatic idx, 3)) (h0 : d' + 1 ≤ d) (hk : mc' + k2 ≤ k) (hn : ms' + n2 ≤ n) (ha : As.length = na) (hst : st = As.reverse ++ rest) (hr : (rest.map fun v => v.category).sum ≤ 8) (hp : ws.Perm (wc ++ wr)) (kk : ∀ v w1, Pst v w1 → J M l x cc nL y d P k2 n2 (pc + 3) lv (v.toList ++ rest) (w1 ++ wr)) : J M l x cc nL y d P k n pc lv st ws := by
  obtain ⟨p, e, R, s, m, args, below, meth, c, A, Q, mc, ms⟩ := M
  intro E cells slots H locs ls h1 h2 hP hD hS hl
  obtain ⟨E1, E2, E3⟩ := id E
  obtain ⟨C1, C2, C3, C4, C5⟩ := hC
  obtain ⟨V1, V2, V3⟩ := hV
  have hts := E1.2.2.2.2.2.1
  have hP' := hP.perm hp
  have hD' := hD.perm hp
  have cw := cwS (R := R) (s := s) (args := args) (own := y.cls) (index := idx) (y := y') (bytes := cc') (maxL := nL') (ret := ret') (ws := .code y' cc' nL' ret' :: gw) (rm := jRm d' mc' ms') (mc := mc') (ms := ms') na hts (fun w hw => gw_good w (by
    rcases List.mem_append.mp hw with h | h
    · simp only [List.mem_cons, List.not_mem_nil, or_false] at h
      rcases h with rfl | rfl | rfl
      · exact V1
      · exact V2
      · rw [← V3]; exact C2
    · exact gw_sub C1 w h)) rfl rfl rfl ⟨V3, C3.1, C3.2, C4⟩ ⟨by show d' + 1 ≤ _; omega, by show 8 + (nL' + 11) + 40 * d' ≤ _; omega⟩
  refine jn_core (wc := wc) (wr := wr) (va_runS (As := As) (rest := rest) ⟨E1.1, E1.2.1, E1.2.2.1, E1.2.2.2.1, hts⟩ (hM H.size) cw ⟨jPre_blind _ _ _ _, fun U hU hW => ⟨rfl, by rw [hU], by rw [hU]; exact hP'.left, E1.2.2.2.2.2.2.1.warm hW, hD'.left.weaken (fun _ _ _ _ => trivial)⟩⟩ rfl ha hl.1 hst (lv_room hr) hd ⟨by omega, by omega⟩) hP' hD' hS E1.2.2.2.2.2.2.2 (fun v w1 H1 locs1 hv hP hD hS => ?_)
  exact kk v w1 hv E (cells + mc') (slots + ms') H1 locs1 ls (by omega) (by omega) hP hD hS hl
/-- a static method of the nest's host, called from a class inside -/
def NOK (own : String) (idx : Nat) (y' : MethodName) (host : String) : Prop := (∀ (x : Cx) (s : State), cxK x s → va_Nw (.methodLinkNest own idx y' host) s) ∧ Cond.static y' ∈ gw
set_option maxHeartbeats 4000000 in
theorem j_callN {wc wr : va_W} {Pst : Option Value → va_W → Prop} {d' mc' ms' k2 n2 idx nL' na : Nat} {y' : MethodName} {host : String} {cc' : ByteArray} {ret' : Option FieldType} {As rest : List Value} (hM : MC l x d' mc' ms' y' cc' nL' ret' As wc Pst) (hC : COK y' cc' nL' ret' na) (hV : NOK y.cls idx y' host) (hd : decode cc pc = .ok (.invokestatic idx, 3)) (h0 : d' + 1 ≤ d) (hk : mc' + k2 ≤ k) (hn : ms' + n2 ≤ n) (ha : As.length = na) (hst : st = As.reverse ++ rest) (hr : (rest.map fun v => v.category).sum ≤ 8) (hp : ws.Perm (wc ++ wr)) (kk : ∀ v w1, Pst v w1 → J M l x cc nL y d P k2 n2 (pc + 3) lv (v.toList ++ rest) (w1 ++ wr)) : J M l x cc nL y d P k n pc lv st ws := by
  obtain ⟨p, e, R, s, m, args, below, meth, c, A, Q, mc, ms⟩ := M
  intro E cells slots H locs ls h1 h2 hP hD hS hl
  obtain ⟨E1, E2, E3⟩ := id E
  obtain ⟨C1, C2, C3, C4, C5⟩ := hC
  obtain ⟨V1, V2⟩ := hV
  have hts := E1.2.2.2.2.2.1
  have hP' := hP.perm hp
  have hD' := hD.perm hp
  have cw := va_cnB (R := R) (s := s) (args := args) (own := y.cls) (host := host) (index := idx) (y := y') (bytes := cc') (maxL := nL') (ret := ret') (ws := .code y' cc' nL' ret' :: gw) (rm := jRm d' mc' ms') (mc := mc') (ms := ms') na hts (fun w hw => gw_good w (gw_sub C1 w hw)) rfl rfl rfl (V1 x s E1.2.2.2.2.2.2.1) (hts _ C2) ⟨C3.1, C3.2, C4⟩ ⟨by show d' + 1 ≤ _; omega, by show 8 + (nL' + 11) + 40 * d' ≤ _; omega⟩
  refine jn_core (wc := wc) (wr := wr) (va_runSN (As := As) (rest := rest) ⟨E1.1, E1.2.1, E1.2.2.1, E1.2.2.2.1, hts⟩ (hM H.size) ⟨cw, hts _ V2, trivial⟩ ⟨jPre_blind _ _ _ _, fun U hU hW => ⟨rfl, by rw [hU], by rw [hU]; exact hP'.left, E1.2.2.2.2.2.2.1.warm hW, hD'.left.weaken (fun _ _ _ _ => trivial)⟩⟩ rfl ha hl.1 hst (lv_room hr) hd ⟨by omega, by omega⟩) hP' hD' hS E1.2.2.2.2.2.2.2 (fun v w1 H1 locs1 hv hP hD hS => ?_)
  exact kk v w1 hv E (cells + mc') (slots + ms') H1 locs1 ls (by omega) (by omega) hP hD hS hl
def IOK (own : String) (idx : Nat) (y' : MethodName) : Prop := Cond.methodLink own idx y' ∈ gw ∧ Cond.instanceMethod y' ∈ gw ∧ y'.name = "<init>"
set_option maxHeartbeats 4000000 in
theorem j_callI {wc wr : va_W} {Pst : Option Value → va_W → Prop} {d' mc' ms' k2 n2 idx b nL' na : Nat} {y' : MethodName} {cc' : ByteArray} {As rest : List Value} (hM : MC l x d' mc' ms' y' cc' nL' none (.ref b :: As) wc Pst) (hC : COK y' cc' nL' none na) (hV : IOK y.cls idx y') (hd : decode cc pc = .ok (.invokespecial idx, 3)) (h0 : d' + 1 ≤ d) (hk : mc' + k2 ≤ k) (hn : ms' + n2 ≤ n) (ha : As.length = na) (hst : st = As.reverse ++ .ref b :: rest) (hr : (rest.map fun v => v.category).sum ≤ 8) (hp : ws.Perm (wc ++ wr)) (kk : ∀ v w1, Pst v w1 → J M l x cc nL y d P k2 n2 (pc + 3) lv (v.toList ++ rest) (w1 ++ wr)) : J M l x cc nL y d P k n pc lv st ws := by
  obtain ⟨p, e, R, s, m, args, below, meth, c, A, Q, mc, ms⟩ := M
  intro E cells slots H locs ls h1 h2 hP hD hS hl
  obtain ⟨E1, E2, E3⟩ := id E
  obtain ⟨C1, C2, C3, C4, C5⟩ := hC
  obtain ⟨V1, V2, V3⟩ := hV
  have hts := E1.2.2.2.2.2.1
  have hP' := hP.perm hp
  have hD' := hD.perm hp
  have cw := cwI (R := R) (s := s) (args := args) (own := y.cls) (index := idx) (y := y') (bytes := cc') (maxL := nL') (ws := .code y' cc' nL' none :: gw) (rm := jRm d' mc' ms') (mc := mc') (ms := ms') na hts (fun w hw => gw_good w (gw_sub C1 w hw)) rfl rfl rfl (hts _ C2) (hts _ V1) (hts _ V2) V3 ⟨C3.1, C3.2, C4⟩ ⟨by show d' + 1 ≤ _; omega, by show 8 + (nL' + 11) + 40 * d' ≤ _; omega⟩
  refine jn_core (wc := wc) (wr := wr) (va_runI (As := As) (rest := rest) (b := b) ⟨E1.1, E1.2.1, E1.2.2.1, E1.2.2.2.1, hts⟩ (hM H.size) cw ⟨jPre_blind _ _ _ _, fun U hU hW => ⟨rfl, by rw [hU], by rw [hU]; exact hP'.left, E1.2.2.2.2.2.2.1.warm hW, hD'.left.weaken (fun _ _ _ _ => trivial)⟩⟩ rfl ha hl.1 hst (lv_room hr) hd ⟨by omega, by omega⟩) hP' hD' hS E1.2.2.2.2.2.2.2 (fun v w1 H1 locs1 hv hP hD hS => ?_)
  exact kk v w1 hv E (cells + mc') (slots + ms') H1 locs1 ls (by omega) (by omega) hP hD hS hl
end
end
section
/-! what makes cells -/
section
variable {M : Mx} {l : Launch} {x : Cx} {cc : ByteArray} {nL : Nat} {y : MethodName} {d : Nat} {P : Option Value → va_W → Prop} {k n pc : Nat} {lv : List (Nat × Value)} {st : List Value} {ws : va_W}
def WOK (own : String) (idx ci N : Nat) (fs : List Value) : Prop := ∃ (C : String) (T : u_T) (ty : Nat → FieldType), vwCl[ci]? = some (C, T, N) ∧ (∀ w ∈ u_ws C T N, w ∈ gw) ∧ (∀ k, k < N → parseFieldDescriptor (T k).2.2.1 = some (ty k)) ∧ Cond.classLink own idx C ∈ gw ∧ Cond.instantiable C N ∈ gw ∧ Cond.initialized C ∈ gw ∧ ∀ j, j < N → defaultValue (ty j) = vp_V fs j
theorem pm_last (ws : va_W) (q : Nat × va_E) : (ws ++ [q]).Perm (q :: ws) := by
  have h := List.perm_append_comm (l₁ := ws) (l₂ := [q])
  exact h
theorem j_new {idx ci N : Nat} {fs : List Value} (hd : decode cc pc = .ok (.new idx, 3)) (hW : WOK y.cls idx ci N fs) (kk : ∀ q : Nat, J M l x cc nL y d P k n (pc + 3) lv (.ref q :: st) ((q, .inr (ci, fs)) :: ws)) : J M l x cc nL y d P (k + 1) (n + N) pc lv st ws := by
  obtain ⟨p, e, R, s, m, args, below, meth, c, A, Q, mc, ms⟩ := M
  intro E cells slots H locs ls h1 h2 hP hD hS hl
  obtain ⟨E1, E2, E3⟩ := id E
  obtain ⟨C, T, ty, f1, f2, f3, f4, f5, f6, f7⟩ := hW
  have hts := E1.2.2.2.2.2.1
  refine va_new E1.1 E1.2.1 hts f2 ty f3 E1.2.2.2.1 (hts _ f4) (hts _ f5) (hts _ f6) E1.2.2.2.2.2.2.1.1 hP hD hS E1.2.2.2.2.2.2.2 f1 f7 (by omega) (by omega) hd (fun q H1 hP hD hS => ?_)
  exact kk q E (cells + 1) (slots + N) H1 locs ls (by omega) (by omega) (hP.perm (pm_last _ _)) (hD.perm (pm_last _ _)) hS hl
theorem j_newi {v : Int32} {N : Nat} (hd : decode cc pc = .ok (.newarray .int, 2)) (hn : ¬ v < 0) (hN : v.toNatClampNeg = N) (hb : N ≤ 1000) (kk : ∀ q : Nat, J M l x cc nL y d P k n (pc + 2) lv (.ref q :: st) ((q, .inl (x.2.1, N, .inl (fun _ => 0))) :: ws)) : J M l x cc nL y d P (k + 1) (n + N) pc lv (.int v :: st) ws := by
  obtain ⟨p, e, R, s, m, args, below, meth, c, A, Q, mc, ms⟩ := M
  intro E cells slots H locs ls h1 h2 hP hD hS hl
  obtain ⟨E1, E2, E3⟩ := id E
  have hts := E1.2.2.2.2.2.1
  refine va_newa E1.1 E1.2.1 (hts _ (gw_in (by decide +kernel) (by decide +kernel))) (ty := .int) rfl E1.2.2.2.2.2.2.1.1 hP hD hS E1.2.2.2.2.2.2.2 (N' := N) (a0 := (N, .inl (fun _ => 0))) (fun cA => rfl) hn hN (by show N * 4 ≤ _; omega) (by omega) (by omega) hd (fun q cA H1 hK hP hD hS => ?_)
  have e : x.2.1 = cA := Option.some.inj ((E1.2.2.2.2.2.2.1.1.2 0 _ rfl).2.symm.trans (hK.2 5 _ rfl).2)
  subst e
  exact kk q E (cells + 1) (slots + N) H1 locs ls (by omega) (by omega) (hP.perm (pm_last _ _)) (hD.perm (pm_last _ _)) hS hl
theorem j_newz {v : Int32} {N : Nat} (hd : decode cc pc = .ok (.newarray .boolean, 2)) (hn : ¬ v < 0) (hN : v.toNatClampNeg = N) (hb : N ≤ 1000) (kk : ∀ q : Nat, J M l x cc nL y d P k n (pc + 2) lv (.ref q :: st) ((q, .inl (x.2.2.1, N, .inl (fun _ => 0))) :: ws)) : J M l x cc nL y d P (k + 1) (n + N) pc lv (.int v :: st) ws := by
  obtain ⟨p, e, R, s, m, args, below, meth, c, A, Q, mc, ms⟩ := M
  intro E cells slots H locs ls h1 h2 hP hD hS hl
  obtain ⟨E1, E2, E3⟩ := id E
  have hts := E1.2.2.2.2.2.1
  refine va_newa E1.1 E1.2.1 (hts _ (gw_in (by decide +kernel) (by decide +kernel))) (ty := .boolean) rfl E1.2.2.2.2.2.2.1.1 hP hD hS E1.2.2.2.2.2.2.2 (N' := N) (a0 := (N, .inl (fun _ => 0))) (fun cA => rfl) hn hN (by show N * 1 ≤ _; omega) (by omega) (by omega) hd (fun q cA H1 hK hP hD hS => ?_)
  have e : x.2.2.1 = cA := Option.some.inj ((E1.2.2.2.2.2.2.1.1.2 1 _ rfl).2.symm.trans (hK.2 5 _ rfl).2)
  subst e
  exact kk q E (cells + 1) (slots + N) H1 locs ls (by omega) (by omega) (hP.perm (pm_last _ _)) (hD.perm (pm_last _ _)) hS hl
theorem j_newb {v : Int32} {N : Nat} (hd : decode cc pc = .ok (.newarray .byte, 2)) (hn : ¬ v < 0) (hN : v.toNatClampNeg = N) (hb : N ≤ 1000) (kk : ∀ q : Nat, J M l x cc nL y d P k n (pc + 2) lv (.ref q :: st) ((q, .inl (x.2.2.2.1, N, .inl (fun _ => 0))) :: ws)) : J M l x cc nL y d P (k + 1) (n + N) pc lv (.int v :: st) ws := by
  obtain ⟨p, e, R, s, m, args, below, meth, c, A, Q, mc, ms⟩ := M
  intro E cells slots H locs ls h1 h2 hP hD hS hl
  obtain ⟨E1, E2, E3⟩ := id E
  have hts := E1.2.2.2.2.2.1
  refine va_newa E1.1 E1.2.1 (hts _ (gw_in (by decide +kernel) (by decide +kernel))) (ty := .byte) rfl E1.2.2.2.2.2.2.1.1 hP hD hS E1.2.2.2.2.2.2.2 (N' := N) (a0 := (N, .inl (fun _ => 0))) (fun cA => rfl) hn hN (by show N * 1 ≤ _; omega) (by omega) (by omega) hd (fun q cA H1 hK hP hD hS => ?_)
  have e : x.2.2.2.1 = cA := Option.some.inj ((E1.2.2.2.2.2.2.1.1.2 2 _ rfl).2.symm.trans (hK.2 5 _ rfl).2)
  subst e
  exact kk q E (cells + 1) (slots + N) H1 locs ls (by omega) (by omega) (hP.perm (pm_last _ _)) (hD.perm (pm_last _ _)) hS hl
theorem j_newq {v : Int32} {N idx : Nat} (hd : decode cc pc = .ok (.anewarray idx, 3)) (hcl : Cond.classLink y.cls idx "WakefulBed$Night" ∈ gw) (hn : ¬ v < 0) (hN : v.toNatClampNeg = N) (hb : N ≤ 1000) (kk : ∀ q : Nat, J M l x cc nL y d P k n (pc + 3) lv (.ref q :: st) ((q, .inl (x.2.2.2.2.1, N, .inr (.inr (.inr (.inr (fun _ => none)))))) :: ws)) : J M l x cc nL y d P (k + 1) (n + N) pc lv (.int v :: st) ws := by
  obtain ⟨p, e, R, s, m, args, below, meth, c, A, Q, mc, ms⟩ := M
  intro E cells slots H locs ls h1 h2 hP hD hS hl
  obtain ⟨E1, E2, E3⟩ := id E
  have hts := E1.2.2.2.2.2.1
  refine va_newq E1.1 E1.2.1 E1.2.2.2.1 (hts _ hcl) E1.2.2.2.2.2.2.1.2.2.2.2.1 E1.2.2.2.2.2.2.1.1 hP hD hS E1.2.2.2.2.2.2.2 (N' := N) hn hN (by omega) (by omega) (by omega) hd (fun q cA H1 hK hP hD hS => ?_)
  have e : x.2.2.2.2.1 = cA := by
    obtain ⟨_, _, _, _, _, h1⟩ := (E1.2.2.2.2.2.2.1.1.2 3 _ rfl).2
    obtain ⟨_, _, _, _, _, h2⟩ := (hK.2 5 _ rfl).2
    exact Option.some.inj (h1.symm.trans h2)
  subst e
  exact kk q E (cells + 1) (slots + N) H1 locs ls (by omega) (by omega) (hP.perm (pm_last _ _)) (hD.perm (pm_last _ _)) hS hl
end
end
section
theorem uX0 : ∀ w ∈ u_ws RX0 TX0 4, w ∈ gw := by decide +kernel
theorem uX1 : ∀ w ∈ u_ws RX1 TX1 3, w ∈ gw := by decide +kernel
theorem uX2 : ∀ w ∈ u_ws RX2 TX2 7, w ∈ gw := by decide +kernel
theorem uX3 : ∀ w ∈ u_ws RX3 TX3 2, w ∈ gw := by decide +kernel
theorem uX4 : ∀ w ∈ u_ws RX4 TX4 3, w ∈ gw := by decide +kernel
theorem uX5 : ∀ w ∈ u_ws RX5 TX5 11, w ∈ gw := by decide +kernel
theorem uX6 : ∀ w ∈ u_ws RX6 TX6 27, w ∈ gw := by decide +kernel
theorem fX0_12 : FOK RX0 12 0 0 (.object "WakefulBed$Night") true := ⟨RX0, TX0, 4, tyX0, rfl, by decide, uX0, gw_in (by decide +kernel) (by decide +kernel), tyX0_ok, nmX0, by decide +kernel, rfl, rfl⟩
theorem fX0_20 : FOK RX0 20 0 1 (.array (.array .int)) true := ⟨RX0, TX0, 4, tyX0, rfl, by decide, uX0, gw_in (by decide +kernel) (by decide +kernel), tyX0_ok, nmX0, by decide +kernel, rfl, rfl⟩
theorem fX0_23 : FOK RX0 23 0 2 .int false := ⟨RX0, TX0, 4, tyX0, rfl, by decide, uX0, gw_in (by decide +kernel) (by decide +kernel), tyX0_ok, nmX0, by decide +kernel, rfl, rfl⟩
theorem fX0_27 : FOK RX0 27 0 3 .int false := ⟨RX0, TX0, 4, tyX0, rfl, by decide, uX0, gw_in (by decide +kernel) (by decide +kernel), tyX0_ok, nmX0, by decide +kernel, rfl, rfl⟩
theorem fX1_11 : FOK RX1 11 1 0 (.array (.object "WakefulBed$Night")) true := ⟨RX1, TX1, 3, tyX1, rfl, by decide, uX1, gw_in (by decide +kernel) (by decide +kernel), tyX1_ok, nmX1, by decide +kernel, rfl, rfl⟩
theorem fX1_18 : FOK RX1 18 1 1 .int false := ⟨RX1, TX1, 3, tyX1, rfl, by decide, uX1, gw_in (by decide +kernel) (by decide +kernel), tyX1_ok, nmX1, by decide +kernel, rfl, rfl⟩
theorem fX1_22 : FOK RX1 22 1 2 .int false := ⟨RX1, TX1, 3, tyX1, rfl, by decide, uX1, gw_in (by decide +kernel) (by decide +kernel), tyX1_ok, nmX1, by decide +kernel, rfl, rfl⟩
theorem fX2_9 : FOK RX2 9 2 0 (.array .int) true := ⟨RX2, TX2, 7, tyX2, rfl, by decide, uX2, gw_in (by decide +kernel) (by decide +kernel), tyX2_ok, nmX2, by decide +kernel, rfl, rfl⟩
theorem fX2_15 : FOK RX2 15 2 1 (.array .int) true := ⟨RX2, TX2, 7, tyX2, rfl, by decide, uX2, gw_in (by decide +kernel) (by decide +kernel), tyX2_ok, nmX2, by decide +kernel, rfl, rfl⟩
theorem fX2_18 : FOK RX2 18 2 2 (.array .boolean) true := ⟨RX2, TX2, 7, tyX2, rfl, by decide, uX2, gw_in (by decide +kernel) (by decide +kernel), tyX2_ok, nmX2, by decide +kernel, rfl, rfl⟩
theorem fX2_22 : FOK RX2 22 2 3 (.array .int) true := ⟨RX2, TX2, 7, tyX2, rfl, by decide, uX2, gw_in (by decide +kernel) (by decide +kernel), tyX2_ok, nmX2, by decide +kernel, rfl, rfl⟩
theorem fX2_25 : FOK RX2 25 2 4 .int false := ⟨RX2, TX2, 7, tyX2, rfl, by decide, uX2, gw_in (by decide +kernel) (by decide +kernel), tyX2_ok, nmX2, by decide +kernel, rfl, rfl⟩
theorem fX2_29 : FOK RX2 29 2 5 .int false := ⟨RX2, TX2, 7, tyX2, rfl, by decide, uX2, gw_in (by decide +kernel) (by decide +kernel), tyX2_ok, nmX2, by decide +kernel, rfl, rfl⟩
theorem fX2_32 : FOK RX2 32 2 6 .int false := ⟨RX2, TX2, 7, tyX2, rfl, by decide, uX2, gw_in (by decide +kernel) (by decide +kernel), tyX2_ok, nmX2, by decide +kernel, rfl, rfl⟩
theorem fX3_11 : FOK RX3 11 3 0 (.array .int) true := ⟨RX3, TX3, 2, tyX3, rfl, by decide, uX3, gw_in (by decide +kernel) (by decide +kernel), tyX3_ok, nmX3, by decide +kernel, rfl, rfl⟩
theorem fX3_15 : FOK RX3 15 3 1 .int false := ⟨RX3, TX3, 2, tyX3, rfl, by decide, uX3, gw_in (by decide +kernel) (by decide +kernel), tyX3_ok, nmX3, by decide +kernel, rfl, rfl⟩
theorem fX4_9 : FOK RX4 9 4 0 (.array .int) true := ⟨RX4, TX4, 3, tyX4, rfl, by decide, uX4, gw_in (by decide +kernel) (by decide +kernel), tyX4_ok, nmX4, by decide +kernel, rfl, rfl⟩
theorem fX4_15 : FOK RX4 15 4 1 (.array .int) true := ⟨RX4, TX4, 3, tyX4, rfl, by decide, uX4, gw_in (by decide +kernel) (by decide +kernel), tyX4_ok, nmX4, by decide +kernel, rfl, rfl⟩
theorem fX4_18 : FOK RX4 18 4 2 .int false := ⟨RX4, TX4, 3, tyX4, rfl, by decide, uX4, gw_in (by decide +kernel) (by decide +kernel), tyX4_ok, nmX4, by decide +kernel, rfl, rfl⟩
theorem fX5_10 : FOK RX5 10 5 0 (.object "WakefulBed$Page") true := ⟨RX5, TX5, 11, tyX5, rfl, by decide, uX5, gw_in (by decide +kernel) (by decide +kernel), tyX5_ok, nmX5, by decide +kernel, rfl, rfl⟩
theorem fX5_19 : FOK RX5 19 5 1 (.object "WakefulBed$Night") true := ⟨RX5, TX5, 11, tyX5, rfl, by decide, uX5, gw_in (by decide +kernel) (by decide +kernel), tyX5_ok, nmX5, by decide +kernel, rfl, rfl⟩
theorem fX5_26 : FOK RX5 26 5 2 (.object "WakefulBed$Seen") true := ⟨RX5, TX5, 11, tyX5, rfl, by decide, uX5, gw_in (by decide +kernel) (by decide +kernel), tyX5_ok, nmX5, by decide +kernel, rfl, rfl⟩
theorem fX5_30 : FOK RX5 30 5 3 (.object "WakefulBed$Night") true := ⟨RX5, TX5, 11, tyX5, rfl, by decide, uX5, gw_in (by decide +kernel) (by decide +kernel), tyX5_ok, nmX5, by decide +kernel, rfl, rfl⟩
theorem fX5_33 : FOK RX5 33 5 4 (.object "WakefulBed$Seen") true := ⟨RX5, TX5, 11, tyX5, rfl, by decide, uX5, gw_in (by decide +kernel) (by decide +kernel), tyX5_ok, nmX5, by decide +kernel, rfl, rfl⟩
theorem fX5_36 : FOK RX5 36 5 5 .boolean false := ⟨RX5, TX5, 11, tyX5, rfl, by decide, uX5, gw_in (by decide +kernel) (by decide +kernel), tyX5_ok, nmX5, by decide +kernel, rfl, rfl⟩
theorem fX5_40 : FOK RX5 40 5 6 (.object "WakefulBed$Night") true := ⟨RX5, TX5, 11, tyX5, rfl, by decide, uX5, gw_in (by decide +kernel) (by decide +kernel), tyX5_ok, nmX5, by decide +kernel, rfl, rfl⟩
theorem fX5_46 : FOK RX5 46 5 7 (.object "WakefulBed$LecturePlan") true := ⟨RX5, TX5, 11, tyX5, rfl, by decide, uX5, gw_in (by decide +kernel) (by decide +kernel), tyX5_ok, nmX5, by decide +kernel, rfl, rfl⟩
theorem fX5_53 : FOK RX5 53 5 8 (.object "WakefulBed$Guess") true := ⟨RX5, TX5, 11, tyX5, rfl, by decide, uX5, gw_in (by decide +kernel) (by decide +kernel), tyX5_ok, nmX5, by decide +kernel, rfl, rfl⟩
theorem fX5_57 : FOK RX5 57 5 9 .int false := ⟨RX5, TX5, 11, tyX5, rfl, by decide, uX5, gw_in (by decide +kernel) (by decide +kernel), tyX5_ok, nmX5, by decide +kernel, rfl, rfl⟩
theorem fX5_61 : FOK RX5 61 5 10 .int false := ⟨RX5, TX5, 11, tyX5, rfl, by decide, uX5, gw_in (by decide +kernel) (by decide +kernel), tyX5_ok, nmX5, by decide +kernel, rfl, rfl⟩
theorem fX6_7 : FOK RX6 7 6 3 (.array .int) true := ⟨RX6, TX6, 27, tyX6, rfl, by decide, uX6, gw_in (by decide +kernel) (by decide +kernel), tyX6_ok, nmX6, by decide +kernel, rfl, rfl⟩
theorem fX6_13 : FOK RX6 13 6 4 (.array .int) true := ⟨RX6, TX6, 27, tyX6, rfl, by decide, uX6, gw_in (by decide +kernel) (by decide +kernel), tyX6_ok, nmX6, by decide +kernel, rfl, rfl⟩
theorem fX6_16 : FOK RX6 16 6 5 (.array .boolean) true := ⟨RX6, TX6, 27, tyX6, rfl, by decide, uX6, gw_in (by decide +kernel) (by decide +kernel), tyX6_ok, nmX6, by decide +kernel, rfl, rfl⟩
theorem fX6_20 : FOK RX6 20 6 6 (.array .int) true := ⟨RX6, TX6, 27, tyX6, rfl, by decide, uX6, gw_in (by decide +kernel) (by decide +kernel), tyX6_ok, nmX6, by decide +kernel, rfl, rfl⟩
theorem fX6_23 : FOK RX6 23 6 9 (.array .int) true := ⟨RX6, TX6, 27, tyX6, rfl, by decide, uX6, gw_in (by decide +kernel) (by decide +kernel), tyX6_ok, nmX6, by decide +kernel, rfl, rfl⟩
theorem fX6_26 : FOK RX6 26 6 10 (.array .int) true := ⟨RX6, TX6, 27, tyX6, rfl, by decide, uX6, gw_in (by decide +kernel) (by decide +kernel), tyX6_ok, nmX6, by decide +kernel, rfl, rfl⟩
theorem fX6_29 : FOK RX6 29 6 13 (.array .byte) true := ⟨RX6, TX6, 27, tyX6, rfl, by decide, uX6, gw_in (by decide +kernel) (by decide +kernel), tyX6_ok, nmX6, by decide +kernel, rfl, rfl⟩
theorem fX6_33 : FOK RX6 33 6 16 (.array .int) true := ⟨RX6, TX6, 27, tyX6, rfl, by decide, uX6, gw_in (by decide +kernel) (by decide +kernel), tyX6_ok, nmX6, by decide +kernel, rfl, rfl⟩
theorem fX6_36 : FOK RX6 36 6 17 (.array .int) true := ⟨RX6, TX6, 27, tyX6, rfl, by decide, uX6, gw_in (by decide +kernel) (by decide +kernel), tyX6_ok, nmX6, by decide +kernel, rfl, rfl⟩
theorem fX6_39 : FOK RX6 39 6 18 (.array .int) true := ⟨RX6, TX6, 27, tyX6, rfl, by decide, uX6, gw_in (by decide +kernel) (by decide +kernel), tyX6_ok, nmX6, by decide +kernel, rfl, rfl⟩
theorem fX6_42 : FOK RX6 42 6 23 (.array .int) true := ⟨RX6, TX6, 27, tyX6, rfl, by decide, uX6, gw_in (by decide +kernel) (by decide +kernel), tyX6_ok, nmX6, by decide +kernel, rfl, rfl⟩
theorem fX6_45 : FOK RX6 45 6 24 (.array .int) true := ⟨RX6, TX6, 27, tyX6, rfl, by decide, uX6, gw_in (by decide +kernel) (by decide +kernel), tyX6_ok, nmX6, by decide +kernel, rfl, rfl⟩
theorem fX6_48 : FOK RX6 48 6 25 (.array .int) true := ⟨RX6, TX6, 27, tyX6, rfl, by decide, uX6, gw_in (by decide +kernel) (by decide +kernel), tyX6_ok, nmX6, by decide +kernel, rfl, rfl⟩
theorem fX6_55 : FOK RX6 55 6 12 .int false := ⟨RX6, TX6, 27, tyX6, rfl, by decide, uX6, gw_in (by decide +kernel) (by decide +kernel), tyX6_ok, nmX6, by decide +kernel, rfl, rfl⟩
theorem fX6_59 : FOK RX6 59 6 14 .boolean false := ⟨RX6, TX6, 27, tyX6, rfl, by decide, uX6, gw_in (by decide +kernel) (by decide +kernel), tyX6_ok, nmX6, by decide +kernel, rfl, rfl⟩
theorem fX6_63 : FOK RX6 63 6 15 .int false := ⟨RX6, TX6, 27, tyX6, rfl, by decide, uX6, gw_in (by decide +kernel) (by decide +kernel), tyX6_ok, nmX6, by decide +kernel, rfl, rfl⟩
theorem fX6_77 : FOK RX6 77 6 1 .int false := ⟨RX6, TX6, 27, tyX6, rfl, by decide, uX6, gw_in (by decide +kernel) (by decide +kernel), tyX6_ok, nmX6, by decide +kernel, rfl, rfl⟩
theorem fX6_80 : FOK RX6 80 6 2 .int false := ⟨RX6, TX6, 27, tyX6, rfl, by decide, uX6, gw_in (by decide +kernel) (by decide +kernel), tyX6_ok, nmX6, by decide +kernel, rfl, rfl⟩
theorem fX6_83 : FOK RX6 83 6 0 .int false := ⟨RX6, TX6, 27, tyX6, rfl, by decide, uX6, gw_in (by decide +kernel) (by decide +kernel), tyX6_ok, nmX6, by decide +kernel, rfl, rfl⟩
theorem fX6_86 : FOK RX6 86 6 7 .int false := ⟨RX6, TX6, 27, tyX6, rfl, by decide, uX6, gw_in (by decide +kernel) (by decide +kernel), tyX6_ok, nmX6, by decide +kernel, rfl, rfl⟩
theorem fX6_89 : FOK RX6 89 6 8 .int false := ⟨RX6, TX6, 27, tyX6, rfl, by decide, uX6, gw_in (by decide +kernel) (by decide +kernel), tyX6_ok, nmX6, by decide +kernel, rfl, rfl⟩
theorem fX6_148 : FOK RX6 148 6 11 .int false := ⟨RX6, TX6, 27, tyX6, rfl, by decide, uX6, gw_in (by decide +kernel) (by decide +kernel), tyX6_ok, nmX6, by decide +kernel, rfl, rfl⟩
theorem fX6_179 : FOK RX6 179 6 19 .long false := ⟨RX6, TX6, 27, tyX6, rfl, by decide, uX6, gw_in (by decide +kernel) (by decide +kernel), tyX6_ok, nmX6, by decide +kernel, rfl, rfl⟩
theorem fX6_195 : FOK RX6 195 6 20 .boolean false := ⟨RX6, TX6, 27, tyX6, rfl, by decide, uX6, gw_in (by decide +kernel) (by decide +kernel), tyX6_ok, nmX6, by decide +kernel, rfl, rfl⟩
theorem fX6_198 : FOK RX6 198 6 21 .int false := ⟨RX6, TX6, 27, tyX6, rfl, by decide, uX6, gw_in (by decide +kernel) (by decide +kernel), tyX6_ok, nmX6, by decide +kernel, rfl, rfl⟩
theorem fX6_201 : FOK RX6 201 6 22 .int false := ⟨RX6, TX6, 27, tyX6, rfl, by decide, uX6, gw_in (by decide +kernel) (by decide +kernel), tyX6_ok, nmX6, by decide +kernel, rfl, rfl⟩
theorem fX6_212 : FOK RX6 212 6 26 .long false := ⟨RX6, TX6, 27, tyX6, rfl, by decide, uX6, gw_in (by decide +kernel) (by decide +kernel), tyX6_ok, nmX6, by decide +kernel, rfl, rfl⟩
theorem kX0_init : COK yX0_init cX0_init 1 none 0 := ⟨gw_in (by decide +kernel) (by decide +kernel), gw_in (by decide +kernel) (by decide +kernel), ⟨by decide +kernel, by decide +kernel⟩, by decide +kernel, by decide⟩
theorem kX0_possible : COK yX0_possible cX0_possible 1 (some .int) 0 := ⟨gw_in (by decide +kernel) (by decide +kernel), gw_in (by decide +kernel) (by decide +kernel), ⟨by decide +kernel, by decide +kernel⟩, by decide +kernel, by decide⟩
theorem kX0_make : COK yX0_make cX0_make 5 none 3 := ⟨gw_in (by decide +kernel) (by decide +kernel), gw_in (by decide +kernel) (by decide +kernel), ⟨by decide +kernel, by decide +kernel⟩, by decide +kernel, by decide⟩
theorem kX0_bestLook : COK yX0_bestLook cX0_bestLook 5 (some .int) 0 := ⟨gw_in (by decide +kernel) (by decide +kernel), gw_in (by decide +kernel) (by decide +kernel), ⟨by decide +kernel, by decide +kernel⟩, by decide +kernel, by decide⟩
theorem kX0_isAsSeen : COK yX0_isAsSeen cX0_isAsSeen 5 (some .boolean) 2 := ⟨gw_in (by decide +kernel) (by decide +kernel), gw_in (by decide +kernel) (by decide +kernel), ⟨by decide +kernel, by decide +kernel⟩, by decide +kernel, by decide⟩
theorem kX0_leftAtWorst : COK yX0_leftAtWorst cX0_leftAtWorst 4 (some .int) 1 := ⟨gw_in (by decide +kernel) (by decide +kernel), gw_in (by decide +kernel) (by decide +kernel), ⟨by decide +kernel, by decide +kernel⟩, by decide +kernel, by decide⟩
theorem kX0_leftBy : COK yX0_leftBy cX0_leftBy 6 (some .int) 2 := ⟨gw_in (by decide +kernel) (by decide +kernel), gw_in (by decide +kernel) (by decide +kernel), ⟨by decide +kernel, by decide +kernel⟩, by decide +kernel, by decide⟩
theorem kX1_init : COK yX1_init cX1_init 2 none 0 := ⟨gw_in (by decide +kernel) (by decide +kernel), gw_in (by decide +kernel) (by decide +kernel), ⟨by decide +kernel, by decide +kernel⟩, by decide +kernel, by decide⟩
theorem kX1_hoursInBed : COK yX1_hoursInBed cX1_hoursInBed 1 (some .int) 0 := ⟨gw_in (by decide +kernel) (by decide +kernel), gw_in (by decide +kernel) (by decide +kernel), ⟨by decide +kernel, by decide +kernel⟩, by decide +kernel, by decide⟩
theorem kX1_firstHearer : COK yX1_firstHearer cX1_firstHearer 1 (some .int) 0 := ⟨gw_in (by decide +kernel) (by decide +kernel), gw_in (by decide +kernel) (by decide +kernel), ⟨by decide +kernel, by decide +kernel⟩, by decide +kernel, by decide⟩
theorem kX1_make : COK yX1_make cX1_make 4 none 3 := ⟨gw_in (by decide +kernel) (by decide +kernel), gw_in (by decide +kernel) (by decide +kernel), ⟨by decide +kernel, by decide +kernel⟩, by decide +kernel, by decide⟩
theorem kX1_most : COK yX1_most cX1_most 9 (some .int) 4 := ⟨gw_in (by decide +kernel) (by decide +kernel), gw_in (by decide +kernel) (by decide +kernel), ⟨by decide +kernel, by decide +kernel⟩, by decide +kernel, by decide⟩
theorem kX2_init : COK yX2_init cX2_init 1 none 0 := ⟨gw_in (by decide +kernel) (by decide +kernel), gw_in (by decide +kernel) (by decide +kernel), ⟨by decide +kernel, by decide +kernel⟩, by decide +kernel, by decide⟩
theorem kX2_begin : COK yX2_begin cX2_begin 3 none 1 := ⟨gw_in (by decide +kernel) (by decide +kernel), gw_in (by decide +kernel) (by decide +kernel), ⟨by decide +kernel, by decide +kernel⟩, by decide +kernel, by decide⟩
theorem kX2_copyFrom : COK yX2_copyFrom cX2_copyFrom 3 none 1 := ⟨gw_in (by decide +kernel) (by decide +kernel), gw_in (by decide +kernel) (by decide +kernel), ⟨by decide +kernel, by decide +kernel⟩, by decide +kernel, by decide⟩
theorem kX2_knows : COK yX2_knows cX2_knows 2 (some .boolean) 1 := ⟨gw_in (by decide +kernel) (by decide +kernel), gw_in (by decide +kernel) (by decide +kernel), ⟨by decide +kernel, by decide +kernel⟩, by decide +kernel, by decide⟩
theorem kX2_lodgers : COK yX2_lodgers cX2_lodgers 1 (some .int) 0 := ⟨gw_in (by decide +kernel) (by decide +kernel), gw_in (by decide +kernel) (by decide +kernel), ⟨by decide +kernel, by decide +kernel⟩, by decide +kernel, by decide⟩
theorem kX2_drowse : COK yX2_drowse cX2_drowse 1 (some .int) 0 := ⟨gw_in (by decide +kernel) (by decide +kernel), gw_in (by decide +kernel) (by decide +kernel), ⟨by decide +kernel, by decide +kernel⟩, by decide +kernel, by decide⟩
theorem kX2_hoursPassed : COK yX2_hoursPassed cX2_hoursPassed 1 (some .int) 0 := ⟨gw_in (by decide +kernel) (by decide +kernel), gw_in (by decide +kernel) (by decide +kernel), ⟨by decide +kernel, by decide +kernel⟩, by decide +kernel, by decide⟩
theorem kX2_kindOf : COK yX2_kindOf cX2_kindOf 2 (some .int) 1 := ⟨gw_in (by decide +kernel) (by decide +kernel), gw_in (by decide +kernel) (by decide +kernel), ⟨by decide +kernel, by decide +kernel⟩, by decide +kernel, by decide⟩
theorem kX2_tiredOf : COK yX2_tiredOf cX2_tiredOf 2 (some .int) 1 := ⟨gw_in (by decide +kernel) (by decide +kernel), gw_in (by decide +kernel) (by decide +kernel), ⟨by decide +kernel, by decide +kernel⟩, by decide +kernel, by decide⟩
theorem kX2_sleeps : COK yX2_sleeps cX2_sleeps 2 (some .boolean) 1 := ⟨gw_in (by decide +kernel) (by decide +kernel), gw_in (by decide +kernel) (by decide +kernel), ⟨by decide +kernel, by decide +kernel⟩, by decide +kernel, by decide⟩
theorem kX2_bedHoursOf : COK yX2_bedHoursOf cX2_bedHoursOf 2 (some .int) 1 := ⟨gw_in (by decide +kernel) (by decide +kernel), gw_in (by decide +kernel) (by decide +kernel), ⟨by decide +kernel, by decide +kernel⟩, by decide +kernel, by decide⟩
theorem kX2_sleepers : COK yX2_sleepers cX2_sleepers 3 (some .int) 0 := ⟨gw_in (by decide +kernel) (by decide +kernel), gw_in (by decide +kernel) (by decide +kernel), ⟨by decide +kernel, by decide +kernel⟩, by decide +kernel, by decide⟩
theorem kX2_tiredTogether : COK yX2_tiredTogether cX2_tiredTogether 3 (some .int) 0 := ⟨gw_in (by decide +kernel) (by decide +kernel), gw_in (by decide +kernel) (by decide +kernel), ⟨by decide +kernel, by decide +kernel⟩, by decide +kernel, by decide⟩
theorem kX2_whoseBed : COK yX2_whoseBed cX2_whoseBed 3 (some .int) 0 := ⟨gw_in (by decide +kernel) (by decide +kernel), gw_in (by decide +kernel) (by decide +kernel), ⟨by decide +kernel, by decide +kernel⟩, by decide +kernel, by decide⟩
theorem kX2_giveCoffee : COK yX2_giveCoffee cX2_giveCoffee 2 none 1 := ⟨gw_in (by decide +kernel) (by decide +kernel), gw_in (by decide +kernel) (by decide +kernel), ⟨by decide +kernel, by decide +kernel⟩, by decide +kernel, by decide⟩
theorem kX2_giveLecture : COK yX2_giveLecture cX2_giveLecture 2 none 1 := ⟨gw_in (by decide +kernel) (by decide +kernel), gw_in (by decide +kernel) (by decide +kernel), ⟨by decide +kernel, by decide +kernel⟩, by decide +kernel, by decide⟩
theorem kX2_passHour : COK yX2_passHour cX2_passHour 3 none 0 := ⟨gw_in (by decide +kernel) (by decide +kernel), gw_in (by decide +kernel) (by decide +kernel), ⟨by decide +kernel, by decide +kernel⟩, by decide +kernel, by decide⟩
theorem kX2_wakeAs : COK yX2_wakeAs cX2_wakeAs 3 none 2 := ⟨gw_in (by decide +kernel) (by decide +kernel), gw_in (by decide +kernel) (by decide +kernel), ⟨by decide +kernel, by decide +kernel⟩, by decide +kernel, by decide⟩
theorem kX2_keepsBed : COK yX2_keepsBed cX2_keepsBed 4 (some .boolean) 2 := ⟨gw_in (by decide +kernel) (by decide +kernel), gw_in (by decide +kernel) (by decide +kernel), ⟨by decide +kernel, by decide +kernel⟩, by decide +kernel, by decide⟩
theorem kX2_mostWakefulPair : COK yX2_mostWakefulPair cX2_mostWakefulPair 5 (some .int) 0 := ⟨gw_in (by decide +kernel) (by decide +kernel), gw_in (by decide +kernel) (by decide +kernel), ⟨by decide +kernel, by decide +kernel⟩, by decide +kernel, by decide⟩
theorem kX2_hoursTogether : COK yX2_hoursTogether cX2_hoursTogether 3 (some .int) 2 := ⟨gw_in (by decide +kernel) (by decide +kernel), gw_in (by decide +kernel) (by decide +kernel), ⟨by decide +kernel, by decide +kernel⟩, by decide +kernel, by decide⟩
theorem kX2_hoursAwakeInBed : COK yX2_hoursAwakeInBed cX2_hoursAwakeInBed 5 (some .int) 1 := ⟨gw_in (by decide +kernel) (by decide +kernel), gw_in (by decide +kernel) (by decide +kernel), ⟨by decide +kernel, by decide +kernel⟩, by decide +kernel, by decide⟩
theorem kX2_mayLieIn : COK yX2_mayLieIn cX2_mayLieIn 2 (some .boolean) 1 := ⟨gw_in (by decide +kernel) (by decide +kernel), gw_in (by decide +kernel) (by decide +kernel), ⟨by decide +kernel, by decide +kernel⟩, by decide +kernel, by decide⟩
theorem kX2_settle : COK yX2_settle cX2_settle 2 none 1 := ⟨gw_in (by decide +kernel) (by decide +kernel), gw_in (by decide +kernel) (by decide +kernel), ⟨by decide +kernel, by decide +kernel⟩, by decide +kernel, by decide⟩
theorem kX3_init : COK yX3_init cX3_init 1 none 0 := ⟨gw_in (by decide +kernel) (by decide +kernel), gw_in (by decide +kernel) (by decide +kernel), ⟨by decide +kernel, by decide +kernel⟩, by decide +kernel, by decide⟩
theorem kX3_length : COK yX3_length cX3_length 1 (some .int) 0 := ⟨gw_in (by decide +kernel) (by decide +kernel), gw_in (by decide +kernel) (by decide +kernel), ⟨by decide +kernel, by decide +kernel⟩, by decide +kernel, by decide⟩
theorem kX3_codeAt : COK yX3_codeAt cX3_codeAt 2 (some .int) 1 := ⟨gw_in (by decide +kernel) (by decide +kernel), gw_in (by decide +kernel) (by decide +kernel), ⟨by decide +kernel, by decide +kernel⟩, by decide +kernel, by decide⟩
theorem kX3_digitAt : COK yX3_digitAt cX3_digitAt 2 (some .int) 1 := ⟨gw_in (by decide +kernel) (by decide +kernel), gw_in (by decide +kernel) (by decide +kernel), ⟨by decide +kernel, by decide +kernel⟩, by decide +kernel, by decide⟩
theorem kX3_put : COK yX3_put cX3_put 2 (some .int) 1 := ⟨gw_in (by decide +kernel) (by decide +kernel), gw_in (by decide +kernel) (by decide +kernel), ⟨by decide +kernel, by decide +kernel⟩, by decide +kernel, by decide⟩
theorem kX3_empty : COK yX3_empty cX3_empty 2 (some .int) 0 := ⟨gw_in (by decide +kernel) (by decide +kernel), gw_in (by decide +kernel) (by decide +kernel), ⟨by decide +kernel, by decide +kernel⟩, by decide +kernel, by decide⟩
theorem kX3_firstFault : COK yX3_firstFault cX3_firstFault 2 (some .int) 0 := ⟨gw_in (by decide +kernel) (by decide +kernel), gw_in (by decide +kernel) (by decide +kernel), ⟨by decide +kernel, by decide +kernel⟩, by decide +kernel, by decide⟩
theorem kX3_isHouse : COK yX3_isHouse cX3_isHouse 1 (some .boolean) 0 := ⟨gw_in (by decide +kernel) (by decide +kernel), gw_in (by decide +kernel) (by decide +kernel), ⟨by decide +kernel, by decide +kernel⟩, by decide +kernel, by decide⟩
theorem kX3_lodgers : COK yX3_lodgers cX3_lodgers 1 (some .int) 0 := ⟨gw_in (by decide +kernel) (by decide +kernel), gw_in (by decide +kernel) (by decide +kernel), ⟨by decide +kernel, by decide +kernel⟩, by decide +kernel, by decide⟩
theorem kX3_kindOf : COK yX3_kindOf cX3_kindOf 2 (some .int) 1 := ⟨gw_in (by decide +kernel) (by decide +kernel), gw_in (by decide +kernel) (by decide +kernel), ⟨by decide +kernel, by decide +kernel⟩, by decide +kernel, by decide⟩
theorem kX3_tiredOf : COK yX3_tiredOf cX3_tiredOf 2 (some .int) 1 := ⟨gw_in (by decide +kernel) (by decide +kernel), gw_in (by decide +kernel) (by decide +kernel), ⟨by decide +kernel, by decide +kernel⟩, by decide +kernel, by decide⟩
theorem kX3_drowse : COK yX3_drowse cX3_drowse 1 (some .int) 0 := ⟨gw_in (by decide +kernel) (by decide +kernel), gw_in (by decide +kernel) (by decide +kernel), ⟨by decide +kernel, by decide +kernel⟩, by decide +kernel, by decide⟩
theorem kX3_fits : COK yX3_fits cX3_fits 3 (some .boolean) 1 := ⟨gw_in (by decide +kernel) (by decide +kernel), gw_in (by decide +kernel) (by decide +kernel), ⟨by decide +kernel, by decide +kernel⟩, by decide +kernel, by decide⟩
theorem kX4_init : COK yX4_init cX4_init 1 none 0 := ⟨gw_in (by decide +kernel) (by decide +kernel), gw_in (by decide +kernel) (by decide +kernel), ⟨by decide +kernel, by decide +kernel⟩, by decide +kernel, by decide⟩
theorem kX4_size : COK yX4_size cX4_size 1 (some .int) 0 := ⟨gw_in (by decide +kernel) (by decide +kernel), gw_in (by decide +kernel) (by decide +kernel), ⟨by decide +kernel, by decide +kernel⟩, by decide +kernel, by decide⟩
theorem kX4_put : COK yX4_put cX4_put 3 (some .int) 2 := ⟨gw_in (by decide +kernel) (by decide +kernel), gw_in (by decide +kernel) (by decide +kernel), ⟨by decide +kernel, by decide +kernel⟩, by decide +kernel, by decide⟩
theorem kX4_empty : COK yX4_empty cX4_empty 2 (some .int) 0 := ⟨gw_in (by decide +kernel) (by decide +kernel), gw_in (by decide +kernel) (by decide +kernel), ⟨by decide +kernel, by decide +kernel⟩, by decide +kernel, by decide⟩
theorem kX4_copyFrom : COK yX4_copyFrom cX4_copyFrom 3 none 1 := ⟨gw_in (by decide +kernel) (by decide +kernel), gw_in (by decide +kernel) (by decide +kernel), ⟨by decide +kernel, by decide +kernel⟩, by decide +kernel, by decide⟩
theorem kX4_allows : COK yX4_allows cX4_allows 4 (some .boolean) 2 := ⟨gw_in (by decide +kernel) (by decide +kernel), gw_in (by decide +kernel) (by decide +kernel), ⟨by decide +kernel, by decide +kernel⟩, by decide +kernel, by decide⟩
theorem kX5_init : COK yX5_init cX5_init 1 none 0 := ⟨gw_in (by decide +kernel) (by decide +kernel), gw_in (by decide +kernel) (by decide +kernel), ⟨by decide +kernel, by decide +kernel⟩, by decide +kernel, by decide⟩
theorem kX5_letter : COK yX5_letter cX5_letter 2 (some .int) 1 := ⟨gw_in (by decide +kernel) (by decide +kernel), gw_in (by decide +kernel) (by decide +kernel), ⟨by decide +kernel, by decide +kernel⟩, by decide +kernel, by decide⟩
theorem kX5_blank : COK yX5_blank cX5_blank 1 (some .int) 0 := ⟨gw_in (by decide +kernel) (by decide +kernel), gw_in (by decide +kernel) (by decide +kernel), ⟨by decide +kernel, by decide +kernel⟩, by decide +kernel, by decide⟩
theorem kX5_fault : COK yX5_fault cX5_fault 1 (some .int) 0 := ⟨gw_in (by decide +kernel) (by decide +kernel), gw_in (by decide +kernel) (by decide +kernel), ⟨by decide +kernel, by decide +kernel⟩, by decide +kernel, by decide⟩
theorem kX5_house : COK yX5_house cX5_house 1 (some .int) 0 := ⟨gw_in (by decide +kernel) (by decide +kernel), gw_in (by decide +kernel) (by decide +kernel), ⟨by decide +kernel, by decide +kernel⟩, by decide +kernel, by decide⟩
theorem kX5_about : COK yX5_about cX5_about 3 (some .int) 2 := ⟨gw_in (by decide +kernel) (by decide +kernel), gw_in (by decide +kernel) (by decide +kernel), ⟨by decide +kernel, by decide +kernel⟩, by decide +kernel, by decide⟩
theorem kX5_as : COK yX5_as cX5_as 3 (some .int) 2 := ⟨gw_in (by decide +kernel) (by decide +kernel), gw_in (by decide +kernel) (by decide +kernel), ⟨by decide +kernel, by decide +kernel⟩, by decide +kernel, by decide⟩
theorem kX5_bed : COK yX5_bed cX5_bed 1 (some .int) 0 := ⟨gw_in (by decide +kernel) (by decide +kernel), gw_in (by decide +kernel) (by decide +kernel), ⟨by decide +kernel, by decide +kernel⟩, by decide +kernel, by decide⟩
theorem kX5_coffee : COK yX5_coffee cX5_coffee 2 (some .int) 1 := ⟨gw_in (by decide +kernel) (by decide +kernel), gw_in (by decide +kernel) (by decide +kernel), ⟨by decide +kernel, by decide +kernel⟩, by decide +kernel, by decide⟩
theorem kX5_lecture : COK yX5_lecture cX5_lecture 2 (some .int) 1 := ⟨gw_in (by decide +kernel) (by decide +kernel), gw_in (by decide +kernel) (by decide +kernel), ⟨by decide +kernel, by decide +kernel⟩, by decide +kernel, by decide⟩
theorem kX5_hour : COK yX5_hour cX5_hour 1 (some .int) 0 := ⟨gw_in (by decide +kernel) (by decide +kernel), gw_in (by decide +kernel) (by decide +kernel), ⟨by decide +kernel, by decide +kernel⟩, by decide +kernel, by decide⟩
theorem kX5_cups : COK yX5_cups cX5_cups 3 (some .int) 2 := ⟨gw_in (by decide +kernel) (by decide +kernel), gw_in (by decide +kernel) (by decide +kernel), ⟨by decide +kernel, by decide +kernel⟩, by decide +kernel, by decide⟩
theorem kX5_lectures : COK yX5_lectures cX5_lectures 4 (some .int) 3 := ⟨gw_in (by decide +kernel) (by decide +kernel), gw_in (by decide +kernel) (by decide +kernel), ⟨by decide +kernel, by decide +kernel⟩, by decide +kernel, by decide⟩
theorem kX5_sunday : COK yX5_sunday cX5_sunday 3 (some .int) 1 := ⟨gw_in (by decide +kernel) (by decide +kernel), gw_in (by decide +kernel) (by decide +kernel), ⟨by decide +kernel, by decide +kernel⟩, by decide +kernel, by decide⟩
theorem kX5_see : COK yX5_see cX5_see 3 (some .int) 2 := ⟨gw_in (by decide +kernel) (by decide +kernel), gw_in (by decide +kernel) (by decide +kernel), ⟨by decide +kernel, by decide +kernel⟩, by decide +kernel, by decide⟩
theorem kX5_forget : COK yX5_forget cX5_forget 1 (some .int) 0 := ⟨gw_in (by decide +kernel) (by decide +kernel), gw_in (by decide +kernel) (by decide +kernel), ⟨by decide +kernel, by decide +kernel⟩, by decide +kernel, by decide⟩
theorem kX5_nights : COK yX5_nights cX5_nights 7 (some .int) 3 := ⟨gw_in (by decide +kernel) (by decide +kernel), gw_in (by decide +kernel) (by decide +kernel), ⟨by decide +kernel, by decide +kernel⟩, by decide +kernel, by decide⟩
theorem kX5_image : COK yX5_image cX5_image 1 (some .int) 0 := ⟨gw_in (by decide +kernel) (by decide +kernel), gw_in (by decide +kernel) (by decide +kernel), ⟨by decide +kernel, by decide +kernel⟩, by decide +kernel, by decide⟩
theorem kX5_restore : COK yX5_restore cX5_restore 1 (some .int) 0 := ⟨gw_in (by decide +kernel) (by decide +kernel), gw_in (by decide +kernel) (by decide +kernel), ⟨by decide +kernel, by decide +kernel⟩, by decide +kernel, by decide⟩
theorem kX5_count : COK yX5_count cX5_count 2 (some .int) 1 := ⟨gw_in (by decide +kernel) (by decide +kernel), gw_in (by decide +kernel) (by decide +kernel), ⟨by decide +kernel, by decide +kernel⟩, by decide +kernel, by decide⟩
theorem kX5_digest : COK yX5_digest cX5_digest 5 (some .long) 0 := ⟨gw_in (by decide +kernel) (by decide +kernel), gw_in (by decide +kernel) (by decide +kernel), ⟨by decide +kernel, by decide +kernel⟩, by decide +kernel, by decide⟩
theorem kX5_hasHouse : COK yX5_hasHouse cX5_hasHouse 1 (some .boolean) 0 := ⟨gw_in (by decide +kernel) (by decide +kernel), gw_in (by decide +kernel) (by decide +kernel), ⟨by decide +kernel, by decide +kernel⟩, by decide +kernel, by decide⟩
theorem kX5_fewestCups : COK yX5_fewestCups cX5_fewestCups 5 (some .int) 2 := ⟨gw_in (by decide +kernel) (by decide +kernel), gw_in (by decide +kernel) (by decide +kernel), ⟨by decide +kernel, by decide +kernel⟩, by decide +kernel, by decide⟩
theorem kX5_isWithin : COK yX5_isWithin cX5_isWithin 3 (some .boolean) 3 := ⟨gw_in (by decide +kernel) (by decide +kernel), gw_in (by decide +kernel) (by decide +kernel), ⟨by decide +kernel, by decide +kernel⟩, by decide +kernel, by decide⟩
theorem kX5_mixed : COK yX5_mixed cX5_mixed 4 (some .long) 2 := ⟨gw_in (by decide +kernel) (by decide +kernel), gw_in (by decide +kernel) (by decide +kernel), ⟨by decide +kernel, by decide +kernel⟩, by decide +kernel, by decide⟩
theorem kX5_nextSeed : COK yX5_nextSeed cX5_nextSeed 1 (some .int) 1 := ⟨gw_in (by decide +kernel) (by decide +kernel), gw_in (by decide +kernel) (by decide +kernel), ⟨by decide +kernel, by decide +kernel⟩, by decide +kernel, by decide⟩
theorem kX5_drawOf : COK yX5_drawOf cX5_drawOf 2 (some .int) 2 := ⟨gw_in (by decide +kernel) (by decide +kernel), gw_in (by decide +kernel) (by decide +kernel), ⟨by decide +kernel, by decide +kernel⟩, by decide +kernel, by decide⟩
theorem kX5_kindByLetter : COK yX5_kindByLetter cX5_kindByLetter 1 (some .int) 1 := ⟨gw_in (by decide +kernel) (by decide +kernel), gw_in (by decide +kernel) (by decide +kernel), ⟨by decide +kernel, by decide +kernel⟩, by decide +kernel, by decide⟩
theorem kX5_isAlso : COK yX5_isAlso cX5_isAlso 2 (some .boolean) 2 := ⟨gw_in (by decide +kernel) (by decide +kernel), gw_in (by decide +kernel) (by decide +kernel), ⟨by decide +kernel, by decide +kernel⟩, by decide +kernel, by decide⟩
theorem kX5_tiredByHour : COK yX5_tiredByHour cX5_tiredByHour 5 (some .int) 4 := ⟨gw_in (by decide +kernel) (by decide +kernel), gw_in (by decide +kernel) (by decide +kernel), ⟨by decide +kernel, by decide +kernel⟩, by decide +kernel, by decide⟩
theorem kX6_init : COK yX6_init cX6_init 1 none 0 := ⟨gw_in (by decide +kernel) (by decide +kernel), gw_in (by decide +kernel) (by decide +kernel), ⟨by decide +kernel, by decide +kernel⟩, by decide +kernel, by decide⟩
theorem kX6_within : COK yX6_within cX6_within 3 (some .boolean) 3 := ⟨gw_in (by decide +kernel) (by decide +kernel), gw_in (by decide +kernel) (by decide +kernel), ⟨by decide +kernel, by decide +kernel⟩, by decide +kernel, by decide⟩
theorem kX6_isIn : COK yX6_isIn cX6_isIn 2 (some .boolean) 2 := ⟨gw_in (by decide +kernel) (by decide +kernel), gw_in (by decide +kernel) (by decide +kernel), ⟨by decide +kernel, by decide +kernel⟩, by decide +kernel, by decide⟩
theorem kX6_letter : COK yX6_letter cX6_letter 2 (some .int) 1 := ⟨gw_in (by decide +kernel) (by decide +kernel), gw_in (by decide +kernel) (by decide +kernel), ⟨by decide +kernel, by decide +kernel⟩, by decide +kernel, by decide⟩
theorem kX6_blank : COK yX6_blank cX6_blank 2 (some .int) 0 := ⟨gw_in (by decide +kernel) (by decide +kernel), gw_in (by decide +kernel) (by decide +kernel), ⟨by decide +kernel, by decide +kernel⟩, by decide +kernel, by decide⟩
theorem kX6_kindBy : COK yX6_kindBy cX6_kindBy 1 (some .int) 1 := ⟨gw_in (by decide +kernel) (by decide +kernel), gw_in (by decide +kernel) (by decide +kernel), ⟨by decide +kernel, by decide +kernel⟩, by decide +kernel, by decide⟩
theorem kX6_isFigure : COK yX6_isFigure cX6_isFigure 4 (some .boolean) 3 := ⟨gw_in (by decide +kernel) (by decide +kernel), gw_in (by decide +kernel) (by decide +kernel), ⟨by decide +kernel, by decide +kernel⟩, by decide +kernel, by decide⟩
theorem kX6_read : COK yX6_read cX6_read 2 (some .int) 0 := ⟨gw_in (by decide +kernel) (by decide +kernel), gw_in (by decide +kernel) (by decide +kernel), ⟨by decide +kernel, by decide +kernel⟩, by decide +kernel, by decide⟩
theorem kX6_fault : COK yX6_fault cX6_fault 1 (some .int) 0 := ⟨gw_in (by decide +kernel) (by decide +kernel), gw_in (by decide +kernel) (by decide +kernel), ⟨by decide +kernel, by decide +kernel⟩, by decide +kernel, by decide⟩
theorem kX6_house : COK yX6_house cX6_house 3 (some .int) 0 := ⟨gw_in (by decide +kernel) (by decide +kernel), gw_in (by decide +kernel) (by decide +kernel), ⟨by decide +kernel, by decide +kernel⟩, by decide +kernel, by decide⟩
theorem kX6_isLodger : COK yX6_isLodger cX6_isLodger 2 (some .boolean) 1 := ⟨gw_in (by decide +kernel) (by decide +kernel), gw_in (by decide +kernel) (by decide +kernel), ⟨by decide +kernel, by decide +kernel⟩, by decide +kernel, by decide⟩
theorem kX6_whose : COK yX6_whose cX6_whose 4 (some .int) 0 := ⟨gw_in (by decide +kernel) (by decide +kernel), gw_in (by decide +kernel) (by decide +kernel), ⟨by decide +kernel, by decide +kernel⟩, by decide +kernel, by decide⟩
theorem kX6_more : COK yX6_more cX6_more 4 (some .int) 4 := ⟨gw_in (by decide +kernel) (by decide +kernel), gw_in (by decide +kernel) (by decide +kernel), ⟨by decide +kernel, by decide +kernel⟩, by decide +kernel, by decide⟩
theorem kX6_goHour : COK yX6_goHour cX6_goHour 4 none 0 := ⟨gw_in (by decide +kernel) (by decide +kernel), gw_in (by decide +kernel) (by decide +kernel), ⟨by decide +kernel, by decide +kernel⟩, by decide +kernel, by decide⟩
theorem kX6_sleeping : COK yX6_sleeping cX6_sleeping 3 (some .int) 0 := ⟨gw_in (by decide +kernel) (by decide +kernel), gw_in (by decide +kernel) (by decide +kernel), ⟨by decide +kernel, by decide +kernel⟩, by decide +kernel, by decide⟩
theorem kX6_drink : COK yX6_drink cX6_drink 2 none 1 := ⟨gw_in (by decide +kernel) (by decide +kernel), gw_in (by decide +kernel) (by decide +kernel), ⟨by decide +kernel, by decide +kernel⟩, by decide +kernel, by decide⟩
theorem kX6_hearLecture : COK yX6_hearLecture cX6_hearLecture 2 none 1 := ⟨gw_in (by decide +kernel) (by decide +kernel), gw_in (by decide +kernel) (by decide +kernel), ⟨by decide +kernel, by decide +kernel⟩, by decide +kernel, by decide⟩
theorem kX6_save : COK yX6_save cX6_save 3 none 1 := ⟨gw_in (by decide +kernel) (by decide +kernel), gw_in (by decide +kernel) (by decide +kernel), ⟨by decide +kernel, by decide +kernel⟩, by decide +kernel, by decide⟩
theorem kX6_load : COK yX6_load cX6_load 3 none 1 := ⟨gw_in (by decide +kernel) (by decide +kernel), gw_in (by decide +kernel) (by decide +kernel), ⟨by decide +kernel, by decide +kernel⟩, by decide +kernel, by decide⟩
theorem kX6_begin : COK yX6_begin cX6_begin 2 none 0 := ⟨gw_in (by decide +kernel) (by decide +kernel), gw_in (by decide +kernel) (by decide +kernel), ⟨by decide +kernel, by decide +kernel⟩, by decide +kernel, by decide⟩
theorem kX6_end : COK yX6_end cX6_end 2 none 0 := ⟨gw_in (by decide +kernel) (by decide +kernel), gw_in (by decide +kernel) (by decide +kernel), ⟨by decide +kernel, by decide +kernel⟩, by decide +kernel, by decide⟩
theorem kX6_lodgerNow : COK yX6_lodgerNow cX6_lodgerNow 3 (some .int) 2 := ⟨gw_in (by decide +kernel) (by decide +kernel), gw_in (by decide +kernel) (by decide +kernel), ⟨by decide +kernel, by decide +kernel⟩, by decide +kernel, by decide⟩
theorem kX6_about : COK yX6_about cX6_about 3 (some .int) 2 := ⟨gw_in (by decide +kernel) (by decide +kernel), gw_in (by decide +kernel) (by decide +kernel), ⟨by decide +kernel, by decide +kernel⟩, by decide +kernel, by decide⟩
theorem kX6_as : COK yX6_as cX6_as 4 (some .int) 2 := ⟨gw_in (by decide +kernel) (by decide +kernel), gw_in (by decide +kernel) (by decide +kernel), ⟨by decide +kernel, by decide +kernel⟩, by decide +kernel, by decide⟩
theorem kX6_bed : COK yX6_bed cX6_bed 1 (some .int) 0 := ⟨gw_in (by decide +kernel) (by decide +kernel), gw_in (by decide +kernel) (by decide +kernel), ⟨by decide +kernel, by decide +kernel⟩, by decide +kernel, by decide⟩
theorem kX6_coffee : COK yX6_coffee cX6_coffee 2 (some .int) 1 := ⟨gw_in (by decide +kernel) (by decide +kernel), gw_in (by decide +kernel) (by decide +kernel), ⟨by decide +kernel, by decide +kernel⟩, by decide +kernel, by decide⟩
theorem kX6_lecture : COK yX6_lecture cX6_lecture 2 (some .int) 1 := ⟨gw_in (by decide +kernel) (by decide +kernel), gw_in (by decide +kernel) (by decide +kernel), ⟨by decide +kernel, by decide +kernel⟩, by decide +kernel, by decide⟩
theorem kX6_hour : COK yX6_hour cX6_hour 1 (some .int) 0 := ⟨gw_in (by decide +kernel) (by decide +kernel), gw_in (by decide +kernel) (by decide +kernel), ⟨by decide +kernel, by decide +kernel⟩, by decide +kernel, by decide⟩
theorem kX6_isEnough : COK yX6_isEnough cX6_isEnough 6 (some .boolean) 3 := ⟨gw_in (by decide +kernel) (by decide +kernel), gw_in (by decide +kernel) (by decide +kernel), ⟨by decide +kernel, by decide +kernel⟩, by decide +kernel, by decide⟩
theorem kX6_cupsNow : COK yX6_cupsNow cX6_cupsNow 4 (some .int) 2 := ⟨gw_in (by decide +kernel) (by decide +kernel), gw_in (by decide +kernel) (by decide +kernel), ⟨by decide +kernel, by decide +kernel⟩, by decide +kernel, by decide⟩
theorem kX6_cups : COK yX6_cups cX6_cups 3 (some .int) 2 := ⟨gw_in (by decide +kernel) (by decide +kernel), gw_in (by decide +kernel) (by decide +kernel), ⟨by decide +kernel, by decide +kernel⟩, by decide +kernel, by decide⟩
theorem kX6_hoursBy : COK yX6_hoursBy cX6_hoursBy 10 (some .int) 3 := ⟨gw_in (by decide +kernel) (by decide +kernel), gw_in (by decide +kernel) (by decide +kernel), ⟨by decide +kernel, by decide +kernel⟩, by decide +kernel, by decide⟩
theorem kX6_lecturesNow : COK yX6_lecturesNow cX6_lecturesNow 9 (some .int) 3 := ⟨gw_in (by decide +kernel) (by decide +kernel), gw_in (by decide +kernel) (by decide +kernel), ⟨by decide +kernel, by decide +kernel⟩, by decide +kernel, by decide⟩
theorem kX6_lectures : COK yX6_lectures cX6_lectures 4 (some .int) 3 := ⟨gw_in (by decide +kernel) (by decide +kernel), gw_in (by decide +kernel) (by decide +kernel), ⟨by decide +kernel, by decide +kernel⟩, by decide +kernel, by decide⟩
theorem kX6_mayLie : COK yX6_mayLie cX6_mayLie 2 (some .boolean) 1 := ⟨gw_in (by decide +kernel) (by decide +kernel), gw_in (by decide +kernel) (by decide +kernel), ⟨by decide +kernel, by decide +kernel⟩, by decide +kernel, by decide⟩
theorem kX6_awakeFor : COK yX6_awakeFor cX6_awakeFor 6 (some .int) 2 := ⟨gw_in (by decide +kernel) (by decide +kernel), gw_in (by decide +kernel) (by decide +kernel), ⟨by decide +kernel, by decide +kernel⟩, by decide +kernel, by decide⟩
theorem kX6_sundayNow : COK yX6_sundayNow cX6_sundayNow 8 (some .int) 1 := ⟨gw_in (by decide +kernel) (by decide +kernel), gw_in (by decide +kernel) (by decide +kernel), ⟨by decide +kernel, by decide +kernel⟩, by decide +kernel, by decide⟩
theorem kX6_sunday : COK yX6_sunday cX6_sunday 2 (some .int) 1 := ⟨gw_in (by decide +kernel) (by decide +kernel), gw_in (by decide +kernel) (by decide +kernel), ⟨by decide +kernel, by decide +kernel⟩, by decide +kernel, by decide⟩
theorem kX6_see : COK yX6_see cX6_see 3 (some .int) 2 := ⟨gw_in (by decide +kernel) (by decide +kernel), gw_in (by decide +kernel) (by decide +kernel), ⟨by decide +kernel, by decide +kernel⟩, by decide +kernel, by decide⟩
theorem kX6_forget : COK yX6_forget cX6_forget 2 (some .int) 0 := ⟨gw_in (by decide +kernel) (by decide +kernel), gw_in (by decide +kernel) (by decide +kernel), ⟨by decide +kernel, by decide +kernel⟩, by decide +kernel, by decide⟩
theorem kX6_layTired : COK yX6_layTired cX6_layTired 4 none 1 := ⟨gw_in (by decide +kernel) (by decide +kernel), gw_in (by decide +kernel) (by decide +kernel), ⟨by decide +kernel, by decide +kernel⟩, by decide +kernel, by decide⟩
theorem kX6_fitting : COK yX6_fitting cX6_fitting 5 (some .int) 0 := ⟨gw_in (by decide +kernel) (by decide +kernel), gw_in (by decide +kernel) (by decide +kernel), ⟨by decide +kernel, by decide +kernel⟩, by decide +kernel, by decide⟩
theorem kX6_howTired : COK yX6_howTired cX6_howTired 2 (some .int) 1 := ⟨gw_in (by decide +kernel) (by decide +kernel), gw_in (by decide +kernel) (by decide +kernel), ⟨by decide +kernel, by decide +kernel⟩, by decide +kernel, by decide⟩
theorem kX6_worstBehind : COK yX6_worstBehind cX6_worstBehind 7 (some .int) 2 := ⟨gw_in (by decide +kernel) (by decide +kernel), gw_in (by decide +kernel) (by decide +kernel), ⟨by decide +kernel, by decide +kernel⟩, by decide +kernel, by decide⟩
theorem kX6_lookOf : COK yX6_lookOf cX6_lookOf 7 (some .int) 1 := ⟨gw_in (by decide +kernel) (by decide +kernel), gw_in (by decide +kernel) (by decide +kernel), ⟨by decide +kernel, by decide +kernel⟩, by decide +kernel, by decide⟩
theorem kX6_draw : COK yX6_draw cX6_draw 2 (some .int) 1 := ⟨gw_in (by decide +kernel) (by decide +kernel), gw_in (by decide +kernel) (by decide +kernel), ⟨by decide +kernel, by decide +kernel⟩, by decide +kernel, by decide⟩
theorem kX6_nightsNow : COK yX6_nightsNow cX6_nightsNow 6 (some .int) 3 := ⟨gw_in (by decide +kernel) (by decide +kernel), gw_in (by decide +kernel) (by decide +kernel), ⟨by decide +kernel, by decide +kernel⟩, by decide +kernel, by decide⟩
theorem kX6_nights : COK yX6_nights cX6_nights 4 (some .int) 3 := ⟨gw_in (by decide +kernel) (by decide +kernel), gw_in (by decide +kernel) (by decide +kernel), ⟨by decide +kernel, by decide +kernel⟩, by decide +kernel, by decide⟩
theorem kX6_image : COK yX6_image cX6_image 2 (some .int) 0 := ⟨gw_in (by decide +kernel) (by decide +kernel), gw_in (by decide +kernel) (by decide +kernel), ⟨by decide +kernel, by decide +kernel⟩, by decide +kernel, by decide⟩
theorem kX6_restore : COK yX6_restore cX6_restore 2 (some .int) 0 := ⟨gw_in (by decide +kernel) (by decide +kernel), gw_in (by decide +kernel) (by decide +kernel), ⟨by decide +kernel, by decide +kernel⟩, by decide +kernel, by decide⟩
theorem kX6_tiredAll : COK yX6_tiredAll cX6_tiredAll 3 (some .int) 0 := ⟨gw_in (by decide +kernel) (by decide +kernel), gw_in (by decide +kernel) (by decide +kernel), ⟨by decide +kernel, by decide +kernel⟩, by decide +kernel, by decide⟩
theorem kX6_howMany : COK yX6_howMany cX6_howMany 2 (some .int) 1 := ⟨gw_in (by decide +kernel) (by decide +kernel), gw_in (by decide +kernel) (by decide +kernel), ⟨by decide +kernel, by decide +kernel⟩, by decide +kernel, by decide⟩
theorem kX6_count : COK yX6_count cX6_count 2 (some .int) 1 := ⟨gw_in (by decide +kernel) (by decide +kernel), gw_in (by decide +kernel) (by decide +kernel), ⟨by decide +kernel, by decide +kernel⟩, by decide +kernel, by decide⟩
theorem kX6_mix : COK yX6_mix cX6_mix 3 none 1 := ⟨gw_in (by decide +kernel) (by decide +kernel), gw_in (by decide +kernel) (by decide +kernel), ⟨by decide +kernel, by decide +kernel⟩, by decide +kernel, by decide⟩
theorem kX6_digest : COK yX6_digest cX6_digest 3 (some .long) 0 := ⟨gw_in (by decide +kernel) (by decide +kernel), gw_in (by decide +kernel) (by decide +kernel), ⟨by decide +kernel, by decide +kernel⟩, by decide +kernel, by decide⟩
theorem iL_9 : IOK RL 9 yX5_init := ⟨gw_in (by decide +kernel) (by decide +kernel), gw_in (by decide +kernel) (by decide +kernel), rfl⟩
theorem iL_12 : IOK RL 12 yX6_init := ⟨gw_in (by decide +kernel) (by decide +kernel), gw_in (by decide +kernel) (by decide +kernel), rfl⟩
theorem vL_13 : VOK RL 13 yX5_letter := ⟨gw_in (by decide +kernel) (by decide +kernel), gw_in (by decide +kernel) (by decide +kernel), gw_in (by decide +kernel) (by decide +kernel)⟩
theorem vL_17 : VOK RL 17 yX6_letter := ⟨gw_in (by decide +kernel) (by decide +kernel), gw_in (by decide +kernel) (by decide +kernel), gw_in (by decide +kernel) (by decide +kernel)⟩
theorem vL_18 : VOK RL 18 yX5_blank := ⟨gw_in (by decide +kernel) (by decide +kernel), gw_in (by decide +kernel) (by decide +kernel), gw_in (by decide +kernel) (by decide +kernel)⟩
theorem vL_22 : VOK RL 22 yX6_blank := ⟨gw_in (by decide +kernel) (by decide +kernel), gw_in (by decide +kernel) (by decide +kernel), gw_in (by decide +kernel) (by decide +kernel)⟩
theorem vL_23 : VOK RL 23 yX5_fault := ⟨gw_in (by decide +kernel) (by decide +kernel), gw_in (by decide +kernel) (by decide +kernel), gw_in (by decide +kernel) (by decide +kernel)⟩
theorem vL_26 : VOK RL 26 yX6_fault := ⟨gw_in (by decide +kernel) (by decide +kernel), gw_in (by decide +kernel) (by decide +kernel), gw_in (by decide +kernel) (by decide +kernel)⟩
theorem vL_27 : VOK RL 27 yX5_house := ⟨gw_in (by decide +kernel) (by decide +kernel), gw_in (by decide +kernel) (by decide +kernel), gw_in (by decide +kernel) (by decide +kernel)⟩
theorem vL_30 : VOK RL 30 yX6_house := ⟨gw_in (by decide +kernel) (by decide +kernel), gw_in (by decide +kernel) (by decide +kernel), gw_in (by decide +kernel) (by decide +kernel)⟩
theorem vL_31 : VOK RL 31 yX5_about := ⟨gw_in (by decide +kernel) (by decide +kernel), gw_in (by decide +kernel) (by decide +kernel), gw_in (by decide +kernel) (by decide +kernel)⟩
theorem vL_35 : VOK RL 35 yX6_about := ⟨gw_in (by decide +kernel) (by decide +kernel), gw_in (by decide +kernel) (by decide +kernel), gw_in (by decide +kernel) (by decide +kernel)⟩
theorem vL_36 : VOK RL 36 yX5_as := ⟨gw_in (by decide +kernel) (by decide +kernel), gw_in (by decide +kernel) (by decide +kernel), gw_in (by decide +kernel) (by decide +kernel)⟩
theorem vL_39 : VOK RL 39 yX6_as := ⟨gw_in (by decide +kernel) (by decide +kernel), gw_in (by decide +kernel) (by decide +kernel), gw_in (by decide +kernel) (by decide +kernel)⟩
theorem vL_40 : VOK RL 40 yX5_bed := ⟨gw_in (by decide +kernel) (by decide +kernel), gw_in (by decide +kernel) (by decide +kernel), gw_in (by decide +kernel) (by decide +kernel)⟩
theorem vL_43 : VOK RL 43 yX6_bed := ⟨gw_in (by decide +kernel) (by decide +kernel), gw_in (by decide +kernel) (by decide +kernel), gw_in (by decide +kernel) (by decide +kernel)⟩
theorem vL_44 : VOK RL 44 yX5_coffee := ⟨gw_in (by decide +kernel) (by decide +kernel), gw_in (by decide +kernel) (by decide +kernel), gw_in (by decide +kernel) (by decide +kernel)⟩
theorem vL_47 : VOK RL 47 yX6_coffee := ⟨gw_in (by decide +kernel) (by decide +kernel), gw_in (by decide +kernel) (by decide +kernel), gw_in (by decide +kernel) (by decide +kernel)⟩
theorem vL_48 : VOK RL 48 yX5_lecture := ⟨gw_in (by decide +kernel) (by decide +kernel), gw_in (by decide +kernel) (by decide +kernel), gw_in (by decide +kernel) (by decide +kernel)⟩
theorem vL_51 : VOK RL 51 yX6_lecture := ⟨gw_in (by decide +kernel) (by decide +kernel), gw_in (by decide +kernel) (by decide +kernel), gw_in (by decide +kernel) (by decide +kernel)⟩
theorem vL_52 : VOK RL 52 yX5_hour := ⟨gw_in (by decide +kernel) (by decide +kernel), gw_in (by decide +kernel) (by decide +kernel), gw_in (by decide +kernel) (by decide +kernel)⟩
theorem vL_55 : VOK RL 55 yX6_hour := ⟨gw_in (by decide +kernel) (by decide +kernel), gw_in (by decide +kernel) (by decide +kernel), gw_in (by decide +kernel) (by decide +kernel)⟩
theorem vL_56 : VOK RL 56 yX5_cups := ⟨gw_in (by decide +kernel) (by decide +kernel), gw_in (by decide +kernel) (by decide +kernel), gw_in (by decide +kernel) (by decide +kernel)⟩
theorem vL_59 : VOK RL 59 yX6_cups := ⟨gw_in (by decide +kernel) (by decide +kernel), gw_in (by decide +kernel) (by decide +kernel), gw_in (by decide +kernel) (by decide +kernel)⟩
theorem vL_60 : VOK RL 60 yX5_lectures := ⟨gw_in (by decide +kernel) (by decide +kernel), gw_in (by decide +kernel) (by decide +kernel), gw_in (by decide +kernel) (by decide +kernel)⟩
theorem vL_64 : VOK RL 64 yX6_lectures := ⟨gw_in (by decide +kernel) (by decide +kernel), gw_in (by decide +kernel) (by decide +kernel), gw_in (by decide +kernel) (by decide +kernel)⟩
theorem vL_65 : VOK RL 65 yX5_sunday := ⟨gw_in (by decide +kernel) (by decide +kernel), gw_in (by decide +kernel) (by decide +kernel), gw_in (by decide +kernel) (by decide +kernel)⟩
theorem vL_68 : VOK RL 68 yX6_sunday := ⟨gw_in (by decide +kernel) (by decide +kernel), gw_in (by decide +kernel) (by decide +kernel), gw_in (by decide +kernel) (by decide +kernel)⟩
theorem vL_69 : VOK RL 69 yX5_see := ⟨gw_in (by decide +kernel) (by decide +kernel), gw_in (by decide +kernel) (by decide +kernel), gw_in (by decide +kernel) (by decide +kernel)⟩
theorem vL_72 : VOK RL 72 yX6_see := ⟨gw_in (by decide +kernel) (by decide +kernel), gw_in (by decide +kernel) (by decide +kernel), gw_in (by decide +kernel) (by decide +kernel)⟩
theorem vL_73 : VOK RL 73 yX5_forget := ⟨gw_in (by decide +kernel) (by decide +kernel), gw_in (by decide +kernel) (by decide +kernel), gw_in (by decide +kernel) (by decide +kernel)⟩
theorem vL_76 : VOK RL 76 yX6_forget := ⟨gw_in (by decide +kernel) (by decide +kernel), gw_in (by decide +kernel) (by decide +kernel), gw_in (by decide +kernel) (by decide +kernel)⟩
theorem vL_77 : VOK RL 77 yX5_nights := ⟨gw_in (by decide +kernel) (by decide +kernel), gw_in (by decide +kernel) (by decide +kernel), gw_in (by decide +kernel) (by decide +kernel)⟩
theorem vL_80 : VOK RL 80 yX6_nights := ⟨gw_in (by decide +kernel) (by decide +kernel), gw_in (by decide +kernel) (by decide +kernel), gw_in (by decide +kernel) (by decide +kernel)⟩
theorem vL_81 : VOK RL 81 yX5_image := ⟨gw_in (by decide +kernel) (by decide +kernel), gw_in (by decide +kernel) (by decide +kernel), gw_in (by decide +kernel) (by decide +kernel)⟩
theorem vL_84 : VOK RL 84 yX6_image := ⟨gw_in (by decide +kernel) (by decide +kernel), gw_in (by decide +kernel) (by decide +kernel), gw_in (by decide +kernel) (by decide +kernel)⟩
theorem vL_85 : VOK RL 85 yX5_restore := ⟨gw_in (by decide +kernel) (by decide +kernel), gw_in (by decide +kernel) (by decide +kernel), gw_in (by decide +kernel) (by decide +kernel)⟩
theorem vL_88 : VOK RL 88 yX6_restore := ⟨gw_in (by decide +kernel) (by decide +kernel), gw_in (by decide +kernel) (by decide +kernel), gw_in (by decide +kernel) (by decide +kernel)⟩
theorem vL_89 : VOK RL 89 yX5_count := ⟨gw_in (by decide +kernel) (by decide +kernel), gw_in (by decide +kernel) (by decide +kernel), gw_in (by decide +kernel) (by decide +kernel)⟩
theorem vL_92 : VOK RL 92 yX6_count := ⟨gw_in (by decide +kernel) (by decide +kernel), gw_in (by decide +kernel) (by decide +kernel), gw_in (by decide +kernel) (by decide +kernel)⟩
theorem vL_93 : VOK RL 93 yX5_digest := ⟨gw_in (by decide +kernel) (by decide +kernel), gw_in (by decide +kernel) (by decide +kernel), gw_in (by decide +kernel) (by decide +kernel)⟩
theorem vL_97 : VOK RL 97 yX6_digest := ⟨gw_in (by decide +kernel) (by decide +kernel), gw_in (by decide +kernel) (by decide +kernel), gw_in (by decide +kernel) (by decide +kernel)⟩
theorem iX0_11 : IOK RX0 11 yX2_init := ⟨gw_in (by decide +kernel) (by decide +kernel), gw_in (by decide +kernel) (by decide +kernel), rfl⟩
theorem vX0_30 : VOK RX0 30 yX2_lodgers := ⟨gw_in (by decide +kernel) (by decide +kernel), gw_in (by decide +kernel) (by decide +kernel), gw_in (by decide +kernel) (by decide +kernel)⟩
theorem vX0_33 : VOK RX0 33 yX2_copyFrom := ⟨gw_in (by decide +kernel) (by decide +kernel), gw_in (by decide +kernel) (by decide +kernel), gw_in (by decide +kernel) (by decide +kernel)⟩
theorem vX0_37 : VOK RX0 37 yX2_wakeAs := ⟨gw_in (by decide +kernel) (by decide +kernel), gw_in (by decide +kernel) (by decide +kernel), gw_in (by decide +kernel) (by decide +kernel)⟩
theorem vX0_41 : VOK RX0 41 yX0_isAsSeen := ⟨gw_in (by decide +kernel) (by decide +kernel), gw_in (by decide +kernel) (by decide +kernel), gw_in (by decide +kernel) (by decide +kernel)⟩
theorem vX0_45 : VOK RX0 45 yX0_leftAtWorst := ⟨gw_in (by decide +kernel) (by decide +kernel), gw_in (by decide +kernel) (by decide +kernel), gw_in (by decide +kernel) (by decide +kernel)⟩
theorem vX0_49 : VOK RX0 49 yX2_passHour := ⟨gw_in (by decide +kernel) (by decide +kernel), gw_in (by decide +kernel) (by decide +kernel), gw_in (by decide +kernel) (by decide +kernel)⟩
theorem vX0_52 : VOK RX0 52 yX2_whoseBed := ⟨gw_in (by decide +kernel) (by decide +kernel), gw_in (by decide +kernel) (by decide +kernel), gw_in (by decide +kernel) (by decide +kernel)⟩
theorem vX0_55 : VOK RX0 55 yX4_allows := ⟨gw_in (by decide +kernel) (by decide +kernel), gw_in (by decide +kernel) (by decide +kernel), gw_in (by decide +kernel) (by decide +kernel)⟩
theorem vX0_61 : VOK RX0 61 yX0_leftBy := ⟨gw_in (by decide +kernel) (by decide +kernel), gw_in (by decide +kernel) (by decide +kernel), gw_in (by decide +kernel) (by decide +kernel)⟩
theorem iX1_17 : IOK RX1 17 yX2_init := ⟨gw_in (by decide +kernel) (by decide +kernel), gw_in (by decide +kernel) (by decide +kernel), rfl⟩
theorem vX1_31 : VOK RX1 31 yX1_most := ⟨gw_in (by decide +kernel) (by decide +kernel), gw_in (by decide +kernel) (by decide +kernel), gw_in (by decide +kernel) (by decide +kernel)⟩
theorem vX1_35 : VOK RX1 35 yX2_lodgers := ⟨gw_in (by decide +kernel) (by decide +kernel), gw_in (by decide +kernel) (by decide +kernel), gw_in (by decide +kernel) (by decide +kernel)⟩
theorem vX1_39 : VOK RX1 39 yX2_copyFrom := ⟨gw_in (by decide +kernel) (by decide +kernel), gw_in (by decide +kernel) (by decide +kernel), gw_in (by decide +kernel) (by decide +kernel)⟩
theorem vX1_43 : VOK RX1 43 yX2_giveLecture := ⟨gw_in (by decide +kernel) (by decide +kernel), gw_in (by decide +kernel) (by decide +kernel), gw_in (by decide +kernel) (by decide +kernel)⟩
theorem vX1_47 : VOK RX1 47 yX2_whoseBed := ⟨gw_in (by decide +kernel) (by decide +kernel), gw_in (by decide +kernel) (by decide +kernel), gw_in (by decide +kernel) (by decide +kernel)⟩
theorem vX1_50 : VOK RX1 50 yX2_passHour := ⟨gw_in (by decide +kernel) (by decide +kernel), gw_in (by decide +kernel) (by decide +kernel), gw_in (by decide +kernel) (by decide +kernel)⟩
theorem vX2_35 : VOK RX2 35 yX3_lodgers := ⟨gw_in (by decide +kernel) (by decide +kernel), gw_in (by decide +kernel) (by decide +kernel), gw_in (by decide +kernel) (by decide +kernel)⟩
theorem vX2_46 : VOK RX2 46 yX3_drowse := ⟨gw_in (by decide +kernel) (by decide +kernel), gw_in (by decide +kernel) (by decide +kernel), gw_in (by decide +kernel) (by decide +kernel)⟩
theorem vX2_48 : VOK RX2 48 yX3_kindOf := ⟨gw_in (by decide +kernel) (by decide +kernel), gw_in (by decide +kernel) (by decide +kernel), gw_in (by decide +kernel) (by decide +kernel)⟩
theorem vX2_52 : VOK RX2 52 yX3_tiredOf := ⟨gw_in (by decide +kernel) (by decide +kernel), gw_in (by decide +kernel) (by decide +kernel), gw_in (by decide +kernel) (by decide +kernel)⟩
theorem vX2_55 : VOK RX2 55 yX2_knows := ⟨gw_in (by decide +kernel) (by decide +kernel), gw_in (by decide +kernel) (by decide +kernel), gw_in (by decide +kernel) (by decide +kernel)⟩
theorem vX2_59 : VOK RX2 59 yX2_mayLieIn := ⟨gw_in (by decide +kernel) (by decide +kernel), gw_in (by decide +kernel) (by decide +kernel), gw_in (by decide +kernel) (by decide +kernel)⟩
theorem vX2_65 : VOK RX2 65 yX2_settle := ⟨gw_in (by decide +kernel) (by decide +kernel), gw_in (by decide +kernel) (by decide +kernel), gw_in (by decide +kernel) (by decide +kernel)⟩
theorem vX2_69 : VOK RX2 69 yX2_whoseBed := ⟨gw_in (by decide +kernel) (by decide +kernel), gw_in (by decide +kernel) (by decide +kernel), gw_in (by decide +kernel) (by decide +kernel)⟩
theorem nX2_72 : NOK RX2 72 yX5_tiredByHour RX5 := ⟨fun _ _ h => h.2.2.2.1, gw_in (by decide +kernel) (by decide +kernel)⟩
theorem vX2_76 : VOK RX2 76 yX2_passHour := ⟨gw_in (by decide +kernel) (by decide +kernel), gw_in (by decide +kernel) (by decide +kernel), gw_in (by decide +kernel) (by decide +kernel)⟩
theorem vX2_79 : VOK RX2 79 yX2_hoursTogether := ⟨gw_in (by decide +kernel) (by decide +kernel), gw_in (by decide +kernel) (by decide +kernel), gw_in (by decide +kernel) (by decide +kernel)⟩
theorem vX2_82 : VOK RX2 82 yX2_hoursAwakeInBed := ⟨gw_in (by decide +kernel) (by decide +kernel), gw_in (by decide +kernel) (by decide +kernel), gw_in (by decide +kernel) (by decide +kernel)⟩
theorem vX2_85 : VOK RX2 85 yX2_kindOf := ⟨gw_in (by decide +kernel) (by decide +kernel), gw_in (by decide +kernel) (by decide +kernel), gw_in (by decide +kernel) (by decide +kernel)⟩
theorem vX2_86 : VOK RX2 86 yX2_tiredOf := ⟨gw_in (by decide +kernel) (by decide +kernel), gw_in (by decide +kernel) (by decide +kernel), gw_in (by decide +kernel) (by decide +kernel)⟩
theorem vX3_19 : VOK RX3 19 yX3_codeAt := ⟨gw_in (by decide +kernel) (by decide +kernel), gw_in (by decide +kernel) (by decide +kernel), gw_in (by decide +kernel) (by decide +kernel)⟩
theorem vX3_23 : VOK RX3 23 yX3_fits := ⟨gw_in (by decide +kernel) (by decide +kernel), gw_in (by decide +kernel) (by decide +kernel), gw_in (by decide +kernel) (by decide +kernel)⟩
theorem vX3_27 : VOK RX3 27 yX3_firstFault := ⟨gw_in (by decide +kernel) (by decide +kernel), gw_in (by decide +kernel) (by decide +kernel), gw_in (by decide +kernel) (by decide +kernel)⟩
theorem nX3_31 : NOK RX3 31 yX5_kindByLetter RX5 := ⟨fun _ _ h => h.2.2.1, gw_in (by decide +kernel) (by decide +kernel)⟩
theorem vX3_34 : VOK RX3 34 yX3_digitAt := ⟨gw_in (by decide +kernel) (by decide +kernel), gw_in (by decide +kernel) (by decide +kernel), gw_in (by decide +kernel) (by decide +kernel)⟩
theorem nX3_37 : NOK RX3 37 yX5_isWithin RX5 := ⟨fun _ _ h => h.2.1, gw_in (by decide +kernel) (by decide +kernel)⟩
theorem iX5_9 : IOK RX5 9 yX3_init := ⟨gw_in (by decide +kernel) (by decide +kernel), gw_in (by decide +kernel) (by decide +kernel), rfl⟩
theorem iX5_18 : IOK RX5 18 yX2_init := ⟨gw_in (by decide +kernel) (by decide +kernel), gw_in (by decide +kernel) (by decide +kernel), rfl⟩
theorem iX5_25 : IOK RX5 25 yX4_init := ⟨gw_in (by decide +kernel) (by decide +kernel), gw_in (by decide +kernel) (by decide +kernel), rfl⟩
theorem iX5_45 : IOK RX5 45 yX1_init := ⟨gw_in (by decide +kernel) (by decide +kernel), gw_in (by decide +kernel) (by decide +kernel), rfl⟩
theorem iX5_52 : IOK RX5 52 yX0_init := ⟨gw_in (by decide +kernel) (by decide +kernel), gw_in (by decide +kernel) (by decide +kernel), rfl⟩
theorem sX5_64 : SOK RX5 64 yX5_isWithin := ⟨gw_in (by decide +kernel) (by decide +kernel), gw_in (by decide +kernel) (by decide +kernel), rfl⟩
theorem vX5_68 : VOK RX5 68 yX3_length := ⟨gw_in (by decide +kernel) (by decide +kernel), gw_in (by decide +kernel) (by decide +kernel), gw_in (by decide +kernel) (by decide +kernel)⟩
theorem vX5_72 : VOK RX5 72 yX3_put := ⟨gw_in (by decide +kernel) (by decide +kernel), gw_in (by decide +kernel) (by decide +kernel), gw_in (by decide +kernel) (by decide +kernel)⟩
theorem vX5_76 : VOK RX5 76 yX3_empty := ⟨gw_in (by decide +kernel) (by decide +kernel), gw_in (by decide +kernel) (by decide +kernel), gw_in (by decide +kernel) (by decide +kernel)⟩
theorem vX5_79 : VOK RX5 79 yX3_firstFault := ⟨gw_in (by decide +kernel) (by decide +kernel), gw_in (by decide +kernel) (by decide +kernel), gw_in (by decide +kernel) (by decide +kernel)⟩
theorem vX5_82 : VOK RX5 82 yX3_isHouse := ⟨gw_in (by decide +kernel) (by decide +kernel), gw_in (by decide +kernel) (by decide +kernel), gw_in (by decide +kernel) (by decide +kernel)⟩
theorem vX5_86 : VOK RX5 86 yX2_begin := ⟨gw_in (by decide +kernel) (by decide +kernel), gw_in (by decide +kernel) (by decide +kernel), gw_in (by decide +kernel) (by decide +kernel)⟩
theorem vX5_90 : VOK RX5 90 yX4_empty := ⟨gw_in (by decide +kernel) (by decide +kernel), gw_in (by decide +kernel) (by decide +kernel), gw_in (by decide +kernel) (by decide +kernel)⟩
theorem vX5_91 : VOK RX5 91 yX2_lodgers := ⟨gw_in (by decide +kernel) (by decide +kernel), gw_in (by decide +kernel) (by decide +kernel), gw_in (by decide +kernel) (by decide +kernel)⟩
theorem vX5_94 : VOK RX5 94 yX2_knows := ⟨gw_in (by decide +kernel) (by decide +kernel), gw_in (by decide +kernel) (by decide +kernel), gw_in (by decide +kernel) (by decide +kernel)⟩
theorem vX5_98 : VOK RX5 98 yX2_kindOf := ⟨gw_in (by decide +kernel) (by decide +kernel), gw_in (by decide +kernel) (by decide +kernel), gw_in (by decide +kernel) (by decide +kernel)⟩
theorem vX5_101 : VOK RX5 101 yX2_tiredOf := ⟨gw_in (by decide +kernel) (by decide +kernel), gw_in (by decide +kernel) (by decide +kernel), gw_in (by decide +kernel) (by decide +kernel)⟩
theorem vX5_104 : VOK RX5 104 yX2_sleeps := ⟨gw_in (by decide +kernel) (by decide +kernel), gw_in (by decide +kernel) (by decide +kernel), gw_in (by decide +kernel) (by decide +kernel)⟩
theorem vX5_107 : VOK RX5 107 yX2_whoseBed := ⟨gw_in (by decide +kernel) (by decide +kernel), gw_in (by decide +kernel) (by decide +kernel), gw_in (by decide +kernel) (by decide +kernel)⟩
theorem vX5_110 : VOK RX5 110 yX2_bedHoursOf := ⟨gw_in (by decide +kernel) (by decide +kernel), gw_in (by decide +kernel) (by decide +kernel), gw_in (by decide +kernel) (by decide +kernel)⟩
theorem vX5_113 : VOK RX5 113 yX0_make := ⟨gw_in (by decide +kernel) (by decide +kernel), gw_in (by decide +kernel) (by decide +kernel), gw_in (by decide +kernel) (by decide +kernel)⟩
theorem vX5_117 : VOK RX5 117 yX0_possible := ⟨gw_in (by decide +kernel) (by decide +kernel), gw_in (by decide +kernel) (by decide +kernel), gw_in (by decide +kernel) (by decide +kernel)⟩
theorem vX5_120 : VOK RX5 120 yX0_bestLook := ⟨gw_in (by decide +kernel) (by decide +kernel), gw_in (by decide +kernel) (by decide +kernel), gw_in (by decide +kernel) (by decide +kernel)⟩
theorem sX5_123 : SOK RX5 123 yX5_isAlso := ⟨gw_in (by decide +kernel) (by decide +kernel), gw_in (by decide +kernel) (by decide +kernel), rfl⟩
theorem vX5_127 : VOK RX5 127 yX5_hasHouse := ⟨gw_in (by decide +kernel) (by decide +kernel), gw_in (by decide +kernel) (by decide +kernel), gw_in (by decide +kernel) (by decide +kernel)⟩
theorem vX5_130 : VOK RX5 130 yX2_giveCoffee := ⟨gw_in (by decide +kernel) (by decide +kernel), gw_in (by decide +kernel) (by decide +kernel), gw_in (by decide +kernel) (by decide +kernel)⟩
theorem vX5_134 : VOK RX5 134 yX2_giveLecture := ⟨gw_in (by decide +kernel) (by decide +kernel), gw_in (by decide +kernel) (by decide +kernel), gw_in (by decide +kernel) (by decide +kernel)⟩
theorem vX5_137 : VOK RX5 137 yX2_passHour := ⟨gw_in (by decide +kernel) (by decide +kernel), gw_in (by decide +kernel) (by decide +kernel), gw_in (by decide +kernel) (by decide +kernel)⟩
theorem vX5_140 : VOK RX5 140 yX2_sleepers := ⟨gw_in (by decide +kernel) (by decide +kernel), gw_in (by decide +kernel) (by decide +kernel), gw_in (by decide +kernel) (by decide +kernel)⟩
theorem vX5_143 : VOK RX5 143 yX5_fewestCups := ⟨gw_in (by decide +kernel) (by decide +kernel), gw_in (by decide +kernel) (by decide +kernel), gw_in (by decide +kernel) (by decide +kernel)⟩
theorem vX5_147 : VOK RX5 147 yX1_make := ⟨gw_in (by decide +kernel) (by decide +kernel), gw_in (by decide +kernel) (by decide +kernel), gw_in (by decide +kernel) (by decide +kernel)⟩
theorem vX5_150 : VOK RX5 150 yX1_hoursInBed := ⟨gw_in (by decide +kernel) (by decide +kernel), gw_in (by decide +kernel) (by decide +kernel), gw_in (by decide +kernel) (by decide +kernel)⟩
theorem vX5_153 : VOK RX5 153 yX1_firstHearer := ⟨gw_in (by decide +kernel) (by decide +kernel), gw_in (by decide +kernel) (by decide +kernel), gw_in (by decide +kernel) (by decide +kernel)⟩
theorem vX5_156 : VOK RX5 156 yX2_mostWakefulPair := ⟨gw_in (by decide +kernel) (by decide +kernel), gw_in (by decide +kernel) (by decide +kernel), gw_in (by decide +kernel) (by decide +kernel)⟩
theorem vX5_159 : VOK RX5 159 yX2_hoursTogether := ⟨gw_in (by decide +kernel) (by decide +kernel), gw_in (by decide +kernel) (by decide +kernel), gw_in (by decide +kernel) (by decide +kernel)⟩
theorem vX5_162 : VOK RX5 162 yX4_size := ⟨gw_in (by decide +kernel) (by decide +kernel), gw_in (by decide +kernel) (by decide +kernel), gw_in (by decide +kernel) (by decide +kernel)⟩
theorem vX5_165 : VOK RX5 165 yX4_put := ⟨gw_in (by decide +kernel) (by decide +kernel), gw_in (by decide +kernel) (by decide +kernel), gw_in (by decide +kernel) (by decide +kernel)⟩
theorem vX5_167 : VOK RX5 167 yX2_copyFrom := ⟨gw_in (by decide +kernel) (by decide +kernel), gw_in (by decide +kernel) (by decide +kernel), gw_in (by decide +kernel) (by decide +kernel)⟩
theorem sX5_171 : SOK RX5 171 yX5_nextSeed := ⟨gw_in (by decide +kernel) (by decide +kernel), gw_in (by decide +kernel) (by decide +kernel), rfl⟩
theorem sX5_174 : SOK RX5 174 yX5_drawOf := ⟨gw_in (by decide +kernel) (by decide +kernel), gw_in (by decide +kernel) (by decide +kernel), rfl⟩
theorem vX5_177 : VOK RX5 177 yX4_copyFrom := ⟨gw_in (by decide +kernel) (by decide +kernel), gw_in (by decide +kernel) (by decide +kernel), gw_in (by decide +kernel) (by decide +kernel)⟩
theorem vX5_180 : VOK RX5 180 yX2_hoursPassed := ⟨gw_in (by decide +kernel) (by decide +kernel), gw_in (by decide +kernel) (by decide +kernel), gw_in (by decide +kernel) (by decide +kernel)⟩
theorem vX5_183 : VOK RX5 183 yX2_drowse := ⟨gw_in (by decide +kernel) (by decide +kernel), gw_in (by decide +kernel) (by decide +kernel), gw_in (by decide +kernel) (by decide +kernel)⟩
theorem vX5_186 : VOK RX5 186 yX2_tiredTogether := ⟨gw_in (by decide +kernel) (by decide +kernel), gw_in (by decide +kernel) (by decide +kernel), gw_in (by decide +kernel) (by decide +kernel)⟩
theorem vX5_191 : VOK RX5 191 yX5_about := ⟨gw_in (by decide +kernel) (by decide +kernel), gw_in (by decide +kernel) (by decide +kernel), gw_in (by decide +kernel) (by decide +kernel)⟩
theorem sX5_194 : SOK RX5 194 yX5_mixed := ⟨gw_in (by decide +kernel) (by decide +kernel), gw_in (by decide +kernel) (by decide +kernel), rfl⟩
theorem vX5_198 : VOK RX5 198 yX5_bed := ⟨gw_in (by decide +kernel) (by decide +kernel), gw_in (by decide +kernel) (by decide +kernel), gw_in (by decide +kernel) (by decide +kernel)⟩
theorem vX5_201 : VOK RX5 201 yX5_sunday := ⟨gw_in (by decide +kernel) (by decide +kernel), gw_in (by decide +kernel) (by decide +kernel), gw_in (by decide +kernel) (by decide +kernel)⟩
theorem vX5_204 : VOK RX5 204 yX3_codeAt := ⟨gw_in (by decide +kernel) (by decide +kernel), gw_in (by decide +kernel) (by decide +kernel), gw_in (by decide +kernel) (by decide +kernel)⟩
theorem vX5_207 : VOK RX5 207 yX5_count := ⟨gw_in (by decide +kernel) (by decide +kernel), gw_in (by decide +kernel) (by decide +kernel), gw_in (by decide +kernel) (by decide +kernel)⟩
theorem vX5_210 : VOK RX5 210 yX2_keepsBed := ⟨gw_in (by decide +kernel) (by decide +kernel), gw_in (by decide +kernel) (by decide +kernel), gw_in (by decide +kernel) (by decide +kernel)⟩
theorem sX6_51 : SOK RX6 51 yX6_within := ⟨gw_in (by decide +kernel) (by decide +kernel), gw_in (by decide +kernel) (by decide +kernel), rfl⟩
theorem sX6_66 : SOK RX6 66 yX6_kindBy := ⟨gw_in (by decide +kernel) (by decide +kernel), gw_in (by decide +kernel) (by decide +kernel), rfl⟩
theorem vX6_70 : VOK RX6 70 yX6_isFigure := ⟨gw_in (by decide +kernel) (by decide +kernel), gw_in (by decide +kernel) (by decide +kernel), gw_in (by decide +kernel) (by decide +kernel)⟩
theorem vX6_73 : VOK RX6 73 yX6_read := ⟨gw_in (by decide +kernel) (by decide +kernel), gw_in (by decide +kernel) (by decide +kernel), gw_in (by decide +kernel) (by decide +kernel)⟩
theorem vX6_92 : VOK RX6 92 yX6_whose := ⟨gw_in (by decide +kernel) (by decide +kernel), gw_in (by decide +kernel) (by decide +kernel), gw_in (by decide +kernel) (by decide +kernel)⟩
theorem sX6_95 : SOK RX6 95 yX6_more := ⟨gw_in (by decide +kernel) (by decide +kernel), gw_in (by decide +kernel) (by decide +kernel), rfl⟩
theorem vX6_99 : VOK RX6 99 yX6_save := ⟨gw_in (by decide +kernel) (by decide +kernel), gw_in (by decide +kernel) (by decide +kernel), gw_in (by decide +kernel) (by decide +kernel)⟩
theorem vX6_103 : VOK RX6 103 yX6_load := ⟨gw_in (by decide +kernel) (by decide +kernel), gw_in (by decide +kernel) (by decide +kernel), gw_in (by decide +kernel) (by decide +kernel)⟩
theorem vX6_106 : VOK RX6 106 yX6_howTired := ⟨gw_in (by decide +kernel) (by decide +kernel), gw_in (by decide +kernel) (by decide +kernel), gw_in (by decide +kernel) (by decide +kernel)⟩
theorem vX6_109 : VOK RX6 109 yX6_lookOf := ⟨gw_in (by decide +kernel) (by decide +kernel), gw_in (by decide +kernel) (by decide +kernel), gw_in (by decide +kernel) (by decide +kernel)⟩
theorem vX6_112 : VOK RX6 112 yX6_isLodger := ⟨gw_in (by decide +kernel) (by decide +kernel), gw_in (by decide +kernel) (by decide +kernel), gw_in (by decide +kernel) (by decide +kernel)⟩
theorem vX6_116 : VOK RX6 116 yX6_lodgerNow := ⟨gw_in (by decide +kernel) (by decide +kernel), gw_in (by decide +kernel) (by decide +kernel), gw_in (by decide +kernel) (by decide +kernel)⟩
theorem vX6_120 : VOK RX6 120 yX6_drink := ⟨gw_in (by decide +kernel) (by decide +kernel), gw_in (by decide +kernel) (by decide +kernel), gw_in (by decide +kernel) (by decide +kernel)⟩
theorem vX6_123 : VOK RX6 123 yX6_hearLecture := ⟨gw_in (by decide +kernel) (by decide +kernel), gw_in (by decide +kernel) (by decide +kernel), gw_in (by decide +kernel) (by decide +kernel)⟩
theorem vX6_126 : VOK RX6 126 yX6_goHour := ⟨gw_in (by decide +kernel) (by decide +kernel), gw_in (by decide +kernel) (by decide +kernel), gw_in (by decide +kernel) (by decide +kernel)⟩
theorem vX6_129 : VOK RX6 129 yX6_sleeping := ⟨gw_in (by decide +kernel) (by decide +kernel), gw_in (by decide +kernel) (by decide +kernel), gw_in (by decide +kernel) (by decide +kernel)⟩
theorem vX6_132 : VOK RX6 132 yX6_begin := ⟨gw_in (by decide +kernel) (by decide +kernel), gw_in (by decide +kernel) (by decide +kernel), gw_in (by decide +kernel) (by decide +kernel)⟩
theorem vX6_135 : VOK RX6 135 yX6_end := ⟨gw_in (by decide +kernel) (by decide +kernel), gw_in (by decide +kernel) (by decide +kernel), gw_in (by decide +kernel) (by decide +kernel)⟩
theorem vX6_138 : VOK RX6 138 yX6_isEnough := ⟨gw_in (by decide +kernel) (by decide +kernel), gw_in (by decide +kernel) (by decide +kernel), gw_in (by decide +kernel) (by decide +kernel)⟩
theorem vX6_141 : VOK RX6 141 yX6_cupsNow := ⟨gw_in (by decide +kernel) (by decide +kernel), gw_in (by decide +kernel) (by decide +kernel), gw_in (by decide +kernel) (by decide +kernel)⟩
theorem vX6_144 : VOK RX6 144 yX6_hoursBy := ⟨gw_in (by decide +kernel) (by decide +kernel), gw_in (by decide +kernel) (by decide +kernel), gw_in (by decide +kernel) (by decide +kernel)⟩
theorem vX6_151 : VOK RX6 151 yX6_lecturesNow := ⟨gw_in (by decide +kernel) (by decide +kernel), gw_in (by decide +kernel) (by decide +kernel), gw_in (by decide +kernel) (by decide +kernel)⟩
theorem vX6_154 : VOK RX6 154 yX6_mayLie := ⟨gw_in (by decide +kernel) (by decide +kernel), gw_in (by decide +kernel) (by decide +kernel), gw_in (by decide +kernel) (by decide +kernel)⟩
theorem vX6_157 : VOK RX6 157 yX6_awakeFor := ⟨gw_in (by decide +kernel) (by decide +kernel), gw_in (by decide +kernel) (by decide +kernel), gw_in (by decide +kernel) (by decide +kernel)⟩
theorem vX6_160 : VOK RX6 160 yX6_sundayNow := ⟨gw_in (by decide +kernel) (by decide +kernel), gw_in (by decide +kernel) (by decide +kernel), gw_in (by decide +kernel) (by decide +kernel)⟩
theorem vX6_163 : VOK RX6 163 yX6_layTired := ⟨gw_in (by decide +kernel) (by decide +kernel), gw_in (by decide +kernel) (by decide +kernel), gw_in (by decide +kernel) (by decide +kernel)⟩
theorem vX6_166 : VOK RX6 166 yX6_fitting := ⟨gw_in (by decide +kernel) (by decide +kernel), gw_in (by decide +kernel) (by decide +kernel), gw_in (by decide +kernel) (by decide +kernel)⟩
theorem sX6_169 : SOK RX6 169 yX6_isIn := ⟨gw_in (by decide +kernel) (by decide +kernel), gw_in (by decide +kernel) (by decide +kernel), rfl⟩
theorem vX6_174 : VOK RX6 174 yX6_worstBehind := ⟨gw_in (by decide +kernel) (by decide +kernel), gw_in (by decide +kernel) (by decide +kernel), gw_in (by decide +kernel) (by decide +kernel)⟩
theorem vX6_189 : VOK RX6 189 yX6_draw := ⟨gw_in (by decide +kernel) (by decide +kernel), gw_in (by decide +kernel) (by decide +kernel), gw_in (by decide +kernel) (by decide +kernel)⟩
theorem vX6_192 : VOK RX6 192 yX6_nightsNow := ⟨gw_in (by decide +kernel) (by decide +kernel), gw_in (by decide +kernel) (by decide +kernel), gw_in (by decide +kernel) (by decide +kernel)⟩
theorem vX6_204 : VOK RX6 204 yX6_tiredAll := ⟨gw_in (by decide +kernel) (by decide +kernel), gw_in (by decide +kernel) (by decide +kernel), gw_in (by decide +kernel) (by decide +kernel)⟩
theorem vX6_207 : VOK RX6 207 yX6_howMany := ⟨gw_in (by decide +kernel) (by decide +kernel), gw_in (by decide +kernel) (by decide +kernel), gw_in (by decide +kernel) (by decide +kernel)⟩
theorem vX6_217 : VOK RX6 217 yX6_mix := ⟨gw_in (by decide +kernel) (by decide +kernel), gw_in (by decide +kernel) (by decide +kernel), gw_in (by decide +kernel) (by decide +kernel)⟩
theorem wL_7 : WOK RL 7 5 11 [.null, .null, .null, .null, .null, .int 0, .null, .null, .null, .int 0, .int 0] := ⟨RX5, TX5, tyX5, rfl, uX5, tyX5_ok, gw_in (by decide +kernel) (by decide +kernel), gw_in (by decide +kernel) (by decide +kernel), gw_in (by decide +kernel) (by decide +kernel), by decide +kernel⟩
theorem wL_10 : WOK RL 10 6 27 [.int 0, .int 0, .int 0, .null, .null, .null, .null, .int 0, .int 0, .null, .null, .int 0, .int 0, .null, .int 0, .int 0, .null, .null, .null, .long 0, .int 0, .int 0, .int 0, .null, .null, .null, .long 0] := ⟨RX6, TX6, tyX6, rfl, uX6, tyX6_ok, gw_in (by decide +kernel) (by decide +kernel), gw_in (by decide +kernel) (by decide +kernel), gw_in (by decide +kernel) (by decide +kernel), by decide +kernel⟩
theorem wX0_9 : WOK RX0 9 2 7 [.null, .null, .null, .null, .int 0, .int 0, .int 0] := ⟨RX2, TX2, tyX2, rfl, uX2, tyX2_ok, gw_in (by decide +kernel) (by decide +kernel), gw_in (by decide +kernel) (by decide +kernel), gw_in (by decide +kernel) (by decide +kernel), by decide +kernel⟩
theorem lX0_9 : Cond.classLink RX0 9 "WakefulBed$Night" ∈ gw := gw_in (by decide +kernel) (by decide +kernel)
theorem lX0_18 : Cond.classLink RX0 18 "[[I" ∈ gw := gw_in (by decide +kernel) (by decide +kernel)
theorem wX1_9 : WOK RX1 9 2 7 [.null, .null, .null, .null, .int 0, .int 0, .int 0] := ⟨RX2, TX2, tyX2, rfl, uX2, tyX2_ok, gw_in (by decide +kernel) (by decide +kernel), gw_in (by decide +kernel) (by decide +kernel), gw_in (by decide +kernel) (by decide +kernel), by decide +kernel⟩
theorem lX1_9 : Cond.classLink RX1 9 "WakefulBed$Night" ∈ gw := gw_in (by decide +kernel) (by decide +kernel)
theorem wX5_7 : WOK RX5 7 3 2 [.null, .int 0] := ⟨RX3, TX3, tyX3, rfl, uX3, tyX3_ok, gw_in (by decide +kernel) (by decide +kernel), gw_in (by decide +kernel) (by decide +kernel), gw_in (by decide +kernel) (by decide +kernel), by decide +kernel⟩
theorem wX5_16 : WOK RX5 16 2 7 [.null, .null, .null, .null, .int 0, .int 0, .int 0] := ⟨RX2, TX2, tyX2, rfl, uX2, tyX2_ok, gw_in (by decide +kernel) (by decide +kernel), gw_in (by decide +kernel) (by decide +kernel), gw_in (by decide +kernel) (by decide +kernel), by decide +kernel⟩
theorem lX5_16 : Cond.classLink RX5 16 "WakefulBed$Night" ∈ gw := gw_in (by decide +kernel) (by decide +kernel)
theorem wX5_23 : WOK RX5 23 4 3 [.null, .null, .int 0] := ⟨RX4, TX4, tyX4, rfl, uX4, tyX4_ok, gw_in (by decide +kernel) (by decide +kernel), gw_in (by decide +kernel) (by decide +kernel), gw_in (by decide +kernel) (by decide +kernel), by decide +kernel⟩
theorem wX5_43 : WOK RX5 43 1 3 [.null, .int 0, .int 0] := ⟨RX1, TX1, tyX1, rfl, uX1, tyX1_ok, gw_in (by decide +kernel) (by decide +kernel), gw_in (by decide +kernel) (by decide +kernel), gw_in (by decide +kernel) (by decide +kernel), by decide +kernel⟩
theorem wX5_50 : WOK RX5 50 0 4 [.null, .null, .int 0, .int 0] := ⟨RX0, TX0, tyX0, rfl, uX0, tyX0_ok, gw_in (by decide +kernel) (by decide +kernel), gw_in (by decide +kernel) (by decide +kernel), gw_in (by decide +kernel) (by decide +kernel), by decide +kernel⟩
theorem pX5_189 : Cond.constantLong RX5 189 953 ∈ gw := gw_in (by decide +kernel) (by decide +kernel)
theorem pX5_213 : Cond.constantLong RX5 213 31 ∈ gw := gw_in (by decide +kernel) (by decide +kernel)
theorem pX5_215 : Cond.constant RX5 215 1103515245 ∈ gw := gw_in (by decide +kernel) (by decide +kernel)
theorem pX5_216 : Cond.constant RX5 216 2147483647 ∈ gw := gw_in (by decide +kernel) (by decide +kernel)
theorem pX5_217 : Cond.constant RX5 217 65536 ∈ gw := gw_in (by decide +kernel) (by decide +kernel)
theorem pX6_173 : Cond.constant RX6 173 268435456 ∈ gw := gw_in (by decide +kernel) (by decide +kernel)
theorem pX6_177 : Cond.constantLong RX6 177 1103515245 ∈ gw := gw_in (by decide +kernel) (by decide +kernel)
theorem pX6_183 : Cond.constantLong RX6 183 12345 ∈ gw := gw_in (by decide +kernel) (by decide +kernel)
theorem pX6_185 : Cond.constantLong RX6 185 2147483647 ∈ gw := gw_in (by decide +kernel) (by decide +kernel)
theorem pX6_187 : Cond.constantLong RX6 187 65536 ∈ gw := gw_in (by decide +kernel) (by decide +kernel)
theorem pX6_210 : Cond.constantLong RX6 210 31 ∈ gw := gw_in (by decide +kernel) (by decide +kernel)
theorem pX6_215 : Cond.constantLong RX6 215 953 ∈ gw := gw_in (by decide +kernel) (by decide +kernel)
theorem oX0_3 : Cond.methodLink RX0 3 objectInit ∈ gw := gw_in (by decide +kernel) (by decide +kernel)
theorem mX0_65 : Cond.methodLink RX0 65 Lib.Math.max.name ∈ gw := gw_in (by decide +kernel) (by decide +kernel)
theorem oX1_3 : Cond.methodLink RX1 3 objectInit ∈ gw := gw_in (by decide +kernel) (by decide +kernel)
theorem mX1_25 : Cond.methodLink RX1 25 Lib.Math.min.name ∈ gw := gw_in (by decide +kernel) (by decide +kernel)
theorem oX2_3 : Cond.methodLink RX2 3 objectInit ∈ gw := gw_in (by decide +kernel) (by decide +kernel)
theorem mX2_40 : Cond.methodLink RX2 40 Lib.Math.min.name ∈ gw := gw_in (by decide +kernel) (by decide +kernel)
theorem mX2_62 : Cond.methodLink RX2 62 Lib.Math.max.name ∈ gw := gw_in (by decide +kernel) (by decide +kernel)
theorem oX3_5 : Cond.methodLink RX3 5 objectInit ∈ gw := gw_in (by decide +kernel) (by decide +kernel)
theorem oX4_3 : Cond.methodLink RX4 3 objectInit ∈ gw := gw_in (by decide +kernel) (by decide +kernel)
theorem oX5_1 : Cond.methodLink RX5 1 objectInit ∈ gw := gw_in (by decide +kernel) (by decide +kernel)
theorem oX6_1 : Cond.methodLink RX6 1 objectInit ∈ gw := gw_in (by decide +kernel) (by decide +kernel)
end
section
/-! truth values, places and rows as the walks hold them -/
def bI (b : Bool) : Int32 := if b then 1 else 0
def oI (o : Option Nat) : Int32 := match o with
  | none => -1
  | some j => nI j
theorem bI_t : bI true = 1 := rfl
theorem bI_f : bI false = 0 := rfl
theorem bI_0 (b : Bool) : bI b = 0 ↔ b = false := by cases b <;> decide
theorem bI_1 (b : Bool) : bI b = 1 ↔ b = true := by cases b <;> decide
theorem nar_bI (b : Bool) : narrow .boolean (.int (bI b)) = .int (bI b) := by cases b <;> rfl
theorem fit_bI (b : Bool) : fits .boolean (.int (bI b)) = true := by cases b <;> rfl
theorem vpn_bI (b : Bool) : vp_nar .boolean (bI b) = bI b := by cases b <;> rfl
def bup (f : Nat → Bool) (k : Nat) (b : Bool) : Nat → Bool := fun j => if j = k then b else f j
theorem upd_bI (f : Nat → Bool) (k : Nat) (b : Bool) : upd (fun i => bI (f i)) k (bI b) = fun i => bI (bup f k b i) := by
  funext j
  by_cases h : j = k
  · subst h; simp [upd, bup]
  · simp [upd, bup, h]
theorem bup_s {f : Nat → Bool} {k : Nat} {b : Bool} : bup f k b k = b := if_pos rfl
theorem bup_n {f : Nat → Bool} {k j : Nat} {b : Bool} (h : j ≠ k) : bup f k b j = f j := if_neg h
section
variable {M : Mx} {l : Launch} {x : Cx} {cc : ByteArray} {nL : Nat} {y : MethodName} {d : Nat} {P : Option Value → va_W → Prop} {k n pc : Nat} {lv : List (Nat × Value)} {st : List Value} {ws : va_W}
theorem j_ialdN (q0 : Nat) {a N i : Nat} {f : Nat → Int32} (hd : decode cc pc = .ok (.iaload, 1)) (ha : ws[q0]? = some (a, .inl (x.2.1, N, .inl f))) (hi : i < N) (hN : N < 2 ^ 31) (kk : J M l x cc nL y d P k n (pc + 1) lv (.int (f i) :: st) ws) : J M l x cc nL y d P k n pc lv (.int (nI i) :: .ref a :: st) ws :=
  j_iald q0 hd ha (vp_in_nI hi hN) (by rw [nI_clamp (show i < 2 ^ 31 by omega)]; exact kk)
theorem j_baldN (q0 : Nat) {a N i : Nat} {f : Nat → Int32} (hd : decode cc pc = .ok (.baload, 1)) (ha : ws[q0]? = some (a, .inl (x.2.2.2.1, N, .inl f))) (hi : i < N) (hN : N < 2 ^ 31) (kk : J M l x cc nL y d P k n (pc + 1) lv (.int (f i) :: st) ws) : J M l x cc nL y d P k n pc lv (.int (nI i) :: .ref a :: st) ws :=
  j_bald q0 hd ha (vp_in_nI hi hN) (by rw [nI_clamp (show i < 2 ^ 31 by omega)]; exact kk)
theorem j_iastN (q0 : Nat) {a N i : Nat} {f : Nat → Int32} {v : Int32} {ws' : va_W} (hd : decode cc pc = .ok (.iastore, 1)) (ha : ws[q0]? = some (a, .inl (x.2.1, N, .inl f))) (hi : i < N) (hN : N < 2 ^ 31) (hw : ws.set q0 (a, .inl (x.2.1, N, .inl (upd f i v))) = ws') (kk : J M l x cc nL y d P k n (pc + 1) lv st ws') : J M l x cc nL y d P k n pc lv (.int v :: .int (nI i) :: .ref a :: st) ws :=
  j_iast q0 hd ha (vp_in_nI hi hN) (by rw [nI_clamp (show i < 2 ^ 31 by omega)]; exact hw) kk
theorem j_bastN (q0 : Nat) {a N i : Nat} {f : Nat → Int32} {v : Int32} {ws' : va_W} (hd : decode cc pc = .ok (.bastore, 1)) (ha : ws[q0]? = some (a, .inl (x.2.2.2.1, N, .inl f))) (hi : i < N) (hN : N < 2 ^ 31) (hw : ws.set q0 (a, .inl (x.2.2.2.1, N, .inl (upd f i (vp_nar .byte v)))) = ws') (kk : J M l x cc nL y d P k n (pc + 1) lv st ws') : J M l x cc nL y d P k n pc lv (.int v :: .int (nI i) :: .ref a :: st) ws :=
  j_bast q0 hd ha (vp_in_nI hi hN) (by rw [nI_clamp (show i < 2 ^ 31 by omega)]; exact hw) kk
theorem j_zaldB (q0 : Nat) {a N i : Nat} {f : Nat → Bool} (hd : decode cc pc = .ok (.baload, 1)) (ha : ws[q0]? = some (a, .inl (x.2.2.1, N, .inl (fun i => bI (f i))))) (hi : i < N) (hN : N < 2 ^ 31) (kk : J M l x cc nL y d P k n (pc + 1) lv (.int (bI (f i)) :: st) ws) : J M l x cc nL y d P k n pc lv (.int (nI i) :: .ref a :: st) ws :=
  j_zald q0 hd ha (vp_in_nI hi hN) (by rw [nI_clamp (show i < 2 ^ 31 by omega)]; exact kk)
theorem j_zastB (q0 : Nat) {a N i : Nat} {f : Nat → Bool} (b : Bool) {ws' : va_W} (hd : decode cc pc = .ok (.bastore, 1)) (ha : ws[q0]? = some (a, .inl (x.2.2.1, N, .inl (fun i => bI (f i))))) (hi : i < N) (hN : N < 2 ^ 31) (hw : ws.set q0 (a, .inl (x.2.2.1, N, .inl (fun j => bI (bup f i b j)))) = ws') (kk : J M l x cc nL y d P k n (pc + 1) lv st ws') : J M l x cc nL y d P k n pc lv (.int (bI b) :: .int (nI i) :: .ref a :: st) ws :=
  j_zast q0 hd ha (vp_in_nI hi hN) (by rw [nI_clamp (show i < 2 ^ 31 by omega), vpn_bI, upd_bI]; exact hw) kk
theorem j_ifb_eq {b : Bool} {off : Int} {tgt : Nat} (hd : decode cc pc = .ok (.ifCond .eq off, 3)) (ht : (pc : Int) + off = (tgt : Int)) (kt : b = false → J M l x cc nL y d P k n tgt lv st ws) (kf : b = true → J M l x cc nL y d P k n (pc + 3) lv st ws) : J M l x cc nL y d P k n pc lv (.int (bI b) :: st) ws :=
  j_if_eq hd ht (fun h => kt ((bI_0 b).mp h)) (fun h => kf (by cases b; exact absurd rfl h; rfl))
theorem j_ifb_ne {b : Bool} {off : Int} {tgt : Nat} (hd : decode cc pc = .ok (.ifCond .ne off, 3)) (ht : (pc : Int) + off = (tgt : Int)) (kt : b = true → J M l x cc nL y d P k n tgt lv st ws) (kf : b = false → J M l x cc nL y d P k n (pc + 3) lv st ws) : J M l x cc nL y d P k n pc lv (.int (bI b) :: st) ws :=
  j_if_ne hd ht (fun h => kt (by cases b; exact absurd rfl h; rfl)) (fun h => kf ((bI_0 b).mp h))
theorem j_icmpN_eq {a b : Nat} {off : Int} {tgt : Nat} (ha : a < 2 ^ 31) (hb : b < 2 ^ 31) (hd : decode cc pc = .ok (.if_icmp .eq off, 3)) (ht : (pc : Int) + off = (tgt : Int)) (kt : a = b → J M l x cc nL y d P k n tgt lv st ws) (kf : ¬ a = b → J M l x cc nL y d P k n (pc + 3) lv st ws) : J M l x cc nL y d P k n pc lv (.int (nI b) :: .int (nI a) :: st) ws :=
  j_icmp_eq hd ht (fun h => kt ((nI_eq ha hb).mp h)) (fun h => kf (fun e => h ((nI_eq ha hb).mpr e)))
theorem j_icmpN_ne {a b : Nat} {off : Int} {tgt : Nat} (ha : a < 2 ^ 31) (hb : b < 2 ^ 31) (hd : decode cc pc = .ok (.if_icmp .ne off, 3)) (ht : (pc : Int) + off = (tgt : Int)) (kt : ¬ a = b → J M l x cc nL y d P k n tgt lv st ws) (kf : a = b → J M l x cc nL y d P k n (pc + 3) lv st ws) : J M l x cc nL y d P k n pc lv (.int (nI b) :: .int (nI a) :: st) ws :=
  j_icmp_ne hd ht (fun h => kt (fun e => h ((nI_eq ha hb).mpr e))) (fun h => kf ((nI_eq ha hb).mp h))
theorem j_icmpN_lt {a b : Nat} {off : Int} {tgt : Nat} (ha : a < 2 ^ 31) (hb : b < 2 ^ 31) (hd : decode cc pc = .ok (.if_icmp .lt off, 3)) (ht : (pc : Int) + off = (tgt : Int)) (kt : a < b → J M l x cc nL y d P k n tgt lv st ws) (kf : b ≤ a → J M l x cc nL y d P k n (pc + 3) lv st ws) : J M l x cc nL y d P k n pc lv (.int (nI b) :: .int (nI a) :: st) ws :=
  j_icmp_lt hd ht (fun h => kt ((nI_ltI ha hb).mp h)) (fun h => kf (by have := mt (nI_ltI ha hb).mpr h; omega))
theorem j_icmpN_ge {a b : Nat} {off : Int} {tgt : Nat} (ha : a < 2 ^ 31) (hb : b < 2 ^ 31) (hd : decode cc pc = .ok (.if_icmp .ge off, 3)) (ht : (pc : Int) + off = (tgt : Int)) (kt : b ≤ a → J M l x cc nL y d P k n tgt lv st ws) (kf : a < b → J M l x cc nL y d P k n (pc + 3) lv st ws) : J M l x cc nL y d P k n pc lv (.int (nI b) :: .int (nI a) :: st) ws :=
  j_icmp_ge hd ht (fun h => kt ((nI_leI hb ha).mp h)) (fun h => kf (by have := mt (nI_leI hb ha).mpr h; omega))
theorem j_icmpN_gt {a b : Nat} {off : Int} {tgt : Nat} (ha : a < 2 ^ 31) (hb : b < 2 ^ 31) (hd : decode cc pc = .ok (.if_icmp .gt off, 3)) (ht : (pc : Int) + off = (tgt : Int)) (kt : b < a → J M l x cc nL y d P k n tgt lv st ws) (kf : a ≤ b → J M l x cc nL y d P k n (pc + 3) lv st ws) : J M l x cc nL y d P k n pc lv (.int (nI b) :: .int (nI a) :: st) ws :=
  j_icmp_gt hd ht (fun h => kt ((nI_ltI hb ha).mp h)) (fun h => kf (by have := mt (nI_ltI hb ha).mpr h; omega))
theorem j_icmpN_le {a b : Nat} {off : Int} {tgt : Nat} (ha : a < 2 ^ 31) (hb : b < 2 ^ 31) (hd : decode cc pc = .ok (.if_icmp .le off, 3)) (ht : (pc : Int) + off = (tgt : Int)) (kt : a ≤ b → J M l x cc nL y d P k n tgt lv st ws) (kf : b < a → J M l x cc nL y d P k n (pc + 3) lv st ws) : J M l x cc nL y d P k n pc lv (.int (nI b) :: .int (nI a) :: st) ws :=
  j_icmp_le hd ht (fun h => kt ((nI_leI ha hb).mp h)) (fun h => kf (by have := mt (nI_leI ha hb).mpr h; omega))
theorem j_topi {a b : Int32} (e : a = b) (kk : J M l x cc nL y d P k n pc lv (.int b :: st) ws) : J M l x cc nL y d P k n pc lv (.int a :: st) ws := by subst e; exact kk
theorem j_top2 {v : Value} {a b : Int32} (e : a = b) (kk : J M l x cc nL y d P k n pc lv (v :: .int b :: st) ws) : J M l x cc nL y d P k n pc lv (v :: .int a :: st) ws := by subst e; exact kk
theorem j_ws {ws' : va_W} (e : ws = ws') (kk : J M l x cc nL y d P k n pc lv st ws') : J M l x cc nL y d P k n pc lv st ws := by subst e; exact kk
theorem j_lve {lv' : List (Nat × Value)} (e : lv = lv') (kk : J M l x cc nL y d P k n pc lv' st ws) : J M l x cc nL y d P k n pc lv st ws := by subst e; exact kk
end
/-! contracts with one answer and one world behind it -/
def eI (r : Int32) (w1 : va_W) : Option Value → va_W → Prop := fun v ws => v = some (.int r) ∧ ws = w1
def eL (r : Int64) (w1 : va_W) : Option Value → va_W → Prop := fun v ws => v = some (.long r) ∧ ws = w1
def eV (w1 : va_W) : Option Value → va_W → Prop := fun v ws => v = none ∧ ws = w1
theorem eI_fit {r : Int32} {w1 : va_W} : ∀ v ws, eI r w1 v ws → retFit (some .int) v := fun v ws h => Or.inr (Or.inl ⟨.int, r, rfl, h.1, rfl⟩)
theorem eB_fit {b : Bool} {w1 : va_W} : ∀ v ws, eI (bI b) w1 v ws → retFit (some .boolean) v := fun v ws h => Or.inr (Or.inl ⟨.boolean, bI b, rfl, h.1, nar_bI b⟩)
theorem eL_fit {r : Int64} {w1 : va_W} : ∀ v ws, eL r w1 v ws → retFit (some .long) v := fun v ws h => Or.inr (Or.inr ⟨r, rfl, h.1⟩)
theorem eV_fit {w1 : va_W} : ∀ v ws, eV w1 v ws → retFit none v := fun v ws h => Or.inl ⟨rfl, h.1⟩
theorem pm_0 (w : va_W) : w.Perm (w ++ []) := by rw [List.append_nil]
theorem pm_1 {bs br : List va_W} {b : va_W} (i : Nat) (js : List Nat) (h : ([i] ++ js).isPerm (List.range bs.length) = true) (e : bs[i]? = some b) (f : js.filterMap (fun i => bs[i]?) = br) : (fl bs).Perm (b ++ fl br) := by
  have h1 := pm_c (bs := bs) (bc := [b]) (br := br) [i] js h (by simp [e]) f
  simpa [fl] using h1
theorem pm_2 {bs br : List va_W} {b b2 : va_W} (i i2 : Nat) (js : List Nat) (h : ([i, i2] ++ js).isPerm (List.range bs.length) = true) (e : bs[i]? = some b) (e2 : bs[i2]? = some b2) (f : js.filterMap (fun i => bs[i]?) = br) : (fl bs).Perm ((b ++ b2) ++ fl br) := by
  have h1 := pm_c (bs := bs) (bc := [b, b2]) (br := br) [i, i2] js h (by simp [e, e2]) f
  simpa [fl] using h1
section
variable {M : Mx} {l : Launch} {x : Cx} {cc : ByteArray} {nL : Nat} {y : MethodName} {d : Nat} {P : Option Value → va_W → Prop} {k n pc : Nat} {lv : List (Nat × Value)} {st : List Value} {ws : va_W}
theorem j_cVi {wc wr w1 ws' : va_W} {r : Int32} {b : Nat} {d' idx nL' na : Nat} {y' : MethodName} {cc' : ByteArray} {ret' : Option FieldType} {As rest : List Value} (hM : MC l x d' 0 0 y' cc' nL' ret' (.ref b :: As) wc (eI r w1)) (hC : COK y' cc' nL' ret' na) (q0 : Nat) {ci : Nat} {fs : List Value} {r0 : vw_C} (he : wc[q0]? = some (b, .inr (ci, fs))) (hc : vwCl[ci]? = some r0) (hcl : r0.1 = y'.cls) (hV : VOK y.cls idx y') (hd : decode cc pc = .ok (.invokevirtual idx, 3)) (h0 : d' + 1 ≤ d) (ha : As.length = na) (hst : st = As.reverse ++ .ref b :: rest) (hr : (rest.map fun v => v.category).sum ≤ 8) (hp : ws.Perm (wc ++ wr)) (hw : w1 ++ wr = ws') (kk : J M l x cc nL y d P k n (pc + 3) lv (.int r :: rest) ws') : J M l x cc nL y d P k n pc lv st ws := by
  subst hw
  exact j_callV hM hC hV q0 he hc hcl hd h0 (Nat.le_of_eq (Nat.zero_add k)) (Nat.le_of_eq (Nat.zero_add n)) ha hst hr hp (fun v w hv => by obtain ⟨e1, e2⟩ := hv; subst e1; subst e2; exact kk)
theorem j_cVv {wc wr w1 ws' : va_W} {b : Nat} {d' idx nL' na : Nat} {y' : MethodName} {cc' : ByteArray} {ret' : Option FieldType} {As rest : List Value} (hM : MC l x d' 0 0 y' cc' nL' ret' (.ref b :: As) wc (eV w1)) (hC : COK y' cc' nL' ret' na) (q0 : Nat) {ci : Nat} {fs : List Value} {r0 : vw_C} (he : wc[q0]? = some (b, .inr (ci, fs))) (hc : vwCl[ci]? = some r0) (hcl : r0.1 = y'.cls) (hV : VOK y.cls idx y') (hd : decode cc pc = .ok (.invokevirtual idx, 3)) (h0 : d' + 1 ≤ d) (ha : As.length = na) (hst : st = As.reverse ++ .ref b :: rest) (hr : (rest.map fun v => v.category).sum ≤ 8) (hp : ws.Perm (wc ++ wr)) (hw : w1 ++ wr = ws') (kk : J M l x cc nL y d P k n (pc + 3) lv (rest) ws') : J M l x cc nL y d P k n pc lv st ws := by
  subst hw
  exact j_callV hM hC hV q0 he hc hcl hd h0 (Nat.le_of_eq (Nat.zero_add k)) (Nat.le_of_eq (Nat.zero_add n)) ha hst hr hp (fun v w hv => by obtain ⟨e1, e2⟩ := hv; subst e1; subst e2; exact kk)
theorem j_cVl {wc wr w1 ws' : va_W} {r : Int64} {b : Nat} {d' idx nL' na : Nat} {y' : MethodName} {cc' : ByteArray} {ret' : Option FieldType} {As rest : List Value} (hM : MC l x d' 0 0 y' cc' nL' ret' (.ref b :: As) wc (eL r w1)) (hC : COK y' cc' nL' ret' na) (q0 : Nat) {ci : Nat} {fs : List Value} {r0 : vw_C} (he : wc[q0]? = some (b, .inr (ci, fs))) (hc : vwCl[ci]? = some r0) (hcl : r0.1 = y'.cls) (hV : VOK y.cls idx y') (hd : decode cc pc = .ok (.invokevirtual idx, 3)) (h0 : d' + 1 ≤ d) (ha : As.length = na) (hst : st = As.reverse ++ .ref b :: rest) (hr : (rest.map fun v => v.category).sum ≤ 8) (hp : ws.Perm (wc ++ wr)) (hw : w1 ++ wr = ws') (kk : J M l x cc nL y d P k n (pc + 3) lv (.long r :: rest) ws') : J M l x cc nL y d P k n pc lv st ws := by
  subst hw
  exact j_callV hM hC hV q0 he hc hcl hd h0 (Nat.le_of_eq (Nat.zero_add k)) (Nat.le_of_eq (Nat.zero_add n)) ha hst hr hp (fun v w hv => by obtain ⟨e1, e2⟩ := hv; subst e1; subst e2; exact kk)
theorem j_cSi {wc wr w1 ws' : va_W} {r : Int32} {d' idx nL' na : Nat} {y' : MethodName} {cc' : ByteArray} {ret' : Option FieldType} {As rest : List Value} (hM : MC l x d' 0 0 y' cc' nL' ret' As wc (eI r w1)) (hC : COK y' cc' nL' ret' na)  (hV : SOK y.cls idx y') (hd : decode cc pc = .ok (.invokestatic idx, 3)) (h0 : d' + 1 ≤ d) (ha : As.length = na) (hst : st = As.reverse ++ rest) (hr : (rest.map fun v => v.category).sum ≤ 8) (hp : ws.Perm (wc ++ wr)) (hw : w1 ++ wr = ws') (kk : J M l x cc nL y d P k n (pc + 3) lv (.int r :: rest) ws') : J M l x cc nL y d P k n pc lv st ws := by
  subst hw
  exact j_callS hM hC hV hd h0 (Nat.le_of_eq (Nat.zero_add k)) (Nat.le_of_eq (Nat.zero_add n)) ha hst hr hp (fun v w hv => by obtain ⟨e1, e2⟩ := hv; subst e1; subst e2; exact kk)
theorem j_cSl {wc wr w1 ws' : va_W} {r : Int64} {d' idx nL' na : Nat} {y' : MethodName} {cc' : ByteArray} {ret' : Option FieldType} {As rest : List Value} (hM : MC l x d' 0 0 y' cc' nL' ret' As wc (eL r w1)) (hC : COK y' cc' nL' ret' na)  (hV : SOK y.cls idx y') (hd : decode cc pc = .ok (.invokestatic idx, 3)) (h0 : d' + 1 ≤ d) (ha : As.length = na) (hst : st = As.reverse ++ rest) (hr : (rest.map fun v => v.category).sum ≤ 8) (hp : ws.Perm (wc ++ wr)) (hw : w1 ++ wr = ws') (kk : J M l x cc nL y d P k n (pc + 3) lv (.long r :: rest) ws') : J M l x cc nL y d P k n pc lv st ws := by
  subst hw
  exact j_callS hM hC hV hd h0 (Nat.le_of_eq (Nat.zero_add k)) (Nat.le_of_eq (Nat.zero_add n)) ha hst hr hp (fun v w hv => by obtain ⟨e1, e2⟩ := hv; subst e1; subst e2; exact kk)
theorem j_cNi {wc wr w1 ws' : va_W} {r : Int32} {d' idx nL' na : Nat} {y' : MethodName} {cc' : ByteArray} {ret' : Option FieldType} {As rest : List Value} (hM : MC l x d' 0 0 y' cc' nL' ret' As wc (eI r w1)) (hC : COK y' cc' nL' ret' na) {host : String} (hV : NOK y.cls idx y' host) (hd : decode cc pc = .ok (.invokestatic idx, 3)) (h0 : d' + 1 ≤ d) (ha : As.length = na) (hst : st = As.reverse ++ rest) (hr : (rest.map fun v => v.category).sum ≤ 8) (hp : ws.Perm (wc ++ wr)) (hw : w1 ++ wr = ws') (kk : J M l x cc nL y d P k n (pc + 3) lv (.int r :: rest) ws') : J M l x cc nL y d P k n pc lv st ws := by
  subst hw
  exact j_callN hM hC hV hd h0 (Nat.le_of_eq (Nat.zero_add k)) (Nat.le_of_eq (Nat.zero_add n)) ha hst hr hp (fun v w hv => by obtain ⟨e1, e2⟩ := hv; subst e1; subst e2; exact kk)
end
end
section
/-! the house as a pure state: kinds, tired, asleep, hours in bed, how many, drowse, the hour; what the calls do to it -/
abbrev NS : Type := (Nat → Int32) × (Nat → Int32) × (Nat → Bool) × (Nat → Int32) × Nat × Int32 × Int32
def nb (x : Cx) (q : Nat → Nat) (u : NS) : va_W := [(q 0, .inr (2, [.ref (q 1), .ref (q 2), .ref (q 3), .ref (q 4), .int (nI u.2.2.2.2.1), .int u.2.2.2.2.2.1, .int u.2.2.2.2.2.2])), (q 1, .inl (x.2.1, 5, .inl u.1)), (q 2, .inl (x.2.1, 5, .inl u.2.1)), (q 3, .inl (x.2.2.1, 5, .inl (fun i => bI (u.2.2.1 i)))), (q 4, .inl (x.2.1, 5, .inl u.2.2.2.1))]
abbrev PG : Type := (Nat → Int32) × Nat
def pb (x : Cx) (q : Nat → Nat) (g : PG) : va_W := [(q 0, .inr (3, [.ref (q 1), .int (nI g.2)])), (q 1, .inl (x.2.1, 18, .inl g.1))]
abbrev SS : Type := (Nat → Int32) × (Nat → Int32) × Nat
def sb (x : Cx) (q : Nat → Nat) (v : SS) : va_W := [(q 0, .inr (4, [.ref (q 1), .ref (q 2), .int (nI v.2.2)])), (q 1, .inl (x.2.1, 6, .inl v.1)), (q 2, .inl (x.2.1, 6, .inl v.2.1))]
def kn (n : Nat) (l : Int32) : Bool := decide (0 ≤ l) && decide (l < nI n)
def may (kf : Nat → Int32) (sl : Nat → Bool) (i : Nat) : Bool := !sl i && decide (¬ kf i = 1)
def wb (kf tf : Nat → Int32) (sl : Nat → Bool) : Nat → Option Nat
  | 0 => none
  | i + 1 => if may kf sl i = true then (match wb kf tf sl i with
      | none => some i
      | some j => if tf i < tf j then some i else some j) else wb kf tf sl i
def cntS (sl : Nat → Bool) : Nat → Nat
  | 0 => 0
  | i + 1 => cntS sl i + (if sl i = true then 1 else 0)
def sumT (tf : Nat → Int32) : Nat → Int32
  | 0 => 0
  | i + 1 => sumT tf i + tf i
def ev (h : Int32) : Int32 := if h - h / 2 * 2 = 0 then 1 else 0
def tbh (k t h : Int32) (his : Bool) : Int32 := if k = 2 then ev h else if k = 3 then (if t < 6 then 1 else 0) else if k = 4 then ev h + bI his else 1
def stT (t : Int32) : Int32 := if t < 10 then t else 10
def stS (t : Int32) (s : Bool) : Bool := if t < 10 then (if 2 < t then s else false) else true
def cT (t : Int32) : Int32 := if 0 < t - 3 then t - 3 else 0
def mix {α : Type} (n : Nat) (f g : Nat → α) : Nat → α := fun i => if i < n then f i else g i
theorem mix_0 {α : Type} (f g : Nat → α) : mix 0 f g = g := by funext i; simp [mix]
theorem mix_in {α : Type} {f g : Nat → α} {n i : Nat} (h : i < n) : mix n f g i = f i := if_pos h
theorem mix_out {α : Type} {f g : Nat → α} {n i : Nat} (h : ¬ i < n) : mix n f g i = g i := if_neg h
theorem mix_self {α : Type} {f g : Nat → α} {i : Nat} : mix i f g i = g i := if_neg (Nat.lt_irrefl i)
theorem mix_upd (f g : Nat → Int32) (i : Nat) {v : Int32} (h : v = f i) : upd (mix i f g) i v = mix (i + 1) f g := by
  funext j
  by_cases e : j = i
  · subst e; simp [upd, mix, h]
  · have : j < i ↔ j < i + 1 := by omega
    simp [upd, mix, e, this]
theorem mix_bup (f g : Nat → Bool) (i : Nat) {v : Bool} (h : v = f i) : bup (mix i f g) i v = mix (i + 1) f g := by
  funext j
  by_cases e : j = i
  · subst e; simp [bup, mix, h]
  · have : j < i ↔ j < i + 1 := by omega
    simp [bup, mix, e, this]
theorem upd_same {f : Nat → Int32} {i : Nat} {v : Int32} (h : v = f i) : upd f i v = f := by
  funext j
  by_cases e : j = i
  · subst e; simp [upd, h]
  · simp [upd, e]
theorem bup_same {f : Nat → Bool} {i : Nat} {v : Bool} (h : v = f i) : bup f i v = f := by
  funext j
  by_cases e : j = i
  · subst e; simp [bup, h]
  · simp [bup, e]
theorem upd_upd (f : Nat → Int32) (i : Nat) (u v : Int32) : upd (upd f i u) i v = upd f i v := by
  funext j
  by_cases e : j = i <;> simp [upd, e]
theorem upd_self (f : Nat → Int32) (i : Nat) (u : Int32) : upd f i u i = u := if_pos rfl
def pT1 (tf : Nat → Int32) (d : Int32) (o : Option Nat) : Nat → Int32 := match o with
  | none => tf
  | some j => upd tf j (tf j + d)
def pB (bf : Nat → Int32) (o : Option Nat) : Nat → Int32 := match o with
  | none => bf
  | some j => upd bf j (bf j + 1)
def pX (kf tf1 : Nat → Int32) (sl : Nat → Bool) (h' : Int32) (o : Option Nat) (i : Nat) : Int32 := if sl i = true then cT (tf1 i) else tf1 i + tbh (kf i) (tf1 i) h' (o == some i)
def pT (kf tf1 : Nat → Int32) (sl : Nat → Bool) (h' : Int32) (o : Option Nat) (i : Nat) : Int32 := stT (pX kf tf1 sl h' o i)
def pS (kf tf1 : Nat → Int32) (sl : Nat → Bool) (h' : Int32) (o : Option Nat) (i : Nat) : Bool := stS (pX kf tf1 sl h' o i) (sl i)
/-- an hour -/
def ph (u : NS) : NS := match u with
  | (kf, tf, sl, bf, n, d, h) => (kf, mix n (pT kf (pT1 tf d (wb kf tf sl n)) sl (h + 1) (wb kf tf sl n)) (pT1 tf d (wb kf tf sl n)), mix n (pS kf (pT1 tf d (wb kf tf sl n)) sl (h + 1) (wb kf tf sl n)) sl, pB bf (wb kf tf sl n), n, d, h + 1)
/-- coffee for one, a lecture to one (or nobody) -/
def cof (u : NS) (j : Nat) : NS := match u with
  | (kf, tf, sl, bf, n, d, h) => (kf, if sl j = true then tf else upd tf j (cT (tf j)), sl, bf, n, d, h)
def lec (u : NS) (o : Option Nat) : NS := match u, o with
  | u, none => u
  | (kf, tf, sl, bf, n, d, h), some j => if sl j = true then (kf, tf, sl, bf, n, d, h) else (kf, upd tf j (stT (tf j + 2)), bup sl j (stS (tf j + 2) (sl j)), bf, n, d, h)
def wak (u : NS) (j : Nat) (v : Int32) : NS := match u with
  | (kf, tf, sl, bf, n, d, h) => (kf, upd tf j v, bup sl j false, bf, n, d, h)
def cpy (u w : NS) : NS := match u, w with
  | (kf, tf, sl, bf, n, d, h), (kf', tf', sl', bf', _, _, _) => (mix n kf kf', mix n tf tf', mix n sl sl', mix n bf bf', n, d, h)
def wbU (u : NS) : Option Nat := match u with
  | (kf, tf, sl, _, n, _, _) => wb kf tf sl n
theorem wb_lt {kf tf : Nat → Int32} {sl : Nat → Bool} : ∀ {n j : Nat}, wb kf tf sl n = some j → j < n
  | 0, j, h => by simp [wb] at h
  | n + 1, j, h => by
    unfold wb at h
    split at h
    · cases hw : wb kf tf sl n with
      | none => rw [hw] at h; simp at h; omega
      | some i =>
        rw [hw] at h
        have hi := wb_lt hw
        simp only at h
        split at h <;> simp at h <;> omega
    · have := wb_lt h
      omega
theorem kn_t {n j : Nat} (h : j < n) (hn : n < 2 ^ 31) : kn n (nI j) = true := by
  simp [kn, nI_pos' (show j < 2 ^ 31 by omega), nI_lt h hn]
theorem kn_m1 (n : Nat) : kn n (-1) = false := by
  have : ¬ (0 : Int32) ≤ -1 := by decide
  simp [kn, this]
theorem kn_f {n : Nat} (hn : n < 2 ^ 31) {l : Int32} (h : kn n l = true) : ∃ j : Nat, j < n ∧ l = nI j := by
  simp [kn] at h
  obtain ⟨j, hj, rfl⟩ := nI_of (x := l) (by
    have := h.1
    rw [Int32.le_iff_toInt_le] at this
    rw [Int32.lt_iff_toInt_lt]
    omega)
  exact ⟨j, (nI_ltI hj hn).mp h.2, rfl⟩
theorem oI_eq {o : Option Nat} {i : Nat} (hi : i < 2 ^ 31) (ho : ∀ j, o = some j → j < 2 ^ 31) : nI i = oI o ↔ o = some i := by
  cases o with
  | none =>
    simp only [oI, reduceCtorEq, iff_false]
    intro h
    have h1 := congrArg Int32.toInt h
    rw [nI_toInt hi] at h1
    have : (-1 : Int32).toInt = -1 := by decide
    omega
  | some j =>
    simp only [oI, Option.some.injEq]
    rw [nI_eq hi (ho j rfl)]
    exact eq_comm
theorem oI_m1 {o : Option Nat} (ho : ∀ j, o = some j → j < 2 ^ 31) : oI o = -1 ↔ o = none := by
  cases o with
  | none => simp [oI]
  | some j =>
    simp only [oI, reduceCtorEq, iff_false]
    intro h
    have h1 := congrArg Int32.toInt h
    rw [nI_toInt (ho j rfl)] at h1
    have : (-1 : Int32).toInt = -1 := by decide
    omega
end
section
/-! switches; the functions of WakefulBed that look at no object -/
section
variable {M : Mx} {l : Launch} {x : Cx} {cc : ByteArray} {nL : Nat} {y : MethodName} {d : Nat} {P : Option Value → va_W → Prop} {k n pc : Nat} {lv : List (Nat × Value)} {st : List Value} {ws : va_W}
theorem j_tabC {dflt lo hi : Int} {offs : Array Int} {len : Nat} {a : Int32} {off : Int} {tgt : Nat} (c : Int32) (j : Nat) (e : a = c) (hc : c.toInt = lo + j ∧ c.toInt ≤ hi) (hd : decode cc pc = .ok (.tableswitch dflt lo hi offs, len)) (ho : offs[j]? = some off) (ht : (pc : Int) + off = (tgt : Int)) (kk : J M l x cc nL y d P k n tgt lv st ws) : J M l x cc nL y d P k n pc lv (.int a :: st) ws :=
  j_tabIn hd (by rw [e]; omega) (by rw [e]; omega) (by rw [e, show (c.toInt - lo).toNat = j by omega]; exact ho) ht kk
theorem j_tabD {dflt lo hi : Int} {offs : Array Int} {len : Nat} {a : Int32} {tgt : Nat} (hd : decode cc pc = .ok (.tableswitch dflt lo hi offs, len)) (h : ∀ j : Nat, j < (hi - lo + 1).toNat → offs[j]? = some dflt ∨ ¬ a.toInt = lo + j) (ht : (pc : Int) + dflt = (tgt : Int)) (kk : J M l x cc nL y d P k n tgt lv st ws) : J M l x cc nL y d P k n pc lv (.int a :: st) ws := by
  by_cases h1 : a.toInt < lo
  · exact j_tabOut hd (Or.inl h1) ht kk
  · by_cases h2 : hi < a.toInt
    · exact j_tabOut hd (Or.inr h2) ht kk
    · refine j_tabIn hd h1 h2 ?_ ht kk
      rcases h (a.toInt - lo).toNat (by omega) with e | e
      · exact e
      · exact absurd (by omega) e
theorem j_lookC {dflt : Int} {ps : Array (Int × Int)} {len : Nat} {a : Int32} {off : Int} {tgt : Nat} (c : Int32) (e : a = c) (hd : decode cc pc = .ok (.lookupswitch dflt ps, len)) (hp : (ps.toList.zip (ps.toList.drop 1)).all (fun (a, next) => a.1 < next.1) = true) (ho : Op.lookupswitch.offset ps.toList dflt c.toInt = off) (ht : (pc : Int) + off = (tgt : Int)) (kk : J M l x cc nL y d P k n tgt lv st ws) : J M l x cc nL y d P k n pc lv (.int a :: st) ws :=
  j_lookup hd hp (by rw [e]; exact ho) ht kk
end
def isW (a b c : Int32) : Bool := decide (b ≤ a) && decide (a ≤ c)
def kbl (c : Int32) : Int32 := if c = 108 then 0 else if c = 109 then 3 else if c = 112 then 4 else if c = 118 then 2 else if c = 119 then 1 else -1
def alsoB (a o : Int32) : Bool := decide (o = 0) || decide (o = a) || (decide (o = 2) && decide (a = 4))
def nxS (s : Int32) : Int32 := (1103515245 * s + 12345) &&& 2147483647
def drO (s n : Int32) : Int32 := if n ≤ 0 then 0 else s / 65536 - s / 65536 / n * n
theorem le_of_nlt {a b : Int32} (h : ¬ a < b) : b ≤ a := by rw [Int32.lt_iff_toInt_lt] at h; rw [Int32.le_iff_toInt_le]; omega
theorem nle_of_lt {a b : Int32} (h : a < b) : ¬ b ≤ a := by rw [Int32.lt_iff_toInt_lt] at h; rw [Int32.le_iff_toInt_le]; omega
theorem nlt_of_le {a b : Int32} (h : a ≤ b) : ¬ b < a := by rw [Int32.le_iff_toInt_le] at h; rw [Int32.lt_iff_toInt_lt]; omega
theorem lt_of_nle {a b : Int32} (h : ¬ a ≤ b) : b < a := by rw [Int32.le_iff_toInt_le] at h; rw [Int32.lt_iff_toInt_lt]; omega
end
section
set_option maxHeartbeats 4000000 in
set_option maxRecDepth 100000 in
theorem tX5_isWithin (l : Launch) (x : Cx) (a b c : Int32) : MC l x 0 0 0 yX5_isWithin cX5_isWithin 3 (some .boolean) [.int a, .int b, .int c] ([]) (eI (bI (isW a b c)) []) := by
  refine MC.of (by decide) (Nat.le_of_ble_eq_true rfl) eB_fit (fun M => ?_)
  show J M l x cX5_isWithin 3 yX5_isWithin 0 (eI (bI (isW a b c)) []) 0 0 0 [(0, .int a), (1, .int b), (2, .int c)] [] ([])
  refine j_iload_n 0 dX5_isWithin_0 rfl rfl ?_
  refine j_iload_n 1 dX5_isWithin_1 rfl rfl ?_
  refine j_icmp_lt (tgt := 14) dX5_isWithin_2 (by decide) (fun h2 => ?_) (fun h2 => ?_)
  · skip
    refine j_iconst (v := 0) dX5_isWithin_14 (by decide) ?_
    exact j_iret _ dX5_isWithin_15 (List.Perm.refl _) ⟨by first | simp [isW, le_of_nlt h2, le_of_nlt h7, bI] | simp [isW, nle_of_lt h2, bI] | simp [isW, nle_of_lt h7, bI], by rfl⟩
  · skip
    refine j_iload_n 0 dX5_isWithin_5 rfl rfl ?_
    refine j_iload_n 2 dX5_isWithin_6 rfl rfl ?_
    refine j_icmp_gt (tgt := 14) dX5_isWithin_7 (by decide) (fun h7 => ?_) (fun h7 => ?_)
    · skip
      refine j_iconst (v := 0) dX5_isWithin_14 (by decide) ?_
      exact j_iret _ dX5_isWithin_15 (List.Perm.refl _) ⟨by first | simp [isW, le_of_nlt h2, le_of_nlt h7, bI] | simp [isW, nle_of_lt h2, bI] | simp [isW, nle_of_lt h7, bI], by rfl⟩
    · skip
      refine j_iconst (v := 1) dX5_isWithin_10 (by decide) ?_
      refine j_goto (tgt := 15) dX5_isWithin_11 (by decide) ?_
      exact j_iret _ dX5_isWithin_15 (List.Perm.refl _) ⟨by first | simp [isW, le_of_nlt h2, le_of_nlt h7, bI] | simp [isW, nle_of_lt h2, bI] | simp [isW, nle_of_lt h7, bI], by rfl⟩
set_option maxHeartbeats 4000000 in
set_option maxRecDepth 100000 in
theorem tX5_kindByLetter (l : Launch) (x : Cx) (c : Int32) : MC l x 0 0 0 yX5_kindByLetter cX5_kindByLetter 1 (some .int) [.int c] ([]) (eI (kbl c) []) := by
  refine MC.of (by decide) (Nat.le_of_ble_eq_true rfl) eI_fit (fun M => ?_)
  show J M l x cX5_kindByLetter 1 yX5_kindByLetter 0 (eI (kbl c) []) 0 0 0 [(0, .int c)] [] ([])
  refine j_iload_n 0 dX5_kindByLetter_0 rfl rfl ?_
  by_cases s1_108 : c = 108
  · refine j_tabC (108) 0 s1_108 (by decide) dX5_kindByLetter_1 rfl (by decide : (1 : Int) + 63 = ((64 : Nat) : Int)) ?_
    refine j_iconst (v := 0) dX5_kindByLetter_64 (by decide) ?_
    exact j_iret _ dX5_kindByLetter_65 (List.Perm.refl _) ⟨by simp [kbl, *], by rfl⟩
  by_cases s1_109 : c = 109
  · refine j_tabC (109) 1 s1_109 (by decide) dX5_kindByLetter_1 rfl (by decide : (1 : Int) + 69 = ((70 : Nat) : Int)) ?_
    refine j_iconst (v := 3) dX5_kindByLetter_70 (by decide) ?_
    exact j_iret _ dX5_kindByLetter_71 (List.Perm.refl _) ⟨by simp [kbl, *], by rfl⟩
  by_cases s1_112 : c = 112
  · refine j_tabC (112) 4 s1_112 (by decide) dX5_kindByLetter_1 rfl (by decide : (1 : Int) + 71 = ((72 : Nat) : Int)) ?_
    refine j_iconst (v := 4) dX5_kindByLetter_72 (by decide) ?_
    exact j_iret _ dX5_kindByLetter_73 (List.Perm.refl _) ⟨by simp [kbl, *], by rfl⟩
  by_cases s1_118 : c = 118
  · refine j_tabC (118) 10 s1_118 (by decide) dX5_kindByLetter_1 rfl (by decide : (1 : Int) + 67 = ((68 : Nat) : Int)) ?_
    refine j_iconst (v := 2) dX5_kindByLetter_68 (by decide) ?_
    exact j_iret _ dX5_kindByLetter_69 (List.Perm.refl _) ⟨by simp [kbl, *], by rfl⟩
  by_cases s1_119 : c = 119
  · refine j_tabC (119) 11 s1_119 (by decide) dX5_kindByLetter_1 rfl (by decide : (1 : Int) + 65 = ((66 : Nat) : Int)) ?_
    refine j_iconst (v := 1) dX5_kindByLetter_66 (by decide) ?_
    exact j_iret _ dX5_kindByLetter_67 (List.Perm.refl _) ⟨by simp [kbl, *], by rfl⟩
  refine j_tabD dX5_kindByLetter_1 (fun j hj => match j, hj with | 0, _ => Or.inr (lv_neT s1_108 (by decide)) | 1, _ => Or.inr (lv_neT s1_109 (by decide)) | 2, _ => Or.inl rfl | 3, _ => Or.inl rfl | 4, _ => Or.inr (lv_neT s1_112 (by decide)) | 5, _ => Or.inl rfl | 6, _ => Or.inl rfl | 7, _ => Or.inl rfl | 8, _ => Or.inl rfl | 9, _ => Or.inl rfl | 10, _ => Or.inr (lv_neT s1_118 (by decide)) | 11, _ => Or.inr (lv_neT s1_119 (by decide)) | j + 12, hj => absurd hj (by omega)) (by decide : (1 : Int) + 73 = ((74 : Nat) : Int)) ?_
  refine j_iconst (v := (-1)) dX5_kindByLetter_74 (by decide) ?_
  exact j_iret _ dX5_kindByLetter_75 (List.Perm.refl _) ⟨by simp [kbl, *], by rfl⟩
set_option maxHeartbeats 4000000 in
set_option maxRecDepth 100000 in
theorem tX5_isAlso (l : Launch) (x : Cx) (a o : Int32) : MC l x 0 0 0 yX5_isAlso cX5_isAlso 2 (some .boolean) [.int a, .int o] ([]) (eI (bI (alsoB a o)) []) := by
  refine MC.of (by decide) (Nat.le_of_ble_eq_true rfl) eB_fit (fun M => ?_)
  show J M l x cX5_isAlso 2 yX5_isAlso 0 (eI (bI (alsoB a o)) []) 0 0 0 [(0, .int a), (1, .int o)] [] ([])
  refine j_iload_n 1 dX5_isAlso_0 rfl rfl ?_
  refine j_if_eq (tgt := 19) dX5_isAlso_1 (by decide) (fun h1 => ?_) (fun h1 => ?_)
  · skip
    refine j_iconst (v := 1) dX5_isAlso_19 (by decide) ?_
    refine j_goto (tgt := 24) dX5_isAlso_20 (by decide) ?_
    exact j_iret _ dX5_isAlso_24 (List.Perm.refl _) ⟨by first | (simp [alsoB, bI, *]; done) | (subst h11; simp [alsoB, bI, *]; done), by rfl⟩
  · skip
    refine j_iload_n 1 dX5_isAlso_4 rfl rfl ?_
    refine j_iload_n 0 dX5_isAlso_5 rfl rfl ?_
    refine j_icmp_eq (tgt := 19) dX5_isAlso_6 (by decide) (fun h6 => ?_) (fun h6 => ?_)
    · skip
      refine j_iconst (v := 1) dX5_isAlso_19 (by decide) ?_
      refine j_goto (tgt := 24) dX5_isAlso_20 (by decide) ?_
      exact j_iret _ dX5_isAlso_24 (List.Perm.refl _) ⟨by first | (simp [alsoB, bI, *]; done) | (subst h11; simp [alsoB, bI, *]; done), by rfl⟩
    · skip
      refine j_iload_n 1 dX5_isAlso_9 rfl rfl ?_
      refine j_iconst (v := 2) dX5_isAlso_10 (by decide) ?_
      refine j_icmp_ne (tgt := 23) dX5_isAlso_11 (by decide) (fun h11 => ?_) (fun h11 => ?_)
      · skip
        refine j_iconst (v := 0) dX5_isAlso_23 (by decide) ?_
        exact j_iret _ dX5_isAlso_24 (List.Perm.refl _) ⟨by first | (simp [alsoB, bI, *]; done) | (subst h11; simp [alsoB, bI, *]; done), by rfl⟩
      · skip
        refine j_iload_n 0 dX5_isAlso_14 rfl rfl ?_
        refine j_iconst (v := 4) dX5_isAlso_15 (by decide) ?_
        refine j_icmp_ne (tgt := 23) dX5_isAlso_16 (by decide) (fun h16 => ?_) (fun h16 => ?_)
        · skip
          refine j_iconst (v := 0) dX5_isAlso_23 (by decide) ?_
          exact j_iret _ dX5_isAlso_24 (List.Perm.refl _) ⟨by first | (simp [alsoB, bI, *]; done) | (subst h11; simp [alsoB, bI, *]; done), by rfl⟩
        · skip
          refine j_iconst (v := 1) dX5_isAlso_19 (by decide) ?_
          refine j_goto (tgt := 24) dX5_isAlso_20 (by decide) ?_
          exact j_iret _ dX5_isAlso_24 (List.Perm.refl _) ⟨by first | (simp [alsoB, bI, *]; done) | (subst h11; simp [alsoB, bI, *]; done), by rfl⟩
set_option maxHeartbeats 4000000 in
set_option maxRecDepth 100000 in
theorem tX5_nextSeed (l : Launch) (x : Cx) (s : Int32) : MC l x 0 0 0 yX5_nextSeed cX5_nextSeed 1 (some .int) [.int s] ([]) (eI (nxS s) []) := by
  refine MC.of (by decide) (Nat.le_of_ble_eq_true rfl) eI_fit (fun M => ?_)
  show J M l x cX5_nextSeed 1 yX5_nextSeed 0 (eI (nxS s) []) 0 0 0 [(0, .int s)] [] ([])
  refine j_ldc dX5_nextSeed_0 pX5_215 ?_
  refine j_iload_n 0 dX5_nextSeed_2 rfl rfl ?_
  refine j_imul dX5_nextSeed_3 ?_
  refine j_sipush (v := 12345) dX5_nextSeed_4 (by decide) ?_
  refine j_iadd dX5_nextSeed_7 ?_
  refine j_ldc dX5_nextSeed_8 pX5_216 ?_
  refine j_iand dX5_nextSeed_10 ?_
  exact j_iret _ dX5_nextSeed_11 (List.Perm.refl _) ⟨by rfl, by rfl⟩
set_option maxHeartbeats 4000000 in
set_option maxRecDepth 100000 in
theorem tX5_drawOf (l : Launch) (x : Cx) (s n : Int32) : MC l x 0 0 0 yX5_drawOf cX5_drawOf 2 (some .int) [.int s, .int n] ([]) (eI (drO s n) []) := by
  refine MC.of (by decide) (Nat.le_of_ble_eq_true rfl) eI_fit (fun M => ?_)
  show J M l x cX5_drawOf 2 yX5_drawOf 0 (eI (drO s n) []) 0 0 0 [(0, .int s), (1, .int n)] [] ([])
  refine j_iload_n 1 dX5_drawOf_0 rfl rfl ?_
  refine j_if_le (tgt := 13) dX5_drawOf_1 (by decide) (fun h1 => ?_) (fun h1 => ?_)
  · skip
    refine j_iconst (v := 0) dX5_drawOf_13 (by decide) ?_
    exact j_iret _ dX5_drawOf_14 (List.Perm.refl _) ⟨by simp [drO, h1], by rfl⟩
  · skip
    refine j_iload_n 0 dX5_drawOf_4 rfl rfl ?_
    refine j_ldc dX5_drawOf_5 pX5_217 ?_
    refine j_idiv dX5_drawOf_7 (by decide) ?_
    refine j_iload_n 1 dX5_drawOf_8 rfl rfl ?_
    refine j_irem dX5_drawOf_9 (fun e => h1 (by rw [e]; decide)) ?_
    refine j_goto (tgt := 14) dX5_drawOf_10 (by decide) ?_
    exact j_iret _ dX5_drawOf_14 (List.Perm.refl _) ⟨by simp [drO, h1], by rfl⟩
set_option maxHeartbeats 4000000 in
set_option maxRecDepth 100000 in
theorem tX5_mixed (l : Launch) (x : Cx) (h v : Int64) : MC l x 0 0 0 yX5_mixed cX5_mixed 4 (some .long) [.long h, .long v] ([]) (eL (31 * h + v) []) := by
  refine MC.of (by decide) (Nat.le_of_ble_eq_true rfl) eL_fit (fun M => ?_)
  show J M l x cX5_mixed 4 yX5_mixed 0 (eL (31 * h + v) []) 0 0 0 [(0, .long h), (2, .long v)] [] ([])
  refine j_ldc2 dX5_mixed_0 pX5_213 ?_
  refine j_lload_n 0 dX5_mixed_3 rfl rfl ?_
  refine j_lmul dX5_mixed_4 ?_
  refine j_lload_n 1 dX5_mixed_5 rfl rfl ?_
  refine j_ladd dX5_mixed_6 ?_
  exact j_lret _ dX5_mixed_7 (List.Perm.refl _) ⟨by rfl, by rfl⟩
set_option maxHeartbeats 4000000 in
set_option maxRecDepth 100000 in
theorem tX5_tiredByHour (l : Launch) (x : Cx) (a t h : Int32) (b : Bool) : MC l x 0 0 0 yX5_tiredByHour cX5_tiredByHour 5 (some .int) [.int a, .int t, .int h, .int (bI b)] ([]) (eI (tbh a t h b) []) := by
  refine MC.of (by decide) (Nat.le_of_ble_eq_true rfl) eI_fit (fun M => ?_)
  show J M l x cX5_tiredByHour 5 yX5_tiredByHour 0 (eI (tbh a t h b) []) 0 0 0 [(0, .int a), (1, .int t), (2, .int h), (3, .int (bI b))] [] ([])
  refine j_iload_n 2 dX5_tiredByHour_0 rfl rfl ?_
  refine j_iconst (v := 2) dX5_tiredByHour_1 (by decide) ?_
  refine j_irem dX5_tiredByHour_2 (by decide) ?_
  refine j_if_ne (tgt := 10) dX5_tiredByHour_3 (by decide) (fun h3 => ?_) (fun h3 => ?_)
  · skip
    refine j_iconst (v := 0) dX5_tiredByHour_10 (by decide) ?_
    refine j_istore (lv' := [(4, .int 0), (0, .int a), (1, .int t), (2, .int h), (3, .int (bI b))]) dX5_tiredByHour_11 (by decide) rfl ?_
    refine j_iload_n 1 dX5_tiredByHour_13 rfl rfl ?_
    by_cases s14_2 : a = 2
    · refine j_tabC (2) 0 s14_2 (by decide) dX5_tiredByHour_14 rfl (by decide : (14 : Int) + 26 = ((40 : Nat) : Int)) ?_
      refine j_iload 0 dX5_tiredByHour_40 rfl ?_
      exact j_iret _ dX5_tiredByHour_42 (List.Perm.refl _) ⟨by simp [tbh, ev, bI, *], by rfl⟩
    by_cases s14_3 : a = 3
    · refine j_tabC (3) 1 s14_3 (by decide) dX5_tiredByHour_14 rfl (by decide : (14 : Int) + 29 = ((43 : Nat) : Int)) ?_
      refine j_iload_n 2 dX5_tiredByHour_43 rfl rfl ?_
      refine j_bipush (v := 6) dX5_tiredByHour_44 (by decide) ?_
      refine j_icmp_ge (tgt := 53) dX5_tiredByHour_46 (by decide) (fun h46 => ?_) (fun h46 => ?_)
      · skip
        refine j_iconst (v := 0) dX5_tiredByHour_53 (by decide) ?_
        exact j_iret _ dX5_tiredByHour_54 (List.Perm.refl _) ⟨by simp [tbh, ev, bI, *], by rfl⟩
      · skip
        refine j_iconst (v := 1) dX5_tiredByHour_49 (by decide) ?_
        refine j_goto (tgt := 54) dX5_tiredByHour_50 (by decide) ?_
        exact j_iret _ dX5_tiredByHour_54 (List.Perm.refl _) ⟨by simp [tbh, ev, bI, *], by rfl⟩
    by_cases s14_4 : a = 4
    · refine j_tabC (4) 2 s14_4 (by decide) dX5_tiredByHour_14 rfl (by decide : (14 : Int) + 41 = ((55 : Nat) : Int)) ?_
      refine j_iload 0 dX5_tiredByHour_55 rfl ?_
      refine j_iload_n 4 dX5_tiredByHour_57 rfl rfl ?_
      refine j_ifb_eq (b := b) (tgt := 65) dX5_tiredByHour_58 (by decide) (fun h58 => ?_) (fun h58 => ?_)
      · skip
        refine j_iconst (v := bI false) dX5_tiredByHour_65 (by decide) ?_
        refine j_iadd dX5_tiredByHour_66 ?_
        exact j_iret _ dX5_tiredByHour_67 (List.Perm.refl _) ⟨by simp [tbh, ev, bI, *], by rfl⟩
      · skip
        refine j_iconst (v := bI true) dX5_tiredByHour_61 (by decide) ?_
        refine j_goto (tgt := 66) dX5_tiredByHour_62 (by decide) ?_
        refine j_iadd dX5_tiredByHour_66 ?_
        exact j_iret _ dX5_tiredByHour_67 (List.Perm.refl _) ⟨by simp [tbh, ev, bI, *], by rfl⟩
    refine j_tabD dX5_tiredByHour_14 (fun j hj => match j, hj with | 0, _ => Or.inr (lv_neT s14_2 (by decide)) | 1, _ => Or.inr (lv_neT s14_3 (by decide)) | 2, _ => Or.inr (lv_neT s14_4 (by decide)) | j + 3, hj => absurd hj (by omega)) (by decide : (14 : Int) + 54 = ((68 : Nat) : Int)) ?_
    refine j_iconst (v := 1) dX5_tiredByHour_68 (by decide) ?_
    exact j_iret _ dX5_tiredByHour_69 (List.Perm.refl _) ⟨by simp [tbh, ev, bI, *], by rfl⟩
  · skip
    refine j_iconst (v := 1) dX5_tiredByHour_6 (by decide) ?_
    refine j_goto (tgt := 11) dX5_tiredByHour_7 (by decide) ?_
    refine j_istore (lv' := [(4, .int 1), (0, .int a), (1, .int t), (2, .int h), (3, .int (bI b))]) dX5_tiredByHour_11 (by decide) rfl ?_
    refine j_iload_n 1 dX5_tiredByHour_13 rfl rfl ?_
    by_cases s14_2 : a = 2
    · refine j_tabC (2) 0 s14_2 (by decide) dX5_tiredByHour_14 rfl (by decide : (14 : Int) + 26 = ((40 : Nat) : Int)) ?_
      refine j_iload 0 dX5_tiredByHour_40 rfl ?_
      exact j_iret _ dX5_tiredByHour_42 (List.Perm.refl _) ⟨by simp [tbh, ev, bI, *], by rfl⟩
    by_cases s14_3 : a = 3
    · refine j_tabC (3) 1 s14_3 (by decide) dX5_tiredByHour_14 rfl (by decide : (14 : Int) + 29 = ((43 : Nat) : Int)) ?_
      refine j_iload_n 2 dX5_tiredByHour_43 rfl rfl ?_
      refine j_bipush (v := 6) dX5_tiredByHour_44 (by decide) ?_
      refine j_icmp_ge (tgt := 53) dX5_tiredByHour_46 (by decide) (fun h46 => ?_) (fun h46 => ?_)
      · skip
        refine j_iconst (v := 0) dX5_tiredByHour_53 (by decide) ?_
        exact j_iret _ dX5_tiredByHour_54 (List.Perm.refl _) ⟨by simp [tbh, ev, bI, *], by rfl⟩
      · skip
        refine j_iconst (v := 1) dX5_tiredByHour_49 (by decide) ?_
        refine j_goto (tgt := 54) dX5_tiredByHour_50 (by decide) ?_
        exact j_iret _ dX5_tiredByHour_54 (List.Perm.refl _) ⟨by simp [tbh, ev, bI, *], by rfl⟩
    by_cases s14_4 : a = 4
    · refine j_tabC (4) 2 s14_4 (by decide) dX5_tiredByHour_14 rfl (by decide : (14 : Int) + 41 = ((55 : Nat) : Int)) ?_
      refine j_iload 0 dX5_tiredByHour_55 rfl ?_
      refine j_iload_n 4 dX5_tiredByHour_57 rfl rfl ?_
      refine j_ifb_eq (b := b) (tgt := 65) dX5_tiredByHour_58 (by decide) (fun h58 => ?_) (fun h58 => ?_)
      · skip
        refine j_iconst (v := bI false) dX5_tiredByHour_65 (by decide) ?_
        refine j_iadd dX5_tiredByHour_66 ?_
        exact j_iret _ dX5_tiredByHour_67 (List.Perm.refl _) ⟨by simp [tbh, ev, bI, *], by rfl⟩
      · skip
        refine j_iconst (v := bI true) dX5_tiredByHour_61 (by decide) ?_
        refine j_goto (tgt := 66) dX5_tiredByHour_62 (by decide) ?_
        refine j_iadd dX5_tiredByHour_66 ?_
        exact j_iret _ dX5_tiredByHour_67 (List.Perm.refl _) ⟨by simp [tbh, ev, bI, *], by rfl⟩
    refine j_tabD dX5_tiredByHour_14 (fun j hj => match j, hj with | 0, _ => Or.inr (lv_neT s14_2 (by decide)) | 1, _ => Or.inr (lv_neT s14_3 (by decide)) | 2, _ => Or.inr (lv_neT s14_4 (by decide)) | j + 3, hj => absurd hj (by omega)) (by decide : (14 : Int) + 54 = ((68 : Nat) : Int)) ?_
    refine j_iconst (v := 1) dX5_tiredByHour_68 (by decide) ?_
    exact j_iret _ dX5_tiredByHour_69 (List.Perm.refl _) ⟨by simp [tbh, ev, bI, *], by rfl⟩
end
section
set_option maxHeartbeats 4000000 in
set_option maxRecDepth 100000 in
theorem tX2_lodgers (l : Launch) (x : Cx) (q : Nat → Nat) (kf tf : Nat → Int32) (sl : Nat → Bool) (bf : Nat → Int32) (n : Nat) (d h : Int32) : MC l x 0 0 0 yX2_lodgers cX2_lodgers 1 (some .int) [.ref (q 0)] (nb x q (kf, tf, sl, bf, n, d, h)) (eI (nI n) (nb x q (kf, tf, sl, bf, n, d, h))) := by
  refine MC.of (by decide) (Nat.le_of_ble_eq_true rfl) eI_fit (fun M => ?_)
  show J M l x cX2_lodgers 1 yX2_lodgers 0 (eI (nI n) (nb x q (kf, tf, sl, bf, n, d, h))) 0 0 0 [(0, .ref (q 0))] [] (nb x q (kf, tf, sl, bf, n, d, h))
  refine j_aload_n 0 dX2_lodgers_0 rfl rfl ?_
  refine j_get (v := .int (nI n)) 0 dX2_lodgers_1 fX2_25 rfl rfl ?_
  exact j_iret _ dX2_lodgers_4 (List.Perm.refl _) ⟨by rfl, by rfl⟩
set_option maxHeartbeats 4000000 in
set_option maxRecDepth 100000 in
theorem tX2_drowse (l : Launch) (x : Cx) (q : Nat → Nat) (kf tf : Nat → Int32) (sl : Nat → Bool) (bf : Nat → Int32) (n : Nat) (d h : Int32) : MC l x 0 0 0 yX2_drowse cX2_drowse 1 (some .int) [.ref (q 0)] (nb x q (kf, tf, sl, bf, n, d, h)) (eI (d) (nb x q (kf, tf, sl, bf, n, d, h))) := by
  refine MC.of (by decide) (Nat.le_of_ble_eq_true rfl) eI_fit (fun M => ?_)
  show J M l x cX2_drowse 1 yX2_drowse 0 (eI (d) (nb x q (kf, tf, sl, bf, n, d, h))) 0 0 0 [(0, .ref (q 0))] [] (nb x q (kf, tf, sl, bf, n, d, h))
  refine j_aload_n 0 dX2_drowse_0 rfl rfl ?_
  refine j_get (v := .int d) 0 dX2_drowse_1 fX2_29 rfl rfl ?_
  exact j_iret _ dX2_drowse_4 (List.Perm.refl _) ⟨by rfl, by rfl⟩
set_option maxHeartbeats 4000000 in
set_option maxRecDepth 100000 in
theorem tX2_hoursPassed (l : Launch) (x : Cx) (q : Nat → Nat) (kf tf : Nat → Int32) (sl : Nat → Bool) (bf : Nat → Int32) (n : Nat) (d h : Int32) : MC l x 0 0 0 yX2_hoursPassed cX2_hoursPassed 1 (some .int) [.ref (q 0)] (nb x q (kf, tf, sl, bf, n, d, h)) (eI (h) (nb x q (kf, tf, sl, bf, n, d, h))) := by
  refine MC.of (by decide) (Nat.le_of_ble_eq_true rfl) eI_fit (fun M => ?_)
  show J M l x cX2_hoursPassed 1 yX2_hoursPassed 0 (eI (h) (nb x q (kf, tf, sl, bf, n, d, h))) 0 0 0 [(0, .ref (q 0))] [] (nb x q (kf, tf, sl, bf, n, d, h))
  refine j_aload_n 0 dX2_hoursPassed_0 rfl rfl ?_
  refine j_get (v := .int h) 0 dX2_hoursPassed_1 fX2_32 rfl rfl ?_
  exact j_iret _ dX2_hoursPassed_4 (List.Perm.refl _) ⟨by rfl, by rfl⟩
set_option maxHeartbeats 4000000 in
set_option maxRecDepth 100000 in
theorem tX2_knows (l : Launch) (x : Cx) (q : Nat → Nat) (kf tf : Nat → Int32) (sl : Nat → Bool) (bf : Nat → Int32) (n : Nat) (d h : Int32) (a : Int32) : MC l x 0 0 0 yX2_knows cX2_knows 2 (some .boolean) [.ref (q 0), .int a] (nb x q (kf, tf, sl, bf, n, d, h)) (eI (bI (kn n a)) (nb x q (kf, tf, sl, bf, n, d, h))) := by
  refine MC.of (by decide) (Nat.le_of_ble_eq_true rfl) eB_fit (fun M => ?_)
  show J M l x cX2_knows 2 yX2_knows 0 (eI (bI (kn n a)) (nb x q (kf, tf, sl, bf, n, d, h))) 0 0 0 [(0, .ref (q 0)), (1, .int a)] [] (nb x q (kf, tf, sl, bf, n, d, h))
  refine j_iload_n 1 dX2_knows_0 rfl rfl ?_
  refine j_if_lt (tgt := 16) dX2_knows_1 (by decide) (fun h1 => ?_) (fun h1 => ?_)
  · skip
    refine j_iconst (v := 0) dX2_knows_16 (by decide) ?_
    exact j_iret _ dX2_knows_17 (List.Perm.refl _) ⟨by first | (simp [kn, bI, le_of_nlt h1, lt_of_nle h9]; done) | (simp [kn, bI, nlt_of_le h9]; done) | (simp [kn, bI, nle_of_lt h1]; done), by rfl⟩
  · skip
    refine j_iload_n 1 dX2_knows_4 rfl rfl ?_
    refine j_aload_n 0 dX2_knows_5 rfl rfl ?_
    refine j_get (v := .int (nI n)) 0 dX2_knows_6 fX2_25 rfl rfl ?_
    refine j_icmp_ge (tgt := 16) dX2_knows_9 (by decide) (fun h9 => ?_) (fun h9 => ?_)
    · skip
      refine j_iconst (v := 0) dX2_knows_16 (by decide) ?_
      exact j_iret _ dX2_knows_17 (List.Perm.refl _) ⟨by first | (simp [kn, bI, le_of_nlt h1, lt_of_nle h9]; done) | (simp [kn, bI, nlt_of_le h9]; done) | (simp [kn, bI, nle_of_lt h1]; done), by rfl⟩
    · skip
      refine j_iconst (v := 1) dX2_knows_12 (by decide) ?_
      refine j_goto (tgt := 17) dX2_knows_13 (by decide) ?_
      exact j_iret _ dX2_knows_17 (List.Perm.refl _) ⟨by first | (simp [kn, bI, le_of_nlt h1, lt_of_nle h9]; done) | (simp [kn, bI, nlt_of_le h9]; done) | (simp [kn, bI, nle_of_lt h1]; done), by rfl⟩
set_option maxHeartbeats 4000000 in
set_option maxRecDepth 100000 in
theorem tX2_kindOf (l : Launch) (x : Cx) (q : Nat → Nat) (kf tf : Nat → Int32) (sl : Nat → Bool) (bf : Nat → Int32) (n : Nat) (d h : Int32) (hn : n ≤ 5) (j : Nat) (hj : j < n) : MC l x 1 0 0 yX2_kindOf cX2_kindOf 2 (some .int) [.ref (q 0), .int (nI j)] (nb x q (kf, tf, sl, bf, n, d, h)) (eI (kf j) (nb x q (kf, tf, sl, bf, n, d, h))) := by
  refine MC.of (by decide) (Nat.le_of_ble_eq_true rfl) eI_fit (fun M => ?_)
  show J M l x cX2_kindOf 2 yX2_kindOf 1 (eI (kf j) (nb x q (kf, tf, sl, bf, n, d, h))) 0 0 0 [(0, .ref (q 0)), (1, .int (nI j))] [] (nb x q (kf, tf, sl, bf, n, d, h))
  refine j_aload_n 0 dX2_kindOf_0 rfl rfl ?_
  refine j_iload_n 1 dX2_kindOf_1 rfl rfl ?_
  refine j_cVi (As := [.int (nI j)]) (rest := []) (wr := []) (ws' := nb x q (kf, tf, sl, bf, n, d, h)) (tX2_knows l x q kf tf sl bf n d h (nI j)) kX2_knows 0 rfl rfl rfl vX2_55 dX2_kindOf_2 (by decide) rfl rfl (Nat.le_of_ble_eq_true rfl) (pm_0 _) (List.append_nil _) ?_
  refine j_ifb_eq (b := kn n (nI j)) (tgt := 17) dX2_kindOf_5 (by decide) (fun h5 => absurd h5 (by rw [kn_t (by omega) (by omega)]; decide)) (fun h5 => ?_)
  refine j_aload_n 0 dX2_kindOf_8 rfl rfl ?_
  refine j_get (v := .ref (q 1)) 0 dX2_kindOf_9 fX2_9 rfl rfl ?_
  refine j_iload_n 1 dX2_kindOf_12 rfl rfl ?_
  refine j_ialdN (i := j) (f := kf) 1 dX2_kindOf_13 rfl (by omega) (by decide) ?_
  refine j_goto (tgt := 18) dX2_kindOf_14 (by decide) ?_
  exact j_iret _ dX2_kindOf_18 (List.Perm.refl _) ⟨by rfl, by rfl⟩
set_option maxHeartbeats 4000000 in
set_option maxRecDepth 100000 in
theorem tX2_tiredOf (l : Launch) (x : Cx) (q : Nat → Nat) (kf tf : Nat → Int32) (sl : Nat → Bool) (bf : Nat → Int32) (n : Nat) (d h : Int32) (hn : n ≤ 5) (j : Nat) (hj : j < n) : MC l x 1 0 0 yX2_tiredOf cX2_tiredOf 2 (some .int) [.ref (q 0), .int (nI j)] (nb x q (kf, tf, sl, bf, n, d, h)) (eI (tf j) (nb x q (kf, tf, sl, bf, n, d, h))) := by
  refine MC.of (by decide) (Nat.le_of_ble_eq_true rfl) eI_fit (fun M => ?_)
  show J M l x cX2_tiredOf 2 yX2_tiredOf 1 (eI (tf j) (nb x q (kf, tf, sl, bf, n, d, h))) 0 0 0 [(0, .ref (q 0)), (1, .int (nI j))] [] (nb x q (kf, tf, sl, bf, n, d, h))
  refine j_aload_n 0 dX2_tiredOf_0 rfl rfl ?_
  refine j_iload_n 1 dX2_tiredOf_1 rfl rfl ?_
  refine j_cVi (As := [.int (nI j)]) (rest := []) (wr := []) (ws' := nb x q (kf, tf, sl, bf, n, d, h)) (tX2_knows l x q kf tf sl bf n d h (nI j)) kX2_knows 0 rfl rfl rfl vX2_55 dX2_tiredOf_2 (by decide) rfl rfl (Nat.le_of_ble_eq_true rfl) (pm_0 _) (List.append_nil _) ?_
  refine j_ifb_eq (b := kn n (nI j)) (tgt := 17) dX2_tiredOf_5 (by decide) (fun h5 => absurd h5 (by rw [kn_t (by omega) (by omega)]; decide)) (fun h5 => ?_)
  refine j_aload_n 0 dX2_tiredOf_8 rfl rfl ?_
  refine j_get (v := .ref (q 2)) 0 dX2_tiredOf_9 fX2_15 rfl rfl ?_
  refine j_iload_n 1 dX2_tiredOf_12 rfl rfl ?_
  refine j_ialdN (i := j) (f := tf) 2 dX2_tiredOf_13 rfl (by omega) (by decide) ?_
  refine j_goto (tgt := 18) dX2_tiredOf_14 (by decide) ?_
  exact j_iret _ dX2_tiredOf_18 (List.Perm.refl _) ⟨by rfl, by rfl⟩
set_option maxHeartbeats 4000000 in
set_option maxRecDepth 100000 in
theorem tX2_bedHoursOf (l : Launch) (x : Cx) (q : Nat → Nat) (kf tf : Nat → Int32) (sl : Nat → Bool) (bf : Nat → Int32) (n : Nat) (d h : Int32) (hn : n ≤ 5) (j : Nat) (hj : j < n) : MC l x 1 0 0 yX2_bedHoursOf cX2_bedHoursOf 2 (some .int) [.ref (q 0), .int (nI j)] (nb x q (kf, tf, sl, bf, n, d, h)) (eI (bf j) (nb x q (kf, tf, sl, bf, n, d, h))) := by
  refine MC.of (by decide) (Nat.le_of_ble_eq_true rfl) eI_fit (fun M => ?_)
  show J M l x cX2_bedHoursOf 2 yX2_bedHoursOf 1 (eI (bf j) (nb x q (kf, tf, sl, bf, n, d, h))) 0 0 0 [(0, .ref (q 0)), (1, .int (nI j))] [] (nb x q (kf, tf, sl, bf, n, d, h))
  refine j_aload_n 0 dX2_bedHoursOf_0 rfl rfl ?_
  refine j_iload_n 1 dX2_bedHoursOf_1 rfl rfl ?_
  refine j_cVi (As := [.int (nI j)]) (rest := []) (wr := []) (ws' := nb x q (kf, tf, sl, bf, n, d, h)) (tX2_knows l x q kf tf sl bf n d h (nI j)) kX2_knows 0 rfl rfl rfl vX2_55 dX2_bedHoursOf_2 (by decide) rfl rfl (Nat.le_of_ble_eq_true rfl) (pm_0 _) (List.append_nil _) ?_
  refine j_ifb_eq (b := kn n (nI j)) (tgt := 17) dX2_bedHoursOf_5 (by decide) (fun h5 => absurd h5 (by rw [kn_t (by omega) (by omega)]; decide)) (fun h5 => ?_)
  refine j_aload_n 0 dX2_bedHoursOf_8 rfl rfl ?_
  refine j_get (v := .ref (q 4)) 0 dX2_bedHoursOf_9 fX2_22 rfl rfl ?_
  refine j_iload_n 1 dX2_bedHoursOf_12 rfl rfl ?_
  refine j_ialdN (i := j) (f := bf) 4 dX2_bedHoursOf_13 rfl (by omega) (by decide) ?_
  refine j_goto (tgt := 18) dX2_bedHoursOf_14 (by decide) ?_
  exact j_iret _ dX2_bedHoursOf_18 (List.Perm.refl _) ⟨by rfl, by rfl⟩
set_option maxHeartbeats 4000000 in
set_option maxRecDepth 100000 in
theorem tX2_sleeps (l : Launch) (x : Cx) (q : Nat → Nat) (kf tf : Nat → Int32) (sl : Nat → Bool) (bf : Nat → Int32) (n : Nat) (d h : Int32) (hn : n ≤ 5) (j : Nat) (hj : j < n) : MC l x 1 0 0 yX2_sleeps cX2_sleeps 2 (some .boolean) [.ref (q 0), .int (nI j)] (nb x q (kf, tf, sl, bf, n, d, h)) (eI (bI (sl j)) (nb x q (kf, tf, sl, bf, n, d, h))) := by
  refine MC.of (by decide) (Nat.le_of_ble_eq_true rfl) eB_fit (fun M => ?_)
  show J M l x cX2_sleeps 2 yX2_sleeps 1 (eI (bI (sl j)) (nb x q (kf, tf, sl, bf, n, d, h))) 0 0 0 [(0, .ref (q 0)), (1, .int (nI j))] [] (nb x q (kf, tf, sl, bf, n, d, h))
  refine j_aload_n 0 dX2_sleeps_0 rfl rfl ?_
  refine j_iload_n 1 dX2_sleeps_1 rfl rfl ?_
  refine j_cVi (As := [.int (nI j)]) (rest := []) (wr := []) (ws' := nb x q (kf, tf, sl, bf, n, d, h)) (tX2_knows l x q kf tf sl bf n d h (nI j)) kX2_knows 0 rfl rfl rfl vX2_55 dX2_sleeps_2 (by decide) rfl rfl (Nat.le_of_ble_eq_true rfl) (pm_0 _) (List.append_nil _) ?_
  refine j_ifb_eq (b := kn n (nI j)) (tgt := 21) dX2_sleeps_5 (by decide) (fun h5 => absurd h5 (by rw [kn_t (by omega) (by omega)]; decide)) (fun h5 => ?_)
  refine j_aload_n 0 dX2_sleeps_8 rfl rfl ?_
  refine j_get (v := .ref (q 3)) 0 dX2_sleeps_9 fX2_18 rfl rfl ?_
  refine j_iload_n 1 dX2_sleeps_12 rfl rfl ?_
  refine j_zaldB (i := j) (f := sl) 3 dX2_sleeps_13 rfl (by omega) (by decide) ?_
  refine j_ifb_eq (b := sl j) (tgt := 21) dX2_sleeps_14 (by decide) (fun h14 => ?_) (fun h14 => ?_)
  · skip
    refine j_iconst (v := bI false) dX2_sleeps_21 (by decide) ?_
    exact j_iret _ dX2_sleeps_22 (List.Perm.refl _) ⟨by rw [h14], by rfl⟩
  · skip
    refine j_iconst (v := bI true) dX2_sleeps_17 (by decide) ?_
    refine j_goto (tgt := 22) dX2_sleeps_18 (by decide) ?_
    exact j_iret _ dX2_sleeps_22 (List.Perm.refl _) ⟨by rw [h14], by rfl⟩
set_option maxHeartbeats 4000000 in
set_option maxRecDepth 100000 in
theorem tX2_mayLieIn (l : Launch) (x : Cx) (q : Nat → Nat) (kf tf : Nat → Int32) (sl : Nat → Bool) (bf : Nat → Int32) (n : Nat) (d h : Int32) (hn : n ≤ 5) (j : Nat) (hj : j < n) : MC l x 0 0 0 yX2_mayLieIn cX2_mayLieIn 2 (some .boolean) [.ref (q 0), .int (nI j)] (nb x q (kf, tf, sl, bf, n, d, h)) (eI (bI (may kf sl j)) (nb x q (kf, tf, sl, bf, n, d, h))) := by
  refine MC.of (by decide) (Nat.le_of_ble_eq_true rfl) eB_fit (fun M => ?_)
  show J M l x cX2_mayLieIn 2 yX2_mayLieIn 0 (eI (bI (may kf sl j)) (nb x q (kf, tf, sl, bf, n, d, h))) 0 0 0 [(0, .ref (q 0)), (1, .int (nI j))] [] (nb x q (kf, tf, sl, bf, n, d, h))
  refine j_aload_n 0 dX2_mayLieIn_0 rfl rfl ?_
  refine j_get (v := .ref (q 3)) 0 dX2_mayLieIn_1 fX2_18 rfl rfl ?_
  refine j_iload_n 1 dX2_mayLieIn_4 rfl rfl ?_
  refine j_zaldB (i := j) (f := sl) 3 dX2_mayLieIn_5 rfl (by omega) (by decide) ?_
  refine j_ifb_ne (b := sl j) (tgt := 23) dX2_mayLieIn_6 (by decide) (fun h6 => ?_) (fun h6 => ?_)
  · skip
    refine j_iconst (v := bI false) dX2_mayLieIn_23 (by decide) ?_
    exact j_iret _ dX2_mayLieIn_24 (List.Perm.refl _) ⟨by simp [may, *], by rfl⟩
  · skip
    refine j_aload_n 0 dX2_mayLieIn_9 rfl rfl ?_
    refine j_get (v := .ref (q 1)) 0 dX2_mayLieIn_10 fX2_9 rfl rfl ?_
    refine j_iload_n 1 dX2_mayLieIn_13 rfl rfl ?_
    refine j_ialdN (i := j) (f := kf) 1 dX2_mayLieIn_14 rfl (by omega) (by decide) ?_
    refine j_iconst (v := 1) dX2_mayLieIn_15 (by decide) ?_
    refine j_icmp_eq (tgt := 23) dX2_mayLieIn_16 (by decide) (fun h16 => ?_) (fun h16 => ?_)
    · skip
      refine j_iconst (v := bI false) dX2_mayLieIn_23 (by decide) ?_
      exact j_iret _ dX2_mayLieIn_24 (List.Perm.refl _) ⟨by simp [may, *], by rfl⟩
    · skip
      refine j_iconst (v := bI true) dX2_mayLieIn_19 (by decide) ?_
      refine j_goto (tgt := 24) dX2_mayLieIn_20 (by decide) ?_
      exact j_iret _ dX2_mayLieIn_24 (List.Perm.refl _) ⟨by simp [may, *], by rfl⟩
set_option maxHeartbeats 4000000 in
set_option maxRecDepth 100000 in
theorem tX2_settle (l : Launch) (x : Cx) (q : Nat → Nat) (kf tf : Nat → Int32) (sl : Nat → Bool) (bf : Nat → Int32) (n : Nat) (d h : Int32) (hn : n ≤ 5) (j : Nat) (hj : j < n) : MC l x 0 0 0 yX2_settle cX2_settle 2 none [.ref (q 0), .int (nI j)] (nb x q (kf, tf, sl, bf, n, d, h)) (eV (nb x q (kf, upd tf j (stT (tf j)), bup sl j (stS (tf j) (sl j)), bf, n, d, h))) := by
  refine MC.of (by decide) (Nat.le_of_ble_eq_true rfl) eV_fit (fun M => ?_)
  show J M l x cX2_settle 2 yX2_settle 0 (eV (nb x q (kf, upd tf j (stT (tf j)), bup sl j (stS (tf j) (sl j)), bf, n, d, h))) 0 0 0 [(0, .ref (q 0)), (1, .int (nI j))] [] (nb x q (kf, tf, sl, bf, n, d, h))
  refine j_aload_n 0 dX2_settle_0 rfl rfl ?_
  refine j_get (v := .ref (q 2)) 0 dX2_settle_1 fX2_15 rfl rfl ?_
  refine j_iload_n 1 dX2_settle_4 rfl rfl ?_
  refine j_ialdN (i := j) (f := tf) 2 dX2_settle_5 rfl (by omega) (by decide) ?_
  refine j_bipush (v := 10) dX2_settle_6 (by decide) ?_
  refine j_icmp_lt (tgt := 29) dX2_settle_8 (by decide) (fun h8 => ?_) (fun h8 => ?_)
  · skip
    refine j_aload_n 0 dX2_settle_29 rfl rfl ?_
    refine j_get (v := .ref (q 2)) 0 dX2_settle_30 fX2_15 rfl rfl ?_
    refine j_iload_n 1 dX2_settle_33 rfl rfl ?_
    refine j_ialdN (i := j) (f := tf) 2 dX2_settle_34 rfl (by omega) (by decide) ?_
    refine j_iconst (v := 2) dX2_settle_35 (by decide) ?_
    refine j_icmp_gt (tgt := 46) dX2_settle_36 (by decide) (fun h36 => ?_) (fun h36 => ?_)
    · skip
      exact j_vret _ dX2_settle_46 (List.Perm.refl _) ⟨rfl, by (first | (simp [stT, stS, h8, h36, upd_same, bup_same]; done) | (simp [stT, stS, nle_of_lt h8]; done) | (simp [stT, stS, h8, upd_same]; done))⟩
    · skip
      refine j_aload_n 0 dX2_settle_39 rfl rfl ?_
      refine j_get (v := .ref (q 3)) 0 dX2_settle_40 fX2_18 rfl rfl ?_
      refine j_iload_n 1 dX2_settle_43 rfl rfl ?_
      refine j_iconst (v := 0) dX2_settle_44 (by decide) ?_
      refine j_zastB (i := j) (f := sl) (ws' := nb x q (kf, tf, bup sl j false, bf, n, d, h)) 3 false dX2_settle_45 rfl (by omega) (by decide) rfl ?_
      exact j_vret _ dX2_settle_46 (List.Perm.refl _) ⟨rfl, by (first | (simp [stT, stS, h8, h36, upd_same, bup_same]; done) | (simp [stT, stS, nle_of_lt h8]; done) | (simp [stT, stS, h8, upd_same]; done))⟩
  · skip
    refine j_aload_n 0 dX2_settle_11 rfl rfl ?_
    refine j_get (v := .ref (q 2)) 0 dX2_settle_12 fX2_15 rfl rfl ?_
    refine j_iload_n 1 dX2_settle_15 rfl rfl ?_
    refine j_bipush (v := 10) dX2_settle_16 (by decide) ?_
    refine j_iastN (i := j) (f := tf) (ws' := nb x q (kf, upd tf j 10, sl, bf, n, d, h)) 2 dX2_settle_18 rfl (by omega) (by decide) rfl ?_
    refine j_aload_n 0 dX2_settle_19 rfl rfl ?_
    refine j_get (v := .ref (q 3)) 0 dX2_settle_20 fX2_18 rfl rfl ?_
    refine j_iload_n 1 dX2_settle_23 rfl rfl ?_
    refine j_iconst (v := 1) dX2_settle_24 (by decide) ?_
    refine j_zastB (i := j) (f := sl) (ws' := nb x q (kf, upd tf j 10, bup sl j true, bf, n, d, h)) 3 true dX2_settle_25 rfl (by omega) (by decide) rfl ?_
    refine j_goto (tgt := 46) dX2_settle_26 (by decide) ?_
    exact j_vret _ dX2_settle_46 (List.Perm.refl _) ⟨rfl, by (first | (simp [stT, stS, h8, h36, upd_same, bup_same]; done) | (simp [stT, stS, nle_of_lt h8]; done) | (simp [stT, stS, h8, upd_same]; done))⟩
set_option maxHeartbeats 4000000 in
set_option maxRecDepth 100000 in
theorem lp_sleepers {M : Mx} (l : Launch) (x : Cx) (q : Nat → Nat) (kf tf : Nat → Int32) (sl : Nat → Bool) (bf : Nat → Int32) (n : Nat) (d h : Int32) (hn : n ≤ 5) {k0 n0 : Nat}  : ∀ (m : Nat) (i : Nat), i ≤ n → n - i < m → J M l x cX2_sleepers 3 yX2_sleepers 0 (eI (nI (cntS sl n)) (nb x q (kf, tf, sl, bf, n, d, h))) k0 n0 4 [(0, .ref (q 0)), (1, .int (nI (cntS sl i))), (2, .int (nI i))] [] (nb x q (kf, tf, sl, bf, n, d, h)) := by
  intro m; induction m with
  | zero => intro i hc0 hm; exact absurd hm (Nat.not_lt_zero _)
  | succ m ih =>
    intro i hc0 hm
    refine j_iload_n 2 dX2_sleepers_4 rfl rfl ?_
    refine j_aload_n 0 dX2_sleepers_5 rfl rfl ?_
    refine j_get (v := .int (nI n)) 0 dX2_sleepers_6 fX2_25 rfl rfl ?_
    refine j_icmpN_ge (a := i) (b := n) (by omega) (by omega) (tgt := 35) dX2_sleepers_9 (by decide) (fun h9 => ?_) (fun h9 => ?_)
    · skip
      refine j_iload_n 1 dX2_sleepers_35 rfl rfl ?_
      exact j_iret _ dX2_sleepers_36 (List.Perm.refl _) ⟨by rw [show i = n by omega], by rfl⟩
    · skip
      refine j_iload_n 1 dX2_sleepers_12 rfl rfl ?_
      refine j_aload_n 0 dX2_sleepers_13 rfl rfl ?_
      refine j_get (v := .ref (q 3)) 0 dX2_sleepers_14 fX2_18 rfl rfl ?_
      refine j_iload_n 2 dX2_sleepers_17 rfl rfl ?_
      refine j_zaldB (i := i) (f := sl) 3 dX2_sleepers_18 rfl (by omega) (by decide) ?_
      refine j_ifb_eq (b := sl i) (tgt := 26) dX2_sleepers_19 (by decide) (fun h19 => ?_) (fun h19 => ?_)
      · skip
        refine j_iconst (v := 0) dX2_sleepers_26 (by decide) ?_
        refine j_iadd dX2_sleepers_27 ?_
        refine j_topi (b := nI (cntS sl (i + 1))) (by simp [cntS, h19, nI_add, nI_1]; try rfl) ?_
        refine j_istore_n (lv' := [(1, .int (nI (cntS sl (i + 1)))), (0, .ref (q 0)), (2, .int (nI i))]) dX2_sleepers_28 rfl (by decide) rfl ?_
        refine j_iinc (v := nI (i + 1)) (lv' := [(2, .int (nI (i + 1))), (1, .int (nI (cntS sl (i + 1)))), (0, .ref (q 0))]) 2 dX2_sleepers_29 rfl (nI_1 i) (by decide) rfl ?_
        refine j_goto (tgt := 4) dX2_sleepers_32 (by decide) ?_
        refine j_lv [2, 1, 0] (lv' := [(0, .ref (q 0)), (1, .int (nI (cntS sl (i + 1)))), (2, .int (nI (i + 1)))]) rfl ?_
        exact ih (i + 1) (by omega) (by omega)
      · skip
        refine j_iconst (v := 1) dX2_sleepers_22 (by decide) ?_
        refine j_goto (tgt := 27) dX2_sleepers_23 (by decide) ?_
        refine j_iadd dX2_sleepers_27 ?_
        refine j_topi (b := nI (cntS sl (i + 1))) (by simp [cntS, h19, nI_add, nI_1]; try rfl) ?_
        refine j_istore_n (lv' := [(1, .int (nI (cntS sl (i + 1)))), (0, .ref (q 0)), (2, .int (nI i))]) dX2_sleepers_28 rfl (by decide) rfl ?_
        refine j_iinc (v := nI (i + 1)) (lv' := [(2, .int (nI (i + 1))), (1, .int (nI (cntS sl (i + 1)))), (0, .ref (q 0))]) 2 dX2_sleepers_29 rfl (nI_1 i) (by decide) rfl ?_
        refine j_goto (tgt := 4) dX2_sleepers_32 (by decide) ?_
        refine j_lv [2, 1, 0] (lv' := [(0, .ref (q 0)), (1, .int (nI (cntS sl (i + 1)))), (2, .int (nI (i + 1)))]) rfl ?_
        exact ih (i + 1) (by omega) (by omega)
set_option maxHeartbeats 4000000 in
set_option maxRecDepth 100000 in
theorem tX2_sleepers (l : Launch) (x : Cx) (q : Nat → Nat) (kf tf : Nat → Int32) (sl : Nat → Bool) (bf : Nat → Int32) (n : Nat) (d h : Int32) (hn : n ≤ 5) : MC l x 0 0 0 yX2_sleepers cX2_sleepers 3 (some .int) [.ref (q 0)] (nb x q (kf, tf, sl, bf, n, d, h)) (eI (nI (cntS sl n)) (nb x q (kf, tf, sl, bf, n, d, h))) := by
  refine MC.of (by decide) (Nat.le_of_ble_eq_true rfl) eI_fit (fun M => ?_)
  show J M l x cX2_sleepers 3 yX2_sleepers 0 (eI (nI (cntS sl n)) (nb x q (kf, tf, sl, bf, n, d, h))) 0 0 0 [(0, .ref (q 0))] [] (nb x q (kf, tf, sl, bf, n, d, h))
  refine j_iconst (v := nI 0) dX2_sleepers_0 (by decide) ?_
  refine j_istore_n (lv' := [(1, .int (nI 0)), (0, .ref (q 0))]) dX2_sleepers_1 rfl (by decide) rfl ?_
  refine j_iconst (v := nI 0) dX2_sleepers_2 (by decide) ?_
  refine j_istore_n (lv' := [(2, .int (nI 0)), (1, .int (nI 0)), (0, .ref (q 0))]) dX2_sleepers_3 rfl (by decide) rfl ?_
  refine j_lv [2, 1, 0] (lv' := [(0, .ref (q 0)), (1, .int (nI 0)), (2, .int (nI 0))]) rfl ?_
  exact lp_sleepers l x q kf tf sl bf n d h hn (n + 1) 0 (by omega) (by omega)
set_option maxHeartbeats 4000000 in
set_option maxRecDepth 100000 in
theorem lp_tiredTogether {M : Mx} (l : Launch) (x : Cx) (q : Nat → Nat) (kf tf : Nat → Int32) (sl : Nat → Bool) (bf : Nat → Int32) (n : Nat) (d h : Int32) (hn : n ≤ 5) {k0 n0 : Nat}  : ∀ (m : Nat) (i : Nat), i ≤ n → n - i < m → J M l x cX2_tiredTogether 3 yX2_tiredTogether 0 (eI (sumT tf n) (nb x q (kf, tf, sl, bf, n, d, h))) k0 n0 4 [(0, .ref (q 0)), (1, .int (sumT tf i)), (2, .int (nI i))] [] (nb x q (kf, tf, sl, bf, n, d, h)) := by
  intro m; induction m with
  | zero => intro i hc0 hm; exact absurd hm (Nat.not_lt_zero _)
  | succ m ih =>
    intro i hc0 hm
    refine j_iload_n 2 dX2_tiredTogether_4 rfl rfl ?_
    refine j_aload_n 0 dX2_tiredTogether_5 rfl rfl ?_
    refine j_get (v := .int (nI n)) 0 dX2_tiredTogether_6 fX2_25 rfl rfl ?_
    refine j_icmpN_ge (a := i) (b := n) (by omega) (by omega) (tgt := 27) dX2_tiredTogether_9 (by decide) (fun h9 => ?_) (fun h9 => ?_)
    · skip
      refine j_iload_n 1 dX2_tiredTogether_27 rfl rfl ?_
      exact j_iret _ dX2_tiredTogether_28 (List.Perm.refl _) ⟨by rw [show i = n by omega], by rfl⟩
    · skip
      refine j_iload_n 1 dX2_tiredTogether_12 rfl rfl ?_
      refine j_aload_n 0 dX2_tiredTogether_13 rfl rfl ?_
      refine j_get (v := .ref (q 2)) 0 dX2_tiredTogether_14 fX2_15 rfl rfl ?_
      refine j_iload_n 2 dX2_tiredTogether_17 rfl rfl ?_
      refine j_ialdN (i := i) (f := tf) 2 dX2_tiredTogether_18 rfl (by omega) (by decide) ?_
      refine j_iadd dX2_tiredTogether_19 ?_
      refine j_istore_n (lv' := [(1, .int ((sumT tf i) + (tf i))), (0, .ref (q 0)), (2, .int (nI i))]) dX2_tiredTogether_20 rfl (by decide) rfl ?_
      refine j_iinc (v := nI (i + 1)) (lv' := [(2, .int (nI (i + 1))), (1, .int ((sumT tf i) + (tf i))), (0, .ref (q 0))]) 2 dX2_tiredTogether_21 rfl (nI_1 i) (by decide) rfl ?_
      refine j_goto (tgt := 4) dX2_tiredTogether_24 (by decide) ?_
      refine j_lv [2, 1, 0] (lv' := [(0, .ref (q 0)), (1, .int ((sumT tf i) + (tf i))), (2, .int (nI (i + 1)))]) rfl ?_
      exact ih (i + 1) (by omega) (by omega)
set_option maxHeartbeats 4000000 in
set_option maxRecDepth 100000 in
theorem tX2_tiredTogether (l : Launch) (x : Cx) (q : Nat → Nat) (kf tf : Nat → Int32) (sl : Nat → Bool) (bf : Nat → Int32) (n : Nat) (d h : Int32) (hn : n ≤ 5) : MC l x 0 0 0 yX2_tiredTogether cX2_tiredTogether 3 (some .int) [.ref (q 0)] (nb x q (kf, tf, sl, bf, n, d, h)) (eI (sumT tf n) (nb x q (kf, tf, sl, bf, n, d, h))) := by
  refine MC.of (by decide) (Nat.le_of_ble_eq_true rfl) eI_fit (fun M => ?_)
  show J M l x cX2_tiredTogether 3 yX2_tiredTogether 0 (eI (sumT tf n) (nb x q (kf, tf, sl, bf, n, d, h))) 0 0 0 [(0, .ref (q 0))] [] (nb x q (kf, tf, sl, bf, n, d, h))
  refine j_iconst (v := 0) dX2_tiredTogether_0 (by decide) ?_
  refine j_istore_n (lv' := [(1, .int 0), (0, .ref (q 0))]) dX2_tiredTogether_1 rfl (by decide) rfl ?_
  refine j_iconst (v := nI 0) dX2_tiredTogether_2 (by decide) ?_
  refine j_istore_n (lv' := [(2, .int (nI 0)), (1, .int 0), (0, .ref (q 0))]) dX2_tiredTogether_3 rfl (by decide) rfl ?_
  refine j_lv [2, 1, 0] (lv' := [(0, .ref (q 0)), (1, .int 0), (2, .int (nI 0))]) rfl ?_
  exact lp_tiredTogether l x q kf tf sl bf n d h hn (n + 1) 0 (by omega) (by omega)
end
section
/-! more of the house: keeping the bed, Sundays -/
theorem wb_f {kf tf : Nat → Int32} {sl : Nat → Bool} {i : Nat} (h : may kf sl i = false) : wb kf tf sl (i + 1) = wb kf tf sl i := by
  rw [wb, h]; rfl
theorem wb_n {kf tf : Nat → Int32} {sl : Nat → Bool} {i : Nat} (h : may kf sl i = true) (h0 : wb kf tf sl i = none) : wb kf tf sl (i + 1) = some i := by
  rw [wb, h, h0]; rfl
theorem wb_l {kf tf : Nat → Int32} {sl : Nat → Bool} {i j : Nat} (h : may kf sl i = true) (h0 : wb kf tf sl i = some j) (h1 : ¬ tf j ≤ tf i) : wb kf tf sl (i + 1) = some i := by
  rw [wb, h, h0]
  show (if tf i < tf j then some i else some j) = some i
  rw [if_pos (lt_of_nle h1)]
theorem wb_g {kf tf : Nat → Int32} {sl : Nat → Bool} {i j : Nat} (h : may kf sl i = true) (h0 : wb kf tf sl i = some j) (h1 : tf j ≤ tf i) : wb kf tf sl (i + 1) = some j := by
  rw [wb, h, h0]
  show (if tf i < tf j then some i else some j) = some j
  rw [if_neg (nlt_of_le h1)]
def nN (u : NS) : Nat := u.2.2.2.2.1
def kb : Nat → NS → Nat → Bool
  | 0, u, j => wbU u == some j
  | m + 1, u, j => (wbU u == some j) && kb m (ph u) j
theorem kb_f {m : Nat} {u : NS} {j : Nat} (h : ¬ wbU u = some j) : kb m u j = false := by
  cases m <;> simp [kb, h]
theorem kb_t {m : Nat} {u : NS} {j : Nat} (h : wbU u = some j) : kb (m + 1) u j = kb m (ph u) j := by simp [kb, h]
theorem wbU_lt {u : NS} {j : Nat} (h : wbU u = some j) : j < nN u := by
  obtain ⟨kf, tf, sl, bf, n, d, h'⟩ := u
  exact wb_lt h
theorem nN_ph (u : NS) : nN (ph u) = nN u := by obtain ⟨kf, tf, sl, bf, n, d, h⟩ := u; rfl
def awk (k h : Int32) : Nat → Nat → Int32 → Nat
  | 0, _, _ => 60
  | f + 1, p, t => if t + tbh k t (h + nI p) true < 10 then awk k h f (p + 1) (t + tbh k t (h + nI p) true) else p
theorem awk_le (k h : Int32) : ∀ (f p : Nat) (t : Int32), p + f ≤ 61 → awk k h f p t ≤ 60
  | 0, _, _, _ => Nat.le_refl _
  | f + 1, p, t, hp => by
    unfold awk
    split
    · exact awk_le k h f (p + 1) _ (by omega)
    · omega
def tog (kf tf : Nat → Int32) (h : Int32) (a b : Nat) : Nat := min (awk (kf a) h 60 1 (tf a)) (awk (kf b) h 60 1 (tf b))
theorem mmin_nI {a b : Nat} (ha : a < 2 ^ 31) (hb : b < 2 ^ 31) : (if nI b < nI a then nI b else nI a) = nI (min a b) := by
  by_cases h : b < a
  · rw [if_pos ((nI_ltI hb ha).mpr h), Nat.min_eq_right (by omega)]
  · rw [if_neg (fun q => h ((nI_ltI hb ha).mp q)), Nat.min_eq_left (by omega)]
def itr {σ : Type} (f : Nat → σ → σ) : Nat → Nat → σ → σ
  | 0, _, s => s
  | c + 1, b, s => itr f c (b + 1) (f b s)
theorem itr_go {σ : Type} {f : Nat → σ → σ} {n b : Nat} {s : σ} (h : b < n) : itr f (n - b) b s = itr f (n - (b + 1)) (b + 1) (f b s) := by
  rw [show n - b = (n - (b + 1)) + 1 by omega]; rfl
theorem itr_end {σ : Type} {f : Nat → σ → σ} {n b : Nat} {s : σ} (h : n ≤ b) : itr f (n - b) b s = s := by
  rw [show n - b = 0 by omega]; rfl
def prS (kf tf : Nat → Int32) (sl : Nat → Bool) (h : Int32) (a b : Nat) (s : Int32 × Int32) : Int32 × Int32 := if may kf sl a = true ∧ may kf sl b = true ∧ ¬ nI (tog kf tf h a b) ≤ s.2 then (nI (10 * a + b), nI (tog kf tf h a b)) else s
def prO (kf tf : Nat → Int32) (sl : Nat → Bool) (n : Nat) (h : Int32) (a : Nat) (s : Int32 × Int32) : Int32 × Int32 := itr (prS kf tf sl h a) (n - (a + 1)) (a + 1) s
/-- the two who are awake longest, and for how long -/
def prU (u : NS) : Int32 × Int32 := match u with
  | (kf, tf, sl, _, n, _, h) => itr (prO kf tf sl n h) n 0 (-1, -1)
def eX (r : Int32) (Pw : va_W → Prop) : Option Value → va_W → Prop := fun v ws => v = some (.int r) ∧ Pw ws
theorem eXB_fit {b : Bool} {Pw : va_W → Prop} : ∀ v ws, eX (bI b) Pw v ws → retFit (some .boolean) v := fun v ws h => Or.inr (Or.inl ⟨.boolean, bI b, rfl, h.1, nar_bI b⟩)
theorem eXI_fit {r : Int32} {Pw : va_W → Prop} : ∀ v ws, eX r Pw v ws → retFit (some .int) v := fun v ws h => Or.inr (Or.inl ⟨.int, r, rfl, h.1, rfl⟩)
/-- a night of some state, with as many lodgers -/
def anyN (x : Cx) (q : Nat → Nat) : va_W → Prop := fun w => ∃ u : NS, nN u ≤ 5 ∧ w = nb x q u
end
section
set_option maxHeartbeats 4000000 in
set_option maxRecDepth 100000 in
theorem lp_whoseBed {M : Mx} (l : Launch) (x : Cx) (q : Nat → Nat) (kf tf : Nat → Int32) (sl : Nat → Bool) (bf : Nat → Int32) (n : Nat) (d h : Int32) (hn : n ≤ 5) {k0 n0 : Nat}  : ∀ (m : Nat) (i : Nat), i ≤ n → n - i < m → J M l x cX2_whoseBed 3 yX2_whoseBed 1 (eI (oI (wb kf tf sl n)) (nb x q (kf, tf, sl, bf, n, d, h))) k0 n0 4 [(0, .ref (q 0)), (1, .int (oI (wb kf tf sl i))), (2, .int (nI i))] [] (nb x q (kf, tf, sl, bf, n, d, h)) := by
  intro m; induction m with
  | zero => intro i hc0 hm; exact absurd hm (Nat.not_lt_zero _)
  | succ m ih =>
    intro i hc0 hm
    refine j_iload_n 2 dX2_whoseBed_4 rfl rfl ?_
    refine j_aload_n 0 dX2_whoseBed_5 rfl rfl ?_
    refine j_get (v := .int (nI n)) 0 dX2_whoseBed_6 fX2_25 rfl rfl ?_
    refine j_icmpN_ge (a := i) (b := n) (by omega) (by omega) (tgt := 48) dX2_whoseBed_9 (by decide) (fun h9 => ?_) (fun h9 => ?_)
    · skip
      refine j_iload_n 1 dX2_whoseBed_48 rfl rfl ?_
      exact j_iret _ dX2_whoseBed_49 (List.Perm.refl _) ⟨by rw [show i = n by omega], by rfl⟩
    · skip
      refine j_aload_n 0 dX2_whoseBed_12 rfl rfl ?_
      refine j_iload_n 2 dX2_whoseBed_13 rfl rfl ?_
      refine j_cVi (As := [.int (nI i)]) (rest := []) (wr := []) (ws' := nb x q (kf, tf, sl, bf, n, d, h)) (tX2_mayLieIn l x q kf tf sl bf n d h (by omega) i (by omega)) kX2_mayLieIn 0 rfl rfl rfl vX2_59 dX2_whoseBed_14 (by decide) rfl rfl (Nat.le_of_ble_eq_true rfl) (pm_0 _) (List.append_nil _) ?_
      refine j_ifb_eq (b := may kf sl i) (tgt := 42) dX2_whoseBed_17 (by decide) (fun h17 => ?_) (fun h17 => ?_)
      · skip
        refine j_iinc (v := nI (i + 1)) (lv' := [(2, .int (nI (i + 1))), (0, .ref (q 0)), (1, .int (oI (wb kf tf sl i)))]) 2 dX2_whoseBed_42 rfl (nI_1 i) (by decide) rfl ?_
        refine j_goto (tgt := 4) dX2_whoseBed_45 (by decide) ?_
        refine j_lv [1, 2, 0] (lv' := [(0, .ref (q 0)), (1, .int (oI (wb kf tf sl i))), (2, .int (nI (i + 1)))]) rfl ?_
        refine j_lve (lv' := [(0, .ref (q 0)), (1, .int (oI (wb kf tf sl (i + 1)))), (2, .int (nI (i + 1)))]) (by first | (rw [wb_f h17]; done) | (rw [wb_n h17 hz]; rfl) | (rw [wb_l h17 hj h37]; rfl) | (rw [wb_g h17 hj h37]; rfl)) ?_
        exact ih (i + 1) (by omega) (by omega)
      · skip
        refine j_iload_n 1 dX2_whoseBed_20 rfl rfl ?_
        refine j_iconst (v := (-1)) dX2_whoseBed_21 (by decide) ?_
        refine j_icmp_eq (tgt := 40) dX2_whoseBed_22 (by decide) (fun h22 => ?_) (fun h22 => ?_)
        · skip
          have hz : wb kf tf sl i = none := (oI_m1 (fun j e => by have := wb_lt e; omega)).mp h22
          refine j_iload_n 2 dX2_whoseBed_40 rfl rfl ?_
          refine j_istore_n (lv' := [(1, .int (nI i)), (0, .ref (q 0)), (2, .int (nI i))]) dX2_whoseBed_41 rfl (by decide) rfl ?_
          refine j_iinc (v := nI (i + 1)) (lv' := [(2, .int (nI (i + 1))), (1, .int (nI i)), (0, .ref (q 0))]) 2 dX2_whoseBed_42 rfl (nI_1 i) (by decide) rfl ?_
          refine j_goto (tgt := 4) dX2_whoseBed_45 (by decide) ?_
          refine j_lv [2, 1, 0] (lv' := [(0, .ref (q 0)), (1, .int (nI i)), (2, .int (nI (i + 1)))]) rfl ?_
          refine j_lve (lv' := [(0, .ref (q 0)), (1, .int (oI (wb kf tf sl (i + 1)))), (2, .int (nI (i + 1)))]) (by first | (rw [wb_f h17]; done) | (rw [wb_n h17 hz]; rfl) | (rw [wb_l h17 hj h37]; rfl) | (rw [wb_g h17 hj h37]; rfl)) ?_
          exact ih (i + 1) (by omega) (by omega)
        · skip
          obtain ⟨j, hj⟩ : ∃ j, wb kf tf sl i = some j := by
            cases e : wb kf tf sl i with
            | none => rw [e] at h22; exact absurd rfl h22
            | some j => exact ⟨j, rfl⟩
          have hjl := wb_lt hj
          refine j_lve (lv' := [(0, .ref (q 0)), (1, .int (nI j)), (2, .int (nI i))]) (by rw [hj]; rfl) ?_
          refine j_aload_n 0 dX2_whoseBed_25 rfl rfl ?_
          refine j_get (v := .ref (q 2)) 0 dX2_whoseBed_26 fX2_15 rfl rfl ?_
          refine j_iload_n 2 dX2_whoseBed_29 rfl rfl ?_
          refine j_ialdN (i := i) (f := tf) 2 dX2_whoseBed_30 rfl (by omega) (by decide) ?_
          refine j_aload_n 0 dX2_whoseBed_31 rfl rfl ?_
          refine j_get (v := .ref (q 2)) 0 dX2_whoseBed_32 fX2_15 rfl rfl ?_
          refine j_iload_n 1 dX2_whoseBed_35 rfl rfl ?_
          refine j_ialdN (i := j) (f := tf) 2 dX2_whoseBed_36 rfl (by omega) (by decide) ?_
          refine j_icmp_ge (tgt := 42) dX2_whoseBed_37 (by decide) (fun h37 => ?_) (fun h37 => ?_)
          · skip
            refine j_iinc (v := nI (i + 1)) (lv' := [(2, .int (nI (i + 1))), (0, .ref (q 0)), (1, .int (nI j))]) 2 dX2_whoseBed_42 rfl (nI_1 i) (by decide) rfl ?_
            refine j_goto (tgt := 4) dX2_whoseBed_45 (by decide) ?_
            refine j_lv [1, 2, 0] (lv' := [(0, .ref (q 0)), (1, .int (nI j)), (2, .int (nI (i + 1)))]) rfl ?_
            refine j_lve (lv' := [(0, .ref (q 0)), (1, .int (oI (wb kf tf sl (i + 1)))), (2, .int (nI (i + 1)))]) (by first | (rw [wb_f h17]; done) | (rw [wb_n h17 hz]; rfl) | (rw [wb_l h17 hj h37]; rfl) | (rw [wb_g h17 hj h37]; rfl)) ?_
            exact ih (i + 1) (by omega) (by omega)
          · skip
            refine j_iload_n 2 dX2_whoseBed_40 rfl rfl ?_
            refine j_istore_n (lv' := [(1, .int (nI i)), (0, .ref (q 0)), (2, .int (nI i))]) dX2_whoseBed_41 rfl (by decide) rfl ?_
            refine j_iinc (v := nI (i + 1)) (lv' := [(2, .int (nI (i + 1))), (1, .int (nI i)), (0, .ref (q 0))]) 2 dX2_whoseBed_42 rfl (nI_1 i) (by decide) rfl ?_
            refine j_goto (tgt := 4) dX2_whoseBed_45 (by decide) ?_
            refine j_lv [2, 1, 0] (lv' := [(0, .ref (q 0)), (1, .int (nI i)), (2, .int (nI (i + 1)))]) rfl ?_
            refine j_lve (lv' := [(0, .ref (q 0)), (1, .int (oI (wb kf tf sl (i + 1)))), (2, .int (nI (i + 1)))]) (by first | (rw [wb_f h17]; done) | (rw [wb_n h17 hz]; rfl) | (rw [wb_l h17 hj h37]; rfl) | (rw [wb_g h17 hj h37]; rfl)) ?_
            exact ih (i + 1) (by omega) (by omega)
set_option maxHeartbeats 4000000 in
set_option maxRecDepth 100000 in
theorem tX2_whoseBed (l : Launch) (x : Cx) (q : Nat → Nat) (kf tf : Nat → Int32) (sl : Nat → Bool) (bf : Nat → Int32) (n : Nat) (d h : Int32) (hn : n ≤ 5) : MC l x 1 0 0 yX2_whoseBed cX2_whoseBed 3 (some .int) [.ref (q 0)] (nb x q (kf, tf, sl, bf, n, d, h)) (eI (oI (wb kf tf sl n)) (nb x q (kf, tf, sl, bf, n, d, h))) := by
  refine MC.of (by decide) (Nat.le_of_ble_eq_true rfl) eI_fit (fun M => ?_)
  show J M l x cX2_whoseBed 3 yX2_whoseBed 1 (eI (oI (wb kf tf sl n)) (nb x q (kf, tf, sl, bf, n, d, h))) 0 0 0 [(0, .ref (q 0))] [] (nb x q (kf, tf, sl, bf, n, d, h))
  refine j_iconst (v := (-1)) dX2_whoseBed_0 (by decide) ?_
  refine j_istore_n (lv' := [(1, .int (-1)), (0, .ref (q 0))]) dX2_whoseBed_1 rfl (by decide) rfl ?_
  refine j_iconst (v := nI 0) dX2_whoseBed_2 (by decide) ?_
  refine j_istore_n (lv' := [(2, .int (nI 0)), (1, .int (-1)), (0, .ref (q 0))]) dX2_whoseBed_3 rfl (by decide) rfl ?_
  refine j_lv [2, 1, 0] (lv' := [(0, .ref (q 0)), (1, .int (-1)), (2, .int (nI 0))]) rfl ?_
  exact lp_whoseBed l x q kf tf sl bf n d h hn (n + 1) 0 (by omega) (by omega)
set_option maxHeartbeats 4000000 in
set_option maxRecDepth 100000 in
theorem tX2_giveCoffee (l : Launch) (x : Cx) (q : Nat → Nat) (kf tf : Nat → Int32) (sl : Nat → Bool) (bf : Nat → Int32) (n : Nat) (d h : Int32) (hn : n ≤ 5) (j : Nat) (hj : j < n) : MC l x 1 0 0 yX2_giveCoffee cX2_giveCoffee 2 none [.ref (q 0), .int (nI j)] (nb x q (kf, tf, sl, bf, n, d, h)) (eV (nb x q (kf, if sl j = true then tf else upd tf j (cT (tf j)), sl, bf, n, d, h))) := by
  refine MC.of (by decide) (Nat.le_of_ble_eq_true rfl) eV_fit (fun M => ?_)
  show J M l x cX2_giveCoffee 2 yX2_giveCoffee 1 (eV (nb x q (kf, if sl j = true then tf else upd tf j (cT (tf j)), sl, bf, n, d, h))) 0 0 0 [(0, .ref (q 0)), (1, .int (nI j))] [] (nb x q (kf, tf, sl, bf, n, d, h))
  refine j_aload_n 0 dX2_giveCoffee_0 rfl rfl ?_
  refine j_iload_n 1 dX2_giveCoffee_1 rfl rfl ?_
  refine j_cVi (As := [.int (nI j)]) (rest := []) (wr := []) (ws' := nb x q (kf, tf, sl, bf, n, d, h)) (tX2_knows l x q kf tf sl bf n d h (nI j)) kX2_knows 0 rfl rfl rfl vX2_55 dX2_giveCoffee_2 (by decide) rfl rfl (Nat.le_of_ble_eq_true rfl) (pm_0 _) (List.append_nil _) ?_
  refine j_ifb_eq (b := kn n (nI j)) (tgt := 35) dX2_giveCoffee_5 (by decide) (fun h5 => absurd h5 (by rw [kn_t (by omega) (by omega)]; decide)) (fun h5 => ?_)
  refine j_aload_n 0 dX2_giveCoffee_8 rfl rfl ?_
  refine j_get (v := .ref (q 3)) 0 dX2_giveCoffee_9 fX2_18 rfl rfl ?_
  refine j_iload_n 1 dX2_giveCoffee_12 rfl rfl ?_
  refine j_zaldB (i := j) (f := sl) 3 dX2_giveCoffee_13 rfl (by omega) (by decide) ?_
  refine j_ifb_ne (b := sl j) (tgt := 35) dX2_giveCoffee_14 (by decide) (fun h14 => ?_) (fun h14 => ?_)
  · skip
    exact j_vret _ dX2_giveCoffee_35 (List.Perm.refl _) ⟨rfl, by (simp [cT, h14]; try rfl)⟩
  · skip
    refine j_aload_n 0 dX2_giveCoffee_17 rfl rfl ?_
    refine j_get (v := .ref (q 2)) 0 dX2_giveCoffee_18 fX2_15 rfl rfl ?_
    refine j_iload_n 1 dX2_giveCoffee_21 rfl rfl ?_
    refine j_iconst (v := 0) dX2_giveCoffee_22 (by decide) ?_
    refine j_aload_n 0 dX2_giveCoffee_23 rfl rfl ?_
    refine j_get (v := .ref (q 2)) 0 dX2_giveCoffee_24 fX2_15 rfl rfl ?_
    refine j_iload_n 1 dX2_giveCoffee_27 rfl rfl ?_
    refine j_ialdN (i := j) (f := tf) 2 dX2_giveCoffee_28 rfl (by omega) (by decide) ?_
    refine j_iconst (v := 3) dX2_giveCoffee_29 (by decide) ?_
    refine j_isub dX2_giveCoffee_30 ?_
    refine j_mmax dX2_giveCoffee_31 mX2_62 (by decide) (Nat.le_of_ble_eq_true rfl) ?_
    refine j_iastN (i := j) (f := tf) (ws' := nb x q (kf, upd tf j (if 0 < ((tf j) - 3) then ((tf j) - 3) else 0), sl, bf, n, d, h)) 2 dX2_giveCoffee_34 rfl (by omega) (by decide) rfl ?_
    exact j_vret _ dX2_giveCoffee_35 (List.Perm.refl _) ⟨rfl, by (simp [cT, h14]; try rfl)⟩
set_option maxHeartbeats 4000000 in
set_option maxRecDepth 100000 in
theorem tX2_giveLecture (l : Launch) (x : Cx) (q : Nat → Nat) (kf tf : Nat → Int32) (sl : Nat → Bool) (bf : Nat → Int32) (n : Nat) (d h : Int32) (hn : n ≤ 5) (o : Option Nat) (ho : ∀ j, o = some j → j < n) : MC l x 2 0 0 yX2_giveLecture cX2_giveLecture 2 none [.ref (q 0), .int (oI o)] (nb x q (kf, tf, sl, bf, n, d, h)) (eV (nb x q (lec (kf, tf, sl, bf, n, d, h) o))) := by
  refine MC.of (by decide) (Nat.le_of_ble_eq_true rfl) eV_fit (fun M => ?_)
  show J M l x cX2_giveLecture 2 yX2_giveLecture 2 (eV (nb x q (lec (kf, tf, sl, bf, n, d, h) o))) 0 0 0 [(0, .ref (q 0)), (1, .int (oI o))] [] (nb x q (kf, tf, sl, bf, n, d, h))
  cases o with
  | none =>
    show J M l x cX2_giveLecture 2 yX2_giveLecture 2 (eV (nb x q (lec (kf, tf, sl, bf, n, d, h) none))) 0 0 0 [(0, .ref (q 0)), (1, .int (-1))] [] (nb x q (kf, tf, sl, bf, n, d, h))
    refine j_aload_n 0 dX2_giveLecture_0 rfl rfl ?_
    refine j_iload_n 1 dX2_giveLecture_1 rfl rfl ?_
    refine j_cVi (As := [.int (-1)]) (rest := []) (wr := []) (ws' := nb x q (kf, tf, sl, bf, n, d, h)) (tX2_knows l x q kf tf sl bf n d h (-1)) kX2_knows 0 rfl rfl rfl vX2_55 dX2_giveLecture_2 (by decide) rfl rfl (Nat.le_of_ble_eq_true rfl) (pm_0 _) (List.append_nil _) ?_
    refine j_ifb_eq (b := kn n (-1)) (tgt := 32) dX2_giveLecture_5 (by decide) (fun h5 => ?_) (fun h5 => absurd h5 (by rw [kn_m1]; decide))
    exact j_vret _ dX2_giveLecture_32 (List.Perm.refl _) ⟨rfl, by rfl⟩
  | some j =>
    have hj : j < n := ho j rfl
    show J M l x cX2_giveLecture 2 yX2_giveLecture 2 (eV (nb x q (lec (kf, tf, sl, bf, n, d, h) (some j)))) 0 0 0 [(0, .ref (q 0)), (1, .int (nI j))] [] (nb x q (kf, tf, sl, bf, n, d, h))
    refine j_aload_n 0 dX2_giveLecture_0 rfl rfl ?_
    refine j_iload_n 1 dX2_giveLecture_1 rfl rfl ?_
    refine j_cVi (As := [.int (nI j)]) (rest := []) (wr := []) (ws' := nb x q (kf, tf, sl, bf, n, d, h)) (tX2_knows l x q kf tf sl bf n d h (nI j)) kX2_knows 0 rfl rfl rfl vX2_55 dX2_giveLecture_2 (by decide) rfl rfl (Nat.le_of_ble_eq_true rfl) (pm_0 _) (List.append_nil _) ?_
    refine j_ifb_eq (b := kn n (nI j)) (tgt := 32) dX2_giveLecture_5 (by decide) (fun h5 => absurd h5 (by rw [kn_t (by omega) (by omega)]; decide)) (fun h5 => ?_)
    refine j_aload_n 0 dX2_giveLecture_8 rfl rfl ?_
    refine j_get (v := .ref (q 3)) 0 dX2_giveLecture_9 fX2_18 rfl rfl ?_
    refine j_iload_n 1 dX2_giveLecture_12 rfl rfl ?_
    refine j_zaldB (i := j) (f := sl) 3 dX2_giveLecture_13 rfl (by omega) (by decide) ?_
    refine j_ifb_ne (b := sl j) (tgt := 32) dX2_giveLecture_14 (by decide) (fun h14 => ?_) (fun h14 => ?_)
    · skip
      exact j_vret _ dX2_giveLecture_32 (List.Perm.refl _) ⟨rfl, by (simp [lec, h14, upd_upd, upd_self]; try rfl)⟩
    · skip
      refine j_aload_n 0 dX2_giveLecture_17 rfl rfl ?_
      refine j_get (v := .ref (q 2)) 0 dX2_giveLecture_18 fX2_15 rfl rfl ?_
      refine j_iload_n 1 dX2_giveLecture_21 rfl rfl ?_
      refine j_dup2 dX2_giveLecture_22 rfl rfl ?_
      refine j_ialdN (i := j) (f := tf) 2 dX2_giveLecture_23 rfl (by omega) (by decide) ?_
      refine j_iconst (v := 2) dX2_giveLecture_24 (by decide) ?_
      refine j_iadd dX2_giveLecture_25 ?_
      refine j_iastN (i := j) (f := tf) (ws' := nb x q (kf, upd tf j ((tf j) + 2), sl, bf, n, d, h)) 2 dX2_giveLecture_26 rfl (by omega) (by decide) rfl ?_
      refine j_aload_n 0 dX2_giveLecture_27 rfl rfl ?_
      refine j_iload_n 1 dX2_giveLecture_28 rfl rfl ?_
      refine j_cVv (As := [.int (nI j)]) (rest := []) (wr := []) (ws' := nb x q (kf, upd (upd tf j ((tf j) + 2)) j (stT ((upd tf j ((tf j) + 2)) j)), bup sl j (stS ((upd tf j ((tf j) + 2)) j) (sl j)), bf, n, d, h)) (tX2_settle l x q kf (upd tf j ((tf j) + 2)) sl bf n d h (by omega) j (by omega)) kX2_settle 0 rfl rfl rfl vX2_65 dX2_giveLecture_29 (by decide) rfl rfl (Nat.le_of_ble_eq_true rfl) (pm_0 _) (List.append_nil _) ?_
      exact j_vret _ dX2_giveLecture_32 (List.Perm.refl _) ⟨rfl, by (simp [lec, h14, upd_upd, upd_self]; try rfl)⟩
set_option maxHeartbeats 4000000 in
set_option maxRecDepth 100000 in
theorem tX2_wakeAs (l : Launch) (x : Cx) (q : Nat → Nat) (kf tf : Nat → Int32) (sl : Nat → Bool) (bf : Nat → Int32) (n : Nat) (d h : Int32) (hn : n ≤ 5) (j : Nat) (hj : j < n) (v : Int32) : MC l x 1 0 0 yX2_wakeAs cX2_wakeAs 3 none [.ref (q 0), .int (nI j), .int v] (nb x q (kf, tf, sl, bf, n, d, h)) (eV (nb x q (wak (kf, tf, sl, bf, n, d, h) j v))) := by
  refine MC.of (by decide) (Nat.le_of_ble_eq_true rfl) eV_fit (fun M => ?_)
  show J M l x cX2_wakeAs 3 yX2_wakeAs 1 (eV (nb x q (wak (kf, tf, sl, bf, n, d, h) j v))) 0 0 0 [(0, .ref (q 0)), (1, .int (nI j)), (2, .int v)] [] (nb x q (kf, tf, sl, bf, n, d, h))
  refine j_aload_n 0 dX2_wakeAs_0 rfl rfl ?_
  refine j_iload_n 1 dX2_wakeAs_1 rfl rfl ?_
  refine j_cVi (As := [.int (nI j)]) (rest := []) (wr := []) (ws' := nb x q (kf, tf, sl, bf, n, d, h)) (tX2_knows l x q kf tf sl bf n d h (nI j)) kX2_knows 0 rfl rfl rfl vX2_55 dX2_wakeAs_2 (by decide) rfl rfl (Nat.le_of_ble_eq_true rfl) (pm_0 _) (List.append_nil _) ?_
  refine j_ifb_eq (b := kn n (nI j)) (tgt := 22) dX2_wakeAs_5 (by decide) (fun h5 => absurd h5 (by rw [kn_t (by omega) (by omega)]; decide)) (fun h5 => ?_)
  refine j_aload_n 0 dX2_wakeAs_8 rfl rfl ?_
  refine j_get (v := .ref (q 2)) 0 dX2_wakeAs_9 fX2_15 rfl rfl ?_
  refine j_iload_n 1 dX2_wakeAs_12 rfl rfl ?_
  refine j_iload_n 2 dX2_wakeAs_13 rfl rfl ?_
  refine j_iastN (i := j) (f := tf) (ws' := nb x q (kf, upd tf j v, sl, bf, n, d, h)) 2 dX2_wakeAs_14 rfl (by omega) (by decide) rfl ?_
  refine j_aload_n 0 dX2_wakeAs_15 rfl rfl ?_
  refine j_get (v := .ref (q 3)) 0 dX2_wakeAs_16 fX2_18 rfl rfl ?_
  refine j_iload_n 1 dX2_wakeAs_19 rfl rfl ?_
  refine j_iconst (v := 0) dX2_wakeAs_20 (by decide) ?_
  refine j_zastB (i := j) (f := sl) (ws' := nb x q (kf, upd tf j v, bup sl j false, bf, n, d, h)) 3 false dX2_wakeAs_21 rfl (by omega) (by decide) rfl ?_
  exact j_vret _ dX2_wakeAs_22 (List.Perm.refl _) ⟨rfl, by rfl⟩
set_option maxHeartbeats 4000000 in
set_option maxRecDepth 100000 in
theorem lp_passHour {M : Mx} (l : Launch) (x : Cx) (q : Nat → Nat) (kf tf1 : Nat → Int32) (sl : Nat → Bool) (bf : Nat → Int32) (n : Nat) (d h' : Int32) (o : Option Nat) (hn : n ≤ 5) (ho : ∀ j, o = some j → j < n) {k0 n0 : Nat}  : ∀ (m : Nat) (i : Nat), i ≤ n → n - i < m → J M l x cX2_passHour 3 yX2_passHour 2 (eV (nb x q (kf, mix n (pT kf tf1 sl h' o) tf1, mix n (pS kf tf1 sl h' o) sl, bf, n, d, h'))) k0 n0 48 [(0, .ref (q 0)), (1, .int (oI o)), (2, .int (nI i))] [] (nb x q (kf, mix i (pT kf tf1 sl h' o) tf1, mix i (pS kf tf1 sl h' o) sl, bf, n, d, h')) := by
  intro m; induction m with
  | zero => intro i hc0 hm; exact absurd hm (Nat.not_lt_zero _)
  | succ m ih =>
    intro i hc0 hm
    refine j_iload_n 2 dX2_passHour_48 rfl rfl ?_
    refine j_aload_n 0 dX2_passHour_49 rfl rfl ?_
    refine j_get (v := .int (nI n)) 0 dX2_passHour_50 fX2_25 rfl rfl ?_
    refine j_icmpN_ge (a := i) (b := n) (by omega) (by omega) (tgt := 135) dX2_passHour_53 (by decide) (fun h53 => ?_) (fun h53 => ?_)
    · skip
      exact j_vret _ dX2_passHour_135 (List.Perm.refl _) ⟨rfl, by rw [show i = n by omega]⟩
    · skip
      refine j_aload_n 0 dX2_passHour_56 rfl rfl ?_
      refine j_get (v := .ref (q 3)) 0 dX2_passHour_57 fX2_18 rfl rfl ?_
      refine j_iload_n 2 dX2_passHour_60 rfl rfl ?_
      refine j_zaldB (i := i) (f := mix i (pS kf tf1 sl h' o) sl) 3 dX2_passHour_61 rfl (by omega) (by decide) ?_
      refine j_topi (b := bI (sl i)) (congrArg bI mix_self) ?_
      refine j_ifb_eq (b := sl i) (tgt := 86) dX2_passHour_62 (by decide) (fun h62 => ?_) (fun h62 => ?_)
      · skip
        refine j_aload_n 0 dX2_passHour_86 rfl rfl ?_
        refine j_get (v := .ref (q 2)) 0 dX2_passHour_87 fX2_15 rfl rfl ?_
        refine j_iload_n 2 dX2_passHour_90 rfl rfl ?_
        refine j_dup2 dX2_passHour_91 rfl rfl ?_
        refine j_ialdN (i := i) (f := mix i (pT kf tf1 sl h' o) tf1) 2 dX2_passHour_92 rfl (by omega) (by decide) ?_
        refine j_topi (b := tf1 i) mix_self ?_
        refine j_aload_n 0 dX2_passHour_93 rfl rfl ?_
        refine j_get (v := .ref (q 1)) 0 dX2_passHour_94 fX2_9 rfl rfl ?_
        refine j_iload_n 2 dX2_passHour_97 rfl rfl ?_
        refine j_ialdN (i := i) (f := kf) 1 dX2_passHour_98 rfl (by omega) (by decide) ?_
        refine j_aload_n 0 dX2_passHour_99 rfl rfl ?_
        refine j_get (v := .ref (q 2)) 0 dX2_passHour_100 fX2_15 rfl rfl ?_
        refine j_iload_n 2 dX2_passHour_103 rfl rfl ?_
        refine j_ialdN (i := i) (f := mix i (pT kf tf1 sl h' o) tf1) 2 dX2_passHour_104 rfl (by omega) (by decide) ?_
        refine j_topi (b := tf1 i) mix_self ?_
        refine j_aload_n 0 dX2_passHour_105 rfl rfl ?_
        refine j_get (v := .int h') 0 dX2_passHour_106 fX2_32 rfl rfl ?_
        refine j_iload_n 2 dX2_passHour_109 rfl rfl ?_
        refine j_iload_n 1 dX2_passHour_110 rfl rfl ?_
        refine j_icmp_ne (tgt := 118) dX2_passHour_111 (by decide) (fun h111 => ?_) (fun h111 => ?_)
        · skip
          have eo : (o == some i) = false := by
            have : ¬ o = some i := fun e => h111 ((oI_eq (by omega) (fun j e => by have := ho j e; omega)).mpr e)
            simp [this]
          refine j_iconst (v := bI false) dX2_passHour_118 (by decide) ?_
          refine j_cNi (As := [.int (kf i), .int (tf1 i), .int h', .int (bI false)]) (rest := [.int (tf1 i), .int (nI i), .ref (q 2)]) (wr := nb x q (kf, mix i (pT kf tf1 sl h' o) tf1, mix i (pS kf tf1 sl h' o) sl, bf, n, d, h')) (ws' := nb x q (kf, mix i (pT kf tf1 sl h' o) tf1, mix i (pS kf tf1 sl h' o) sl, bf, n, d, h')) (tX5_tiredByHour l x (kf i) (tf1 i) h' false) kX5_tiredByHour nX2_72 dX2_passHour_119 (by decide) rfl rfl (Nat.le_of_ble_eq_true rfl) (List.Perm.refl _) rfl ?_
          refine j_iadd dX2_passHour_122 ?_
          refine j_iastN (i := i) (f := mix i (pT kf tf1 sl h' o) tf1) (ws' := nb x q (kf, upd (mix i (pT kf tf1 sl h' o) tf1) i ((tf1 i) + (tbh (kf i) (tf1 i) h' false)), mix i (pS kf tf1 sl h' o) sl, bf, n, d, h')) 2 dX2_passHour_123 rfl (by omega) (by decide) rfl ?_
          refine j_aload_n 0 dX2_passHour_124 rfl rfl ?_
          refine j_iload_n 2 dX2_passHour_125 rfl rfl ?_
          refine j_cVv (As := [.int (nI i)]) (rest := []) (wr := []) (ws' := nb x q (kf, upd (upd (mix i (pT kf tf1 sl h' o) tf1) i ((tf1 i) + (tbh (kf i) (tf1 i) h' false))) i (stT ((upd (mix i (pT kf tf1 sl h' o) tf1) i ((tf1 i) + (tbh (kf i) (tf1 i) h' false))) i)), bup (mix i (pS kf tf1 sl h' o) sl) i (stS ((upd (mix i (pT kf tf1 sl h' o) tf1) i ((tf1 i) + (tbh (kf i) (tf1 i) h' false))) i) ((mix i (pS kf tf1 sl h' o) sl) i)), bf, n, d, h')) (tX2_settle l x q kf (upd (mix i (pT kf tf1 sl h' o) tf1) i ((tf1 i) + (tbh (kf i) (tf1 i) h' false))) (mix i (pS kf tf1 sl h' o) sl) bf n d h' (by omega) i (by omega)) kX2_settle 0 rfl rfl rfl vX2_65 dX2_passHour_126 (by decide) rfl rfl (Nat.le_of_ble_eq_true rfl) (pm_0 _) (List.append_nil _) ?_
          refine j_iinc (v := nI (i + 1)) (lv' := [(2, .int (nI (i + 1))), (0, .ref (q 0)), (1, .int (oI o))]) 2 dX2_passHour_129 rfl (nI_1 i) (by decide) rfl ?_
          refine j_goto (tgt := 48) dX2_passHour_132 (by decide) ?_
          refine j_lv [1, 2, 0] (lv' := [(0, .ref (q 0)), (1, .int (oI o)), (2, .int (nI (i + 1)))]) rfl ?_
          refine j_ws (ws' := nb x q (kf, mix (i + 1) (pT kf tf1 sl h' o) tf1, mix (i + 1) (pS kf tf1 sl h' o) sl, bf, n, d, h')) (by rw [upd_upd, upd_self, mix_self, mix_upd _ _ _ (show _ = pT kf tf1 sl h' o i by first | (simp [pT, pX, cT, h62]; done) | (simp [pT, pX, h62, eo]; done)), mix_bup _ _ _ (show _ = pS kf tf1 sl h' o i by first | (simp [pS, pX, cT, h62]; done) | (simp [pS, pX, h62, eo]; done))]) ?_
          exact ih (i + 1) (by omega) (by omega)
        · skip
          have eo : (o == some i) = true := by
            rw [(oI_eq (by omega) (fun j e => by have := ho j e; omega)).mp h111]; simp
          refine j_iconst (v := bI true) dX2_passHour_114 (by decide) ?_
          refine j_goto (tgt := 119) dX2_passHour_115 (by decide) ?_
          refine j_cNi (As := [.int (kf i), .int (tf1 i), .int h', .int (bI true)]) (rest := [.int (tf1 i), .int (nI i), .ref (q 2)]) (wr := nb x q (kf, mix i (pT kf tf1 sl h' o) tf1, mix i (pS kf tf1 sl h' o) sl, bf, n, d, h')) (ws' := nb x q (kf, mix i (pT kf tf1 sl h' o) tf1, mix i (pS kf tf1 sl h' o) sl, bf, n, d, h')) (tX5_tiredByHour l x (kf i) (tf1 i) h' true) kX5_tiredByHour nX2_72 dX2_passHour_119 (by decide) rfl rfl (Nat.le_of_ble_eq_true rfl) (List.Perm.refl _) rfl ?_
          refine j_iadd dX2_passHour_122 ?_
          refine j_iastN (i := i) (f := mix i (pT kf tf1 sl h' o) tf1) (ws' := nb x q (kf, upd (mix i (pT kf tf1 sl h' o) tf1) i ((tf1 i) + (tbh (kf i) (tf1 i) h' true)), mix i (pS kf tf1 sl h' o) sl, bf, n, d, h')) 2 dX2_passHour_123 rfl (by omega) (by decide) rfl ?_
          refine j_aload_n 0 dX2_passHour_124 rfl rfl ?_
          refine j_iload_n 2 dX2_passHour_125 rfl rfl ?_
          refine j_cVv (As := [.int (nI i)]) (rest := []) (wr := []) (ws' := nb x q (kf, upd (upd (mix i (pT kf tf1 sl h' o) tf1) i ((tf1 i) + (tbh (kf i) (tf1 i) h' true))) i (stT ((upd (mix i (pT kf tf1 sl h' o) tf1) i ((tf1 i) + (tbh (kf i) (tf1 i) h' true))) i)), bup (mix i (pS kf tf1 sl h' o) sl) i (stS ((upd (mix i (pT kf tf1 sl h' o) tf1) i ((tf1 i) + (tbh (kf i) (tf1 i) h' true))) i) ((mix i (pS kf tf1 sl h' o) sl) i)), bf, n, d, h')) (tX2_settle l x q kf (upd (mix i (pT kf tf1 sl h' o) tf1) i ((tf1 i) + (tbh (kf i) (tf1 i) h' true))) (mix i (pS kf tf1 sl h' o) sl) bf n d h' (by omega) i (by omega)) kX2_settle 0 rfl rfl rfl vX2_65 dX2_passHour_126 (by decide) rfl rfl (Nat.le_of_ble_eq_true rfl) (pm_0 _) (List.append_nil _) ?_
          refine j_iinc (v := nI (i + 1)) (lv' := [(2, .int (nI (i + 1))), (0, .ref (q 0)), (1, .int (oI o))]) 2 dX2_passHour_129 rfl (nI_1 i) (by decide) rfl ?_
          refine j_goto (tgt := 48) dX2_passHour_132 (by decide) ?_
          refine j_lv [1, 2, 0] (lv' := [(0, .ref (q 0)), (1, .int (oI o)), (2, .int (nI (i + 1)))]) rfl ?_
          refine j_ws (ws' := nb x q (kf, mix (i + 1) (pT kf tf1 sl h' o) tf1, mix (i + 1) (pS kf tf1 sl h' o) sl, bf, n, d, h')) (by rw [upd_upd, upd_self, mix_self, mix_upd _ _ _ (show _ = pT kf tf1 sl h' o i by first | (simp [pT, pX, cT, h62]; done) | (simp [pT, pX, h62, eo]; done)), mix_bup _ _ _ (show _ = pS kf tf1 sl h' o i by first | (simp [pS, pX, cT, h62]; done) | (simp [pS, pX, h62, eo]; done))]) ?_
          exact ih (i + 1) (by omega) (by omega)
      · skip
        refine j_aload_n 0 dX2_passHour_65 rfl rfl ?_
        refine j_get (v := .ref (q 2)) 0 dX2_passHour_66 fX2_15 rfl rfl ?_
        refine j_iload_n 2 dX2_passHour_69 rfl rfl ?_
        refine j_iconst (v := 0) dX2_passHour_70 (by decide) ?_
        refine j_aload_n 0 dX2_passHour_71 rfl rfl ?_
        refine j_get (v := .ref (q 2)) 0 dX2_passHour_72 fX2_15 rfl rfl ?_
        refine j_iload_n 2 dX2_passHour_75 rfl rfl ?_
        refine j_ialdN (i := i) (f := mix i (pT kf tf1 sl h' o) tf1) 2 dX2_passHour_76 rfl (by omega) (by decide) ?_
        refine j_topi (b := tf1 i) mix_self ?_
        refine j_iconst (v := 3) dX2_passHour_77 (by decide) ?_
        refine j_isub dX2_passHour_78 ?_
        refine j_mmax dX2_passHour_79 mX2_62 (by decide) (Nat.le_of_ble_eq_true rfl) ?_
        refine j_iastN (i := i) (f := mix i (pT kf tf1 sl h' o) tf1) (ws' := nb x q (kf, upd (mix i (pT kf tf1 sl h' o) tf1) i (if 0 < ((tf1 i) - 3) then ((tf1 i) - 3) else 0), mix i (pS kf tf1 sl h' o) sl, bf, n, d, h')) 2 dX2_passHour_82 rfl (by omega) (by decide) rfl ?_
        refine j_goto (tgt := 124) dX2_passHour_83 (by decide) ?_
        refine j_aload_n 0 dX2_passHour_124 rfl rfl ?_
        refine j_iload_n 2 dX2_passHour_125 rfl rfl ?_
        refine j_cVv (As := [.int (nI i)]) (rest := []) (wr := []) (ws' := nb x q (kf, upd (upd (mix i (pT kf tf1 sl h' o) tf1) i (if 0 < ((tf1 i) - 3) then ((tf1 i) - 3) else 0)) i (stT ((upd (mix i (pT kf tf1 sl h' o) tf1) i (if 0 < ((tf1 i) - 3) then ((tf1 i) - 3) else 0)) i)), bup (mix i (pS kf tf1 sl h' o) sl) i (stS ((upd (mix i (pT kf tf1 sl h' o) tf1) i (if 0 < ((tf1 i) - 3) then ((tf1 i) - 3) else 0)) i) ((mix i (pS kf tf1 sl h' o) sl) i)), bf, n, d, h')) (tX2_settle l x q kf (upd (mix i (pT kf tf1 sl h' o) tf1) i (if 0 < ((tf1 i) - 3) then ((tf1 i) - 3) else 0)) (mix i (pS kf tf1 sl h' o) sl) bf n d h' (by omega) i (by omega)) kX2_settle 0 rfl rfl rfl vX2_65 dX2_passHour_126 (by decide) rfl rfl (Nat.le_of_ble_eq_true rfl) (pm_0 _) (List.append_nil _) ?_
        refine j_iinc (v := nI (i + 1)) (lv' := [(2, .int (nI (i + 1))), (0, .ref (q 0)), (1, .int (oI o))]) 2 dX2_passHour_129 rfl (nI_1 i) (by decide) rfl ?_
        refine j_goto (tgt := 48) dX2_passHour_132 (by decide) ?_
        refine j_lv [1, 2, 0] (lv' := [(0, .ref (q 0)), (1, .int (oI o)), (2, .int (nI (i + 1)))]) rfl ?_
        refine j_ws (ws' := nb x q (kf, mix (i + 1) (pT kf tf1 sl h' o) tf1, mix (i + 1) (pS kf tf1 sl h' o) sl, bf, n, d, h')) (by rw [upd_upd, upd_self, mix_self, mix_upd _ _ _ (show _ = pT kf tf1 sl h' o i by first | (simp [pT, pX, cT, h62]; done) | (simp [pT, pX, h62, eo]; done)), mix_bup _ _ _ (show _ = pS kf tf1 sl h' o i by first | (simp [pS, pX, cT, h62]; done) | (simp [pS, pX, h62, eo]; done))]) ?_
        exact ih (i + 1) (by omega) (by omega)
set_option maxHeartbeats 4000000 in
set_option maxRecDepth 100000 in
theorem tX2_passHour (l : Launch) (x : Cx) (q : Nat → Nat) (kf tf : Nat → Int32) (sl : Nat → Bool) (bf : Nat → Int32) (n : Nat) (d h : Int32) (hn : n ≤ 5) : MC l x 2 0 0 yX2_passHour cX2_passHour 3 none [.ref (q 0)] (nb x q (kf, tf, sl, bf, n, d, h)) (eV (nb x q (ph (kf, tf, sl, bf, n, d, h)))) := by
  refine MC.of (by decide) (Nat.le_of_ble_eq_true rfl) eV_fit (fun M => ?_)
  show J M l x cX2_passHour 3 yX2_passHour 2 (eV (nb x q (ph (kf, tf, sl, bf, n, d, h)))) 0 0 0 [(0, .ref (q 0))] [] (nb x q (kf, tf, sl, bf, n, d, h))
  cases hw : wb kf tf sl n with
  | none =>
    refine j_aload_n 0 dX2_passHour_0 rfl rfl ?_
    refine j_cVi (As := []) (rest := []) (wr := []) (ws' := nb x q (kf, tf, sl, bf, n, d, h)) (tX2_whoseBed l x q kf tf sl bf n d h (by omega)) kX2_whoseBed 0 rfl rfl rfl vX2_69 dX2_passHour_1 (by decide) rfl rfl (Nat.le_of_ble_eq_true rfl) (pm_0 _) (List.append_nil _) ?_
    refine j_topi (b := (-1)) (by rw [hw]; rfl) ?_
    refine j_istore_n (lv' := [(1, .int (-1)), (0, .ref (q 0))]) dX2_passHour_4 rfl (by decide) rfl ?_
    refine j_aload_n 1 dX2_passHour_5 rfl rfl ?_
    refine j_dup dX2_passHour_6 rfl ?_
    refine j_get (v := .int h) 0 dX2_passHour_7 fX2_32 rfl rfl ?_
    refine j_iconst (v := 1) dX2_passHour_10 (by decide) ?_
    refine j_iadd dX2_passHour_11 ?_
    refine j_put (v := .int (h + 1)) (ws' := nb x q (kf, tf, sl, bf, n, d, h + 1)) 0 dX2_passHour_12 fX2_32 rfl rfl rfl (Nat.le_of_ble_eq_true rfl) rfl ?_
    refine j_aload_n 1 dX2_passHour_15 rfl rfl ?_
    refine j_iload_n 0 dX2_passHour_16 rfl rfl ?_
    refine j_cVi (As := [.int (-1)]) (rest := []) (wr := []) (ws' := nb x q (kf, tf, sl, bf, n, d, h + 1)) (tX2_knows l x q kf tf sl bf n d (h + 1) (-1)) kX2_knows 0 rfl rfl rfl vX2_55 dX2_passHour_17 (by decide) rfl rfl (Nat.le_of_ble_eq_true rfl) (pm_0 _) (List.append_nil _) ?_
    refine j_ifb_eq (b := kn n (-1)) (tgt := 46) dX2_passHour_20 (by decide) (fun h20 => ?_) (fun h20 => absurd h20 (by rw [kn_m1]; decide))
    refine j_iconst (v := nI 0) dX2_passHour_46 (by decide) ?_
    refine j_istore_n (lv' := [(2, .int (nI 0)), (1, .int (-1)), (0, .ref (q 0))]) dX2_passHour_47 rfl (by decide) rfl ?_
    refine j_lv [2, 1, 0] (lv' := [(0, .ref (q 0)), (1, .int (-1)), (2, .int (nI 0))]) rfl ?_
    have hl := lp_passHour (M := M) (k0 := 0) (n0 := 0) l x q kf (tf) sl (bf) n d (h + 1) none hn (fun j e => by cases e) (n + 1) 0 (by omega) (by omega)
    rw [mix_0, mix_0] at hl
    have e : ph (kf, tf, sl, bf, n, d, h) = (kf, mix n (pT kf (tf) sl (h + 1) none) (tf), mix n (pS kf (tf) sl (h + 1) none) sl, bf, n, d, h + 1) := by simp only [ph, hw, pT1, pB]
    rw [e]
    exact hl
  | some j =>
    have hj := wb_lt hw
    refine j_aload_n 0 dX2_passHour_0 rfl rfl ?_
    refine j_cVi (As := []) (rest := []) (wr := []) (ws' := nb x q (kf, tf, sl, bf, n, d, h)) (tX2_whoseBed l x q kf tf sl bf n d h (by omega)) kX2_whoseBed 0 rfl rfl rfl vX2_69 dX2_passHour_1 (by decide) rfl rfl (Nat.le_of_ble_eq_true rfl) (pm_0 _) (List.append_nil _) ?_
    refine j_topi (b := nI j) (by rw [hw]; rfl) ?_
    refine j_istore_n (lv' := [(1, .int (nI j)), (0, .ref (q 0))]) dX2_passHour_4 rfl (by decide) rfl ?_
    refine j_aload_n 1 dX2_passHour_5 rfl rfl ?_
    refine j_dup dX2_passHour_6 rfl ?_
    refine j_get (v := .int h) 0 dX2_passHour_7 fX2_32 rfl rfl ?_
    refine j_iconst (v := 1) dX2_passHour_10 (by decide) ?_
    refine j_iadd dX2_passHour_11 ?_
    refine j_put (v := .int (h + 1)) (ws' := nb x q (kf, tf, sl, bf, n, d, h + 1)) 0 dX2_passHour_12 fX2_32 rfl rfl rfl (Nat.le_of_ble_eq_true rfl) rfl ?_
    refine j_aload_n 1 dX2_passHour_15 rfl rfl ?_
    refine j_iload_n 0 dX2_passHour_16 rfl rfl ?_
    refine j_cVi (As := [.int (nI j)]) (rest := []) (wr := []) (ws' := nb x q (kf, tf, sl, bf, n, d, h + 1)) (tX2_knows l x q kf tf sl bf n d (h + 1) (nI j)) kX2_knows 0 rfl rfl rfl vX2_55 dX2_passHour_17 (by decide) rfl rfl (Nat.le_of_ble_eq_true rfl) (pm_0 _) (List.append_nil _) ?_
    refine j_ifb_eq (b := kn n (nI j)) (tgt := 46) dX2_passHour_20 (by decide) (fun h20 => absurd h20 (by rw [kn_t hj (by omega)]; decide)) (fun h20 => ?_)
    refine j_aload_n 1 dX2_passHour_23 rfl rfl ?_
    refine j_get (v := .ref (q 4)) 0 dX2_passHour_24 fX2_22 rfl rfl ?_
    refine j_iload_n 0 dX2_passHour_27 rfl rfl ?_
    refine j_dup2 dX2_passHour_28 rfl rfl ?_
    refine j_ialdN (i := j) (f := bf) 4 dX2_passHour_29 rfl (by omega) (by decide) ?_
    refine j_iconst (v := 1) dX2_passHour_30 (by decide) ?_
    refine j_iadd dX2_passHour_31 ?_
    refine j_iastN (i := j) (f := bf) (ws' := nb x q (kf, tf, sl, upd bf j ((bf j) + 1), n, d, h + 1)) 4 dX2_passHour_32 rfl (by omega) (by decide) rfl ?_
    refine j_aload_n 1 dX2_passHour_33 rfl rfl ?_
    refine j_get (v := .ref (q 2)) 0 dX2_passHour_34 fX2_15 rfl rfl ?_
    refine j_iload_n 0 dX2_passHour_37 rfl rfl ?_
    refine j_dup2 dX2_passHour_38 rfl rfl ?_
    refine j_ialdN (i := j) (f := tf) 2 dX2_passHour_39 rfl (by omega) (by decide) ?_
    refine j_aload_n 1 dX2_passHour_40 rfl rfl ?_
    refine j_get (v := .int d) 0 dX2_passHour_41 fX2_29 rfl rfl ?_
    refine j_iadd dX2_passHour_44 ?_
    refine j_iastN (i := j) (f := tf) (ws' := nb x q (kf, upd tf j ((tf j) + d), sl, upd bf j ((bf j) + 1), n, d, h + 1)) 2 dX2_passHour_45 rfl (by omega) (by decide) rfl ?_
    refine j_iconst (v := nI 0) dX2_passHour_46 (by decide) ?_
    refine j_istore_n (lv' := [(2, .int (nI 0)), (1, .int (nI j)), (0, .ref (q 0))]) dX2_passHour_47 rfl (by decide) rfl ?_
    refine j_lv [2, 1, 0] (lv' := [(0, .ref (q 0)), (1, .int (nI j)), (2, .int (nI 0))]) rfl ?_
    have hl := lp_passHour (M := M) (k0 := 0) (n0 := 0) l x q kf (upd tf j (tf j + d)) sl (upd bf j (bf j + 1)) n d (h + 1) (some j) hn (fun j e => by cases e; exact wb_lt hw) (n + 1) 0 (by omega) (by omega)
    rw [mix_0, mix_0] at hl
    have e : ph (kf, tf, sl, bf, n, d, h) = (kf, mix n (pT kf (upd tf j (tf j + d)) sl (h + 1) (some j)) (upd tf j (tf j + d)), mix n (pS kf (upd tf j (tf j + d)) sl (h + 1) (some j)) sl, upd bf j (bf j + 1), n, d, h + 1) := by simp only [ph, hw, pT1, pB]
    rw [e]
    exact hl
set_option maxHeartbeats 4000000 in
set_option maxRecDepth 100000 in
theorem lp_copyFrom {M : Mx} (l : Launch) (x : Cx) (q q2 : Nat → Nat) (kf tf : Nat → Int32) (sl : Nat → Bool) (bf : Nat → Int32) (n : Nat) (d h : Int32) (kf2 tf2 : Nat → Int32) (sl2 : Nat → Bool) (bf2 : Nat → Int32) (n2 : Nat) (d2 h2 : Int32) (hn : n2 ≤ 5) {k0 n0 : Nat}  : ∀ (m : Nat) (i : Nat), i ≤ n2 → n2 - i < m → J M l x cX2_copyFrom 3 yX2_copyFrom 0 (eV (nb x q (cpy (kf2, tf2, sl2, bf2, n2, d2, h2) (kf, tf, sl, bf, n, d, h)) ++ nb x q2 (kf2, tf2, sl2, bf2, n2, d2, h2))) k0 n0 26 [(0, .ref (q 0)), (1, .ref (q2 0)), (2, .int (nI i))] [] (nb x q (mix i kf2 kf, mix i tf2 tf, mix i sl2 sl, mix i bf2 bf, n2, d2, h2) ++ nb x q2 (kf2, tf2, sl2, bf2, n2, d2, h2)) := by
  intro m; induction m with
  | zero => intro i hc0 hm; exact absurd hm (Nat.not_lt_zero _)
  | succ m ih =>
    intro i hc0 hm
    refine j_iload_n 2 dX2_copyFrom_26 rfl rfl ?_
    refine j_aload_n 0 dX2_copyFrom_27 rfl rfl ?_
    refine j_get (v := .int (nI n2)) 0 dX2_copyFrom_28 fX2_25 rfl rfl ?_
    refine j_icmpN_ge (a := i) (b := n2) (by omega) (by omega) (tgt := 88) dX2_copyFrom_31 (by decide) (fun h31 => ?_) (fun h31 => ?_)
    · skip
      exact j_vret _ dX2_copyFrom_88 (List.Perm.refl _) ⟨rfl, by rw [show i = n2 by omega]; rfl⟩
    · skip
      refine j_aload_n 0 dX2_copyFrom_34 rfl rfl ?_
      refine j_get (v := .ref (q 1)) 0 dX2_copyFrom_35 fX2_9 rfl rfl ?_
      refine j_iload_n 2 dX2_copyFrom_38 rfl rfl ?_
      refine j_aload_n 1 dX2_copyFrom_39 rfl rfl ?_
      refine j_get (v := .ref (q2 1)) 5 dX2_copyFrom_40 fX2_9 rfl rfl ?_
      refine j_iload_n 2 dX2_copyFrom_43 rfl rfl ?_
      refine j_ialdN (i := i) (f := kf2) 6 dX2_copyFrom_44 rfl (by omega) (by decide) ?_
      refine j_iastN (i := i) (f := mix i kf2 kf) (ws' := nb x q (upd (mix i kf2 kf) i (kf2 i), mix i tf2 tf, mix i sl2 sl, mix i bf2 bf, n2, d2, h2) ++ nb x q2 (kf2, tf2, sl2, bf2, n2, d2, h2)) 1 dX2_copyFrom_45 rfl (by omega) (by decide) rfl ?_
      refine j_aload_n 0 dX2_copyFrom_46 rfl rfl ?_
      refine j_get (v := .ref (q 2)) 0 dX2_copyFrom_47 fX2_15 rfl rfl ?_
      refine j_iload_n 2 dX2_copyFrom_50 rfl rfl ?_
      refine j_aload_n 1 dX2_copyFrom_51 rfl rfl ?_
      refine j_get (v := .ref (q2 2)) 5 dX2_copyFrom_52 fX2_15 rfl rfl ?_
      refine j_iload_n 2 dX2_copyFrom_55 rfl rfl ?_
      refine j_ialdN (i := i) (f := tf2) 7 dX2_copyFrom_56 rfl (by omega) (by decide) ?_
      refine j_iastN (i := i) (f := mix i tf2 tf) (ws' := nb x q (upd (mix i kf2 kf) i (kf2 i), upd (mix i tf2 tf) i (tf2 i), mix i sl2 sl, mix i bf2 bf, n2, d2, h2) ++ nb x q2 (kf2, tf2, sl2, bf2, n2, d2, h2)) 2 dX2_copyFrom_57 rfl (by omega) (by decide) rfl ?_
      refine j_aload_n 0 dX2_copyFrom_58 rfl rfl ?_
      refine j_get (v := .ref (q 3)) 0 dX2_copyFrom_59 fX2_18 rfl rfl ?_
      refine j_iload_n 2 dX2_copyFrom_62 rfl rfl ?_
      refine j_aload_n 1 dX2_copyFrom_63 rfl rfl ?_
      refine j_get (v := .ref (q2 3)) 5 dX2_copyFrom_64 fX2_18 rfl rfl ?_
      refine j_iload_n 2 dX2_copyFrom_67 rfl rfl ?_
      refine j_zaldB (i := i) (f := sl2) 8 dX2_copyFrom_68 rfl (by omega) (by decide) ?_
      refine j_zastB (i := i) (f := mix i sl2 sl) (ws' := nb x q (upd (mix i kf2 kf) i (kf2 i), upd (mix i tf2 tf) i (tf2 i), bup (mix i sl2 sl) i (sl2 i), mix i bf2 bf, n2, d2, h2) ++ nb x q2 (kf2, tf2, sl2, bf2, n2, d2, h2)) 3 (sl2 i) dX2_copyFrom_69 rfl (by omega) (by decide) rfl ?_
      refine j_aload_n 0 dX2_copyFrom_70 rfl rfl ?_
      refine j_get (v := .ref (q 4)) 0 dX2_copyFrom_71 fX2_22 rfl rfl ?_
      refine j_iload_n 2 dX2_copyFrom_74 rfl rfl ?_
      refine j_aload_n 1 dX2_copyFrom_75 rfl rfl ?_
      refine j_get (v := .ref (q2 4)) 5 dX2_copyFrom_76 fX2_22 rfl rfl ?_
      refine j_iload_n 2 dX2_copyFrom_79 rfl rfl ?_
      refine j_ialdN (i := i) (f := bf2) 9 dX2_copyFrom_80 rfl (by omega) (by decide) ?_
      refine j_iastN (i := i) (f := mix i bf2 bf) (ws' := nb x q (upd (mix i kf2 kf) i (kf2 i), upd (mix i tf2 tf) i (tf2 i), bup (mix i sl2 sl) i (sl2 i), upd (mix i bf2 bf) i (bf2 i), n2, d2, h2) ++ nb x q2 (kf2, tf2, sl2, bf2, n2, d2, h2)) 4 dX2_copyFrom_81 rfl (by omega) (by decide) rfl ?_
      refine j_iinc (v := nI (i + 1)) (lv' := [(2, .int (nI (i + 1))), (0, .ref (q 0)), (1, .ref (q2 0))]) 2 dX2_copyFrom_82 rfl (nI_1 i) (by decide) rfl ?_
      refine j_goto (tgt := 26) dX2_copyFrom_85 (by decide) ?_
      refine j_lv [1, 2, 0] (lv' := [(0, .ref (q 0)), (1, .ref (q2 0)), (2, .int (nI (i + 1)))]) rfl ?_
      refine j_ws (ws' := nb x q (mix (i + 1) kf2 kf, mix (i + 1) tf2 tf, mix (i + 1) sl2 sl, mix (i + 1) bf2 bf, n2, d2, h2) ++ nb x q2 (kf2, tf2, sl2, bf2, n2, d2, h2)) (by rw [mix_upd _ _ _ rfl, mix_upd _ _ _ rfl, mix_bup _ _ _ rfl, mix_upd _ _ _ rfl]) ?_
      exact ih (i + 1) (by omega) (by omega)
set_option maxHeartbeats 4000000 in
set_option maxRecDepth 100000 in
theorem tX2_copyFrom (l : Launch) (x : Cx) (q q2 : Nat → Nat) (kf tf : Nat → Int32) (sl : Nat → Bool) (bf : Nat → Int32) (n : Nat) (d h : Int32) (kf2 tf2 : Nat → Int32) (sl2 : Nat → Bool) (bf2 : Nat → Int32) (n2 : Nat) (d2 h2 : Int32) (hn : n2 ≤ 5) : MC l x 0 0 0 yX2_copyFrom cX2_copyFrom 3 none [.ref (q 0), .ref (q2 0)] (nb x q (kf, tf, sl, bf, n, d, h) ++ nb x q2 (kf2, tf2, sl2, bf2, n2, d2, h2)) (eV (nb x q (cpy (kf2, tf2, sl2, bf2, n2, d2, h2) (kf, tf, sl, bf, n, d, h)) ++ nb x q2 (kf2, tf2, sl2, bf2, n2, d2, h2))) := by
  refine MC.of (by decide) (Nat.le_of_ble_eq_true rfl) eV_fit (fun M => ?_)
  show J M l x cX2_copyFrom 3 yX2_copyFrom 0 (eV (nb x q (cpy (kf2, tf2, sl2, bf2, n2, d2, h2) (kf, tf, sl, bf, n, d, h)) ++ nb x q2 (kf2, tf2, sl2, bf2, n2, d2, h2))) 0 0 0 [(0, .ref (q 0)), (1, .ref (q2 0))] [] (nb x q (kf, tf, sl, bf, n, d, h) ++ nb x q2 (kf2, tf2, sl2, bf2, n2, d2, h2))
  refine j_aload_n 0 dX2_copyFrom_0 rfl rfl ?_
  refine j_aload_n 1 dX2_copyFrom_1 rfl rfl ?_
  refine j_get (v := .int (nI n2)) 5 dX2_copyFrom_2 fX2_25 rfl rfl ?_
  refine j_put (v := .int (nI n2)) (ws' := nb x q (kf, tf, sl, bf, n2, d, h) ++ nb x q2 (kf2, tf2, sl2, bf2, n2, d2, h2)) 0 dX2_copyFrom_5 fX2_25 rfl rfl rfl (Nat.le_of_ble_eq_true rfl) rfl ?_
  refine j_aload_n 0 dX2_copyFrom_8 rfl rfl ?_
  refine j_aload_n 1 dX2_copyFrom_9 rfl rfl ?_
  refine j_get (v := .int d2) 5 dX2_copyFrom_10 fX2_29 rfl rfl ?_
  refine j_put (v := .int d2) (ws' := nb x q (kf, tf, sl, bf, n2, d2, h) ++ nb x q2 (kf2, tf2, sl2, bf2, n2, d2, h2)) 0 dX2_copyFrom_13 fX2_29 rfl rfl rfl (Nat.le_of_ble_eq_true rfl) rfl ?_
  refine j_aload_n 0 dX2_copyFrom_16 rfl rfl ?_
  refine j_aload_n 1 dX2_copyFrom_17 rfl rfl ?_
  refine j_get (v := .int h2) 5 dX2_copyFrom_18 fX2_32 rfl rfl ?_
  refine j_put (v := .int h2) (ws' := nb x q (kf, tf, sl, bf, n2, d2, h2) ++ nb x q2 (kf2, tf2, sl2, bf2, n2, d2, h2)) 0 dX2_copyFrom_21 fX2_32 rfl rfl rfl (Nat.le_of_ble_eq_true rfl) rfl ?_
  refine j_iconst (v := nI 0) dX2_copyFrom_24 (by decide) ?_
  refine j_istore_n (lv' := [(2, .int (nI 0)), (0, .ref (q 0)), (1, .ref (q2 0))]) dX2_copyFrom_25 rfl (by decide) rfl ?_
  refine j_lv [1, 2, 0] (lv' := [(0, .ref (q 0)), (1, .ref (q2 0)), (2, .int (nI 0))]) rfl ?_
  have hl := lp_copyFrom (M := M) (k0 := 0) (n0 := 0) l x q q2 kf tf sl bf n d h kf2 tf2 sl2 bf2 n2 d2 h2 hn (n2 + 1) 0 (by omega) (by omega)
  rw [mix_0, mix_0, mix_0, mix_0] at hl
  exact hl
end
section
set_option maxHeartbeats 4000000 in
set_option maxRecDepth 100000 in
theorem lp_keepsBed {M : Mx} (l : Launch) (x : Cx) (q : Nat → Nat) (j : Nat) (hj : j < 5) (hh : Nat) (hh6 : hh ≤ 6) {k0 n0 : Nat} : ∀ (m a : Nat) (u : NS), a ≤ hh → nN u ≤ 5 → hh - a < m → J M l x cX2_keepsBed 4 yX2_keepsBed 3 (eX (bI (kb (hh - a) u j)) (anyN x q)) k0 n0 2 [(0, .ref (q 0)), (1, .int (nI j)), (2, .int (nI hh)), (3, .int (nI a))] [] (nb x q u) := by
  intro m; induction m with
  | zero => intro a u hc0 hc1 hm; exact absurd hm (Nat.not_lt_zero _)
  | succ m ih =>
    intro a u hc0 hc1 hm
    obtain ⟨kf, tf, sl, bf, n, d, h⟩ := u
    have hn : n ≤ 5 := hc1
    refine j_iload_n 3 dX2_keepsBed_2 rfl rfl ?_
    refine j_iload_n 2 dX2_keepsBed_3 rfl rfl ?_
    refine j_icmpN_ge (a := a) (b := hh) (by omega) (by omega) (tgt := 25) dX2_keepsBed_4 (by decide) (fun h4 => ?_) (fun h4 => ?_)
    · skip
      refine j_aload_n 0 dX2_keepsBed_25 rfl rfl ?_
      refine j_cVi (As := []) (rest := []) (wr := []) (ws' := nb x q (kf, tf, sl, bf, n, d, h)) (tX2_whoseBed l x q kf tf sl bf n d h (by omega)) kX2_whoseBed 0 rfl rfl rfl vX2_69 dX2_keepsBed_26 (by decide) rfl rfl (Nat.le_of_ble_eq_true rfl) (pm_0 _) (List.append_nil _) ?_
      refine j_iload_n 1 dX2_keepsBed_29 rfl rfl ?_
      refine j_icmp_ne (tgt := 37) dX2_keepsBed_30 (by decide) (fun h30 => ?_) (fun h30 => ?_)
      · skip
        have eq30 : ¬ wb kf tf sl n = some j := fun e => h30 ((oI_eq (by omega) (fun i e => by have := wb_lt e; omega)).mpr e).symm
        refine j_iconst (v := bI false) dX2_keepsBed_37 (by decide) ?_
        exact j_iret _ dX2_keepsBed_38 (List.Perm.refl _) ⟨congrArg (fun b => some (Value.int (bI b))) (by exact (kb_f (show ¬ wbU (kf, tf, sl, bf, n, d, h) = some j from eq30)).symm), (kf, tf, sl, bf, n, d, h), hn, rfl⟩
      · skip
        have eq30 : wb kf tf sl n = some j := (oI_eq (by omega) (fun i e => by have := wb_lt e; omega)).mp h30.symm
        refine j_iconst (v := bI true) dX2_keepsBed_33 (by decide) ?_
        refine j_goto (tgt := 38) dX2_keepsBed_34 (by decide) ?_
        exact j_iret _ dX2_keepsBed_38 (List.Perm.refl _) ⟨congrArg (fun b => some (Value.int (bI b))) (by first | exact absurd eq30 eq12 | (rw [show hh - a = 0 by omega]; simp [kb, wbU, eq30]; done)), (kf, tf, sl, bf, n, d, h), hn, rfl⟩
    · skip
      refine j_aload_n 0 dX2_keepsBed_7 rfl rfl ?_
      refine j_cVi (As := []) (rest := []) (wr := []) (ws' := nb x q (kf, tf, sl, bf, n, d, h)) (tX2_whoseBed l x q kf tf sl bf n d h (by omega)) kX2_whoseBed 0 rfl rfl rfl vX2_69 dX2_keepsBed_8 (by decide) rfl rfl (Nat.le_of_ble_eq_true rfl) (pm_0 _) (List.append_nil _) ?_
      refine j_iload_n 1 dX2_keepsBed_11 rfl rfl ?_
      refine j_icmp_ne (tgt := 25) dX2_keepsBed_12 (by decide) (fun h12 => ?_) (fun h12 => ?_)
      · skip
        have eq12 : ¬ wb kf tf sl n = some j := fun e => h12 ((oI_eq (by omega) (fun i e => by have := wb_lt e; omega)).mpr e).symm
        refine j_aload_n 0 dX2_keepsBed_25 rfl rfl ?_
        refine j_cVi (As := []) (rest := []) (wr := []) (ws' := nb x q (kf, tf, sl, bf, n, d, h)) (tX2_whoseBed l x q kf tf sl bf n d h (by omega)) kX2_whoseBed 0 rfl rfl rfl vX2_69 dX2_keepsBed_26 (by decide) rfl rfl (Nat.le_of_ble_eq_true rfl) (pm_0 _) (List.append_nil _) ?_
        refine j_iload_n 1 dX2_keepsBed_29 rfl rfl ?_
        refine j_icmp_ne (tgt := 37) dX2_keepsBed_30 (by decide) (fun h30 => ?_) (fun h30 => ?_)
        · skip
          have eq30 : ¬ wb kf tf sl n = some j := fun e => h30 ((oI_eq (by omega) (fun i e => by have := wb_lt e; omega)).mpr e).symm
          refine j_iconst (v := bI false) dX2_keepsBed_37 (by decide) ?_
          exact j_iret _ dX2_keepsBed_38 (List.Perm.refl _) ⟨congrArg (fun b => some (Value.int (bI b))) (by exact (kb_f (show ¬ wbU (kf, tf, sl, bf, n, d, h) = some j from eq30)).symm), (kf, tf, sl, bf, n, d, h), hn, rfl⟩
        · skip
          have eq30 : wb kf tf sl n = some j := (oI_eq (by omega) (fun i e => by have := wb_lt e; omega)).mp h30.symm
          refine j_iconst (v := bI true) dX2_keepsBed_33 (by decide) ?_
          refine j_goto (tgt := 38) dX2_keepsBed_34 (by decide) ?_
          exact j_iret _ dX2_keepsBed_38 (List.Perm.refl _) ⟨congrArg (fun b => some (Value.int (bI b))) (by first | exact absurd eq30 eq12 | (rw [show hh - a = 0 by omega]; simp [kb, wbU, eq30]; done)), (kf, tf, sl, bf, n, d, h), hn, rfl⟩
      · skip
        have eq12 : wb kf tf sl n = some j := (oI_eq (by omega) (fun i e => by have := wb_lt e; omega)).mp h12.symm
        refine j_aload_n 0 dX2_keepsBed_15 rfl rfl ?_
        refine j_cVv (As := []) (rest := []) (wr := []) (ws' := nb x q (ph (kf, tf, sl, bf, n, d, h))) (tX2_passHour l x q kf tf sl bf n d h (by omega)) kX2_passHour 0 rfl rfl rfl vX2_76 dX2_keepsBed_16 (by decide) rfl rfl (Nat.le_of_ble_eq_true rfl) (pm_0 _) (List.append_nil _) ?_
        refine j_iinc (v := nI (a + 1)) (lv' := [(3, .int (nI (a + 1))), (0, .ref (q 0)), (1, .int (nI j)), (2, .int (nI hh))]) 3 dX2_keepsBed_19 rfl (nI_1 a) (by decide) rfl ?_
        refine j_goto (tgt := 2) dX2_keepsBed_22 (by decide) ?_
        refine j_lv [1, 2, 3, 0] (lv' := [(0, .ref (q 0)), (1, .int (nI j)), (2, .int (nI hh)), (3, .int (nI (a + 1)))]) rfl ?_
        have hi := ih (a + 1) (ph (kf, tf, sl, bf, n, d, h)) (by omega) (by show n ≤ 5; exact hn) (by omega)
        rw [show kb (hh - a) (kf, tf, sl, bf, n, d, h) j = kb (hh - (a + 1)) (ph (kf, tf, sl, bf, n, d, h)) j from by rw [show hh - a = (hh - (a + 1)) + 1 by omega]; exact kb_t (show wbU (kf, tf, sl, bf, n, d, h) = some j from eq12)]
        exact hi
set_option maxHeartbeats 4000000 in
set_option maxRecDepth 100000 in
theorem tX2_keepsBed (l : Launch) (x : Cx) (q : Nat → Nat) (kf tf : Nat → Int32) (sl : Nat → Bool) (bf : Nat → Int32) (n : Nat) (d h : Int32) (hn : n ≤ 5) (j : Nat) (hj : j < 5) (hh : Nat) (h1 : 1 ≤ hh) (hh6 : hh ≤ 6) : MC l x 3 0 0 yX2_keepsBed cX2_keepsBed 4 (some .boolean) [.ref (q 0), .int (nI j), .int (nI hh)] (nb x q (kf, tf, sl, bf, n, d, h)) (eX (bI (kb (hh - 1) (kf, tf, sl, bf, n, d, h) j)) (anyN x q)) := by
  refine MC.of (by decide) (Nat.le_of_ble_eq_true rfl) eXB_fit (fun M => ?_)
  show J M l x cX2_keepsBed 4 yX2_keepsBed 3 (eX (bI (kb (hh - 1) (kf, tf, sl, bf, n, d, h) j)) (anyN x q)) 0 0 0 [(0, .ref (q 0)), (1, .int (nI j)), (2, .int (nI hh))] [] (nb x q (kf, tf, sl, bf, n, d, h))
  refine j_iconst (v := nI 1) dX2_keepsBed_0 (by decide) ?_
  refine j_istore_n (lv' := [(3, .int (nI 1)), (0, .ref (q 0)), (1, .int (nI j)), (2, .int (nI hh))]) dX2_keepsBed_1 rfl (by decide) rfl ?_
  refine j_lv [1, 2, 3, 0] (lv' := [(0, .ref (q 0)), (1, .int (nI j)), (2, .int (nI hh)), (3, .int (nI 1))]) rfl ?_
  exact lp_keepsBed l x q j hj hh hh6 (hh + 1) 1 (kf, tf, sl, bf, n, d, h) h1 hn (by omega)
set_option maxHeartbeats 4000000 in
set_option maxRecDepth 100000 in
theorem lp_hoursAwake {M : Mx} (l : Launch) (x : Cx) (q : Nat → Nat) (kf tf : Nat → Int32) (sl : Nat → Bool) (bf : Nat → Int32) (n : Nat) (d h : Int32) (kk : Int32) (r : Nat) {k0 n0 : Nat}  : ∀ (m : Nat) (p : Nat) (t : Int32), p ≤ 61 → awk kk h (61 - p) p t = r → 61 - p < m → J M l x cX2_hoursAwakeInBed 5 yX2_hoursAwakeInBed 2 (eI (nI r) (nb x q (kf, tf, sl, bf, n, d, h))) k0 n0 15 [(0, .ref (q 0)), (2, .int kk), (3, .int t), (4, .int (nI p))] [] (nb x q (kf, tf, sl, bf, n, d, h)) := by
  intro m; induction m with
  | zero => intro p t hc0 hc1 hm; exact absurd hm (Nat.not_lt_zero _)
  | succ m ih =>
    intro p t hc0 hc1 hm
    refine j_iload 3 dX2_hoursAwakeInBed_15 rfl ?_
    refine j_bipush (v := 60) dX2_hoursAwakeInBed_17 (by decide) ?_
    refine j_icmpN_gt (a := p) (b := 60) (by omega) (by omega) (tgt := 53) dX2_hoursAwakeInBed_19 (by decide) (fun h19 => ?_) (fun h19 => ?_)
    · skip
      refine j_bipush (v := 60) dX2_hoursAwakeInBed_53 (by decide) ?_
      exact j_iret _ dX2_hoursAwakeInBed_55 (List.Perm.refl _) ⟨by rw [← hc1, show 61 - p = 0 by omega]; rfl, rfl⟩
    · skip
      refine j_iload_n 2 dX2_hoursAwakeInBed_22 rfl rfl ?_
      refine j_iload_n 1 dX2_hoursAwakeInBed_23 rfl rfl ?_
      refine j_iload_n 2 dX2_hoursAwakeInBed_24 rfl rfl ?_
      refine j_aload_n 0 dX2_hoursAwakeInBed_25 rfl rfl ?_
      refine j_get (v := .int h) 0 dX2_hoursAwakeInBed_26 fX2_32 rfl rfl ?_
      refine j_iload 3 dX2_hoursAwakeInBed_29 rfl ?_
      refine j_iadd dX2_hoursAwakeInBed_31 ?_
      refine j_iconst (v := bI true) dX2_hoursAwakeInBed_32 (by decide) ?_
      refine j_cNi (As := [.int kk, .int t, .int (h + (nI p)), .int (bI true)]) (rest := [.int t]) (wr := nb x q (kf, tf, sl, bf, n, d, h)) (ws' := nb x q (kf, tf, sl, bf, n, d, h)) (tX5_tiredByHour l x kk t (h + (nI p)) true) kX5_tiredByHour nX2_72 dX2_hoursAwakeInBed_33 (by decide) rfl rfl (Nat.le_of_ble_eq_true rfl) (List.Perm.refl _) rfl ?_
      refine j_iadd dX2_hoursAwakeInBed_36 ?_
      refine j_istore_n (lv' := [(3, .int (t + (tbh kk t (h + (nI p)) true))), (0, .ref (q 0)), (2, .int kk), (4, .int (nI p))]) dX2_hoursAwakeInBed_37 rfl (by decide) rfl ?_
      refine j_iload_n 0 dX2_hoursAwakeInBed_38 rfl rfl ?_
      refine j_bipush (v := 10) dX2_hoursAwakeInBed_39 (by decide) ?_
      refine j_icmp_lt (tgt := 47) dX2_hoursAwakeInBed_41 (by decide) (fun h41 => ?_) (fun h41 => ?_)
      · skip
        refine j_iinc (v := nI (p + 1)) (lv' := [(4, .int (nI (p + 1))), (3, .int (t + (tbh kk t (h + (nI p)) true))), (0, .ref (q 0)), (2, .int kk)]) 3 dX2_hoursAwakeInBed_47 rfl (nI_1 p) (by decide) rfl ?_
        refine j_goto (tgt := 15) dX2_hoursAwakeInBed_50 (by decide) ?_
        refine j_lv [2, 3, 1, 0] (lv' := [(0, .ref (q 0)), (2, .int kk), (3, .int (t + (tbh kk t (h + (nI p)) true))), (4, .int (nI (p + 1)))]) rfl ?_
        exact ih (p + 1) _ (by omega) (by rw [← hc1, show 61 - p = (61 - (p + 1)) + 1 by omega, awk, if_pos h41]) (by omega)
      · skip
        refine j_iload 3 dX2_hoursAwakeInBed_44 rfl ?_
        exact j_iret _ dX2_hoursAwakeInBed_46 (List.Perm.refl _) ⟨by rw [← hc1, show 61 - p = (61 - (p + 1)) + 1 by omega, awk, if_neg h41], rfl⟩
set_option maxHeartbeats 4000000 in
set_option maxRecDepth 100000 in
theorem tX2_hoursAwakeInBed (l : Launch) (x : Cx) (q : Nat → Nat) (kf tf : Nat → Int32) (sl : Nat → Bool) (bf : Nat → Int32) (n : Nat) (d h : Int32) (hn : n ≤ 5) (j : Nat) (hj : j < n) : MC l x 2 0 0 yX2_hoursAwakeInBed cX2_hoursAwakeInBed 5 (some .int) [.ref (q 0), .int (nI j)] (nb x q (kf, tf, sl, bf, n, d, h)) (eI (nI (awk (kf j) h 60 1 (tf j))) (nb x q (kf, tf, sl, bf, n, d, h))) := by
  refine MC.of (by decide) (Nat.le_of_ble_eq_true rfl) eI_fit (fun M => ?_)
  show J M l x cX2_hoursAwakeInBed 5 yX2_hoursAwakeInBed 2 (eI (nI (awk (kf j) h 60 1 (tf j))) (nb x q (kf, tf, sl, bf, n, d, h))) 0 0 0 [(0, .ref (q 0)), (1, .int (nI j))] [] (nb x q (kf, tf, sl, bf, n, d, h))
  refine j_aload_n 0 dX2_hoursAwakeInBed_0 rfl rfl ?_
  refine j_iload_n 1 dX2_hoursAwakeInBed_1 rfl rfl ?_
  refine j_cVi (As := [.int (nI j)]) (rest := []) (wr := []) (ws' := nb x q (kf, tf, sl, bf, n, d, h)) (tX2_kindOf l x q kf tf sl bf n d h (by omega) j (by omega)) kX2_kindOf 0 rfl rfl rfl vX2_85 dX2_hoursAwakeInBed_2 (by decide) rfl rfl (Nat.le_of_ble_eq_true rfl) (pm_0 _) (List.append_nil _) ?_
  refine j_istore_n (lv' := [(2, .int (kf j)), (0, .ref (q 0)), (1, .int (nI j))]) dX2_hoursAwakeInBed_5 rfl (by decide) rfl ?_
  refine j_aload_n 1 dX2_hoursAwakeInBed_6 rfl rfl ?_
  refine j_iload_n 2 dX2_hoursAwakeInBed_7 rfl rfl ?_
  refine j_cVi (As := [.int (nI j)]) (rest := []) (wr := []) (ws' := nb x q (kf, tf, sl, bf, n, d, h)) (tX2_tiredOf l x q kf tf sl bf n d h (by omega) j (by omega)) kX2_tiredOf 0 rfl rfl rfl vX2_86 dX2_hoursAwakeInBed_8 (by decide) rfl rfl (Nat.le_of_ble_eq_true rfl) (pm_0 _) (List.append_nil _) ?_
  refine j_istore_n (lv' := [(3, .int (tf j)), (2, .int (kf j)), (0, .ref (q 0)), (1, .int (nI j))]) dX2_hoursAwakeInBed_11 rfl (by decide) rfl ?_
  refine j_iconst (v := nI 1) dX2_hoursAwakeInBed_12 (by decide) ?_
  refine j_istore (lv' := [(4, .int (nI 1)), (3, .int (tf j)), (2, .int (kf j)), (0, .ref (q 0)), (1, .int (nI j))]) dX2_hoursAwakeInBed_13 (by decide) rfl ?_
  refine j_lv [3, 2, 1, 0] (lv' := [(0, .ref (q 0)), (2, .int (kf j)), (3, .int (tf j)), (4, .int (nI 1))]) rfl ?_
  exact lp_hoursAwake l x q kf tf sl bf n d h (kf j) _ 61 1 (tf j) (by omega) rfl (by omega)
set_option maxHeartbeats 4000000 in
set_option maxRecDepth 100000 in
theorem tX2_hoursTogether (l : Launch) (x : Cx) (q : Nat → Nat) (kf tf : Nat → Int32) (sl : Nat → Bool) (bf : Nat → Int32) (n : Nat) (d h : Int32) (hn : n ≤ 5) (a b : Nat) (ha : a < n) (hb : b < n) : MC l x 3 0 0 yX2_hoursTogether cX2_hoursTogether 3 (some .int) [.ref (q 0), .int (nI a), .int (nI b)] (nb x q (kf, tf, sl, bf, n, d, h)) (eI (nI (tog kf tf h a b)) (nb x q (kf, tf, sl, bf, n, d, h))) := by
  refine MC.of (by decide) (Nat.le_of_ble_eq_true rfl) eI_fit (fun M => ?_)
  show J M l x cX2_hoursTogether 3 yX2_hoursTogether 3 (eI (nI (tog kf tf h a b)) (nb x q (kf, tf, sl, bf, n, d, h))) 0 0 0 [(0, .ref (q 0)), (1, .int (nI a)), (2, .int (nI b))] [] (nb x q (kf, tf, sl, bf, n, d, h))
  refine j_aload_n 0 dX2_hoursTogether_0 rfl rfl ?_
  refine j_iload_n 1 dX2_hoursTogether_1 rfl rfl ?_
  refine j_cVi (As := [.int (nI a)]) (rest := []) (wr := []) (ws' := nb x q (kf, tf, sl, bf, n, d, h)) (tX2_hoursAwakeInBed l x q kf tf sl bf n d h (by omega) a (by omega)) kX2_hoursAwakeInBed 0 rfl rfl rfl vX2_82 dX2_hoursTogether_2 (by decide) rfl rfl (Nat.le_of_ble_eq_true rfl) (pm_0 _) (List.append_nil _) ?_
  refine j_aload_n 0 dX2_hoursTogether_5 rfl rfl ?_
  refine j_iload_n 2 dX2_hoursTogether_6 rfl rfl ?_
  refine j_cVi (As := [.int (nI b)]) (rest := [.int (nI (awk (kf a) h 60 1 (tf a)))]) (wr := []) (ws' := nb x q (kf, tf, sl, bf, n, d, h)) (tX2_hoursAwakeInBed l x q kf tf sl bf n d h (by omega) b (by omega)) kX2_hoursAwakeInBed 0 rfl rfl rfl vX2_82 dX2_hoursTogether_7 (by decide) rfl rfl (Nat.le_of_ble_eq_true rfl) (pm_0 _) (List.append_nil _) ?_
  refine j_mmin dX2_hoursTogether_10 mX2_40 (by decide) (Nat.le_of_ble_eq_true rfl) ?_
  refine j_topi (b := nI (tog kf tf h a b)) (mmin_nI (by have := awk_le (kf a) h 60 1 (tf a) (by omega); omega) (by have := awk_le (kf b) h 60 1 (tf b) (by omega); omega)) ?_
  exact j_iret _ dX2_hoursTogether_13 (List.Perm.refl _) ⟨by rfl, by rfl⟩
set_option maxHeartbeats 4000000 in
set_option maxRecDepth 100000 in
theorem lp_pairI {M : Mx} (l : Launch) (x : Cx) (q : Nat → Nat) (kf tf : Nat → Int32) (sl : Nat → Bool) (bf : Nat → Int32) (n : Nat) (d h : Int32) (hn : n ≤ 5) (a : Nat) (ha : a < n) (r1 r2 : Int32) {k0 n0 : Nat} (hk : J M l x cX2_mostWakefulPair 5 yX2_mostWakefulPair 4 (eI ((prU (kf, tf, sl, bf, n, d, h)).1) (nb x q (kf, tf, sl, bf, n, d, h))) k0 n0 78 [(0, .ref (q 0)), (1, .int r1), (2, .int r2), (3, .int (nI a))] [] (nb x q (kf, tf, sl, bf, n, d, h))) : ∀ (m : Nat) (b : Nat) (s1 s2 : Int32), (a < b ∧ b ≤ n) → itr (prS kf tf sl h a) (n - b) b (s1, s2) = (r1, r2) → n - b < m → J M l x cX2_mostWakefulPair 5 yX2_mostWakefulPair 4 (eI ((prU (kf, tf, sl, bf, n, d, h)).1) (nb x q (kf, tf, sl, bf, n, d, h))) k0 n0 19 [(0, .ref (q 0)), (1, .int s1), (2, .int s2), (3, .int (nI a)), (4, .int (nI b))] [] (nb x q (kf, tf, sl, bf, n, d, h)) := by
  intro m; induction m with
  | zero => intro b s1 s2 hc0 hc1 hm; exact absurd hm (Nat.not_lt_zero _)
  | succ m ih =>
    intro b s1 s2 hc0 hc1 hm
    refine j_iload 4 dX2_mostWakefulPair_19 rfl ?_
    refine j_aload_n 0 dX2_mostWakefulPair_21 rfl rfl ?_
    refine j_get (v := .int (nI n)) 0 dX2_mostWakefulPair_22 fX2_25 rfl rfl ?_
    refine j_icmpN_ge (a := b) (b := n) (by omega) (by omega) (tgt := 78) dX2_mostWakefulPair_25 (by decide) (fun h25 => ?_) (fun h25 => ?_)
    · skip
      refine j_lv [0, 1, 2, 3] (lv' := [(0, .ref (q 0)), (1, .int s1), (2, .int s2), (3, .int (nI a))]) rfl ?_
      rw [itr_end (n := n) (b := b) (by omega)] at hc1
      cases hc1
      exact hk
    · skip
      refine j_aload_n 0 dX2_mostWakefulPair_28 rfl rfl ?_
      refine j_iload_n 3 dX2_mostWakefulPair_29 rfl rfl ?_
      refine j_cVi (As := [.int (nI a)]) (rest := []) (wr := []) (ws' := nb x q (kf, tf, sl, bf, n, d, h)) (tX2_mayLieIn l x q kf tf sl bf n d h (by omega) a (by omega)) kX2_mayLieIn 0 rfl rfl rfl vX2_59 dX2_mostWakefulPair_30 (by decide) rfl rfl (Nat.le_of_ble_eq_true rfl) (pm_0 _) (List.append_nil _) ?_
      refine j_ifb_eq (b := may kf sl a) (tgt := 72) dX2_mostWakefulPair_33 (by decide) (fun h33 => ?_) (fun h33 => ?_)
      · skip
        refine j_iinc (v := nI (b + 1)) (lv' := [(4, .int (nI (b + 1))), (0, .ref (q 0)), (1, .int s1), (2, .int s2), (3, .int (nI a))]) 4 dX2_mostWakefulPair_72 rfl (nI_1 b) (by decide) rfl ?_
        refine j_goto (tgt := 19) dX2_mostWakefulPair_75 (by decide) ?_
        refine j_lv [1, 2, 3, 4, 0] (lv' := [(0, .ref (q 0)), (1, .int s1), (2, .int s2), (3, .int (nI a)), (4, .int (nI (b + 1)))]) rfl ?_
        refine ih (b + 1) _ _ (by omega) ?_ (by omega)
        rw [← hc1, itr_go (n := n) (b := b) (by omega)]; exact congrArg (itr (prS kf tf sl h a) (n - (b + 1)) (b + 1)) (by first | (simp [prS, h33]; done) | (simp [prS, h42]; done) | (rw [prS, if_neg (fun e => e.2.2 h53)]; done) | (rw [prS, if_pos ⟨h33, h42, h53⟩]; done))
      · skip
        refine j_aload_n 0 dX2_mostWakefulPair_36 rfl rfl ?_
        refine j_iload 4 dX2_mostWakefulPair_37 rfl ?_
        refine j_cVi (As := [.int (nI b)]) (rest := []) (wr := []) (ws' := nb x q (kf, tf, sl, bf, n, d, h)) (tX2_mayLieIn l x q kf tf sl bf n d h (by omega) b (by omega)) kX2_mayLieIn 0 rfl rfl rfl vX2_59 dX2_mostWakefulPair_39 (by decide) rfl rfl (Nat.le_of_ble_eq_true rfl) (pm_0 _) (List.append_nil _) ?_
        refine j_ifb_eq (b := may kf sl b) (tgt := 72) dX2_mostWakefulPair_42 (by decide) (fun h42 => ?_) (fun h42 => ?_)
        · skip
          refine j_iinc (v := nI (b + 1)) (lv' := [(4, .int (nI (b + 1))), (0, .ref (q 0)), (1, .int s1), (2, .int s2), (3, .int (nI a))]) 4 dX2_mostWakefulPair_72 rfl (nI_1 b) (by decide) rfl ?_
          refine j_goto (tgt := 19) dX2_mostWakefulPair_75 (by decide) ?_
          refine j_lv [1, 2, 3, 4, 0] (lv' := [(0, .ref (q 0)), (1, .int s1), (2, .int s2), (3, .int (nI a)), (4, .int (nI (b + 1)))]) rfl ?_
          refine ih (b + 1) _ _ (by omega) ?_ (by omega)
          rw [← hc1, itr_go (n := n) (b := b) (by omega)]; exact congrArg (itr (prS kf tf sl h a) (n - (b + 1)) (b + 1)) (by first | (simp [prS, h33]; done) | (simp [prS, h42]; done) | (rw [prS, if_neg (fun e => e.2.2 h53)]; done) | (rw [prS, if_pos ⟨h33, h42, h53⟩]; done))
        · skip
          refine j_aload_n 0 dX2_mostWakefulPair_45 rfl rfl ?_
          refine j_iload_n 3 dX2_mostWakefulPair_46 rfl rfl ?_
          refine j_iload 4 dX2_mostWakefulPair_47 rfl ?_
          refine j_cVi (As := [.int (nI a), .int (nI b)]) (rest := []) (wr := []) (ws' := nb x q (kf, tf, sl, bf, n, d, h)) (tX2_hoursTogether l x q kf tf sl bf n d h (by omega) a b (by omega) (by omega)) kX2_hoursTogether 0 rfl rfl rfl vX2_79 dX2_mostWakefulPair_49 (by decide) rfl rfl (Nat.le_of_ble_eq_true rfl) (pm_0 _) (List.append_nil _) ?_
          refine j_iload_n 2 dX2_mostWakefulPair_52 rfl rfl ?_
          refine j_icmp_le (tgt := 72) dX2_mostWakefulPair_53 (by decide) (fun h53 => ?_) (fun h53 => ?_)
          · skip
            refine j_iinc (v := nI (b + 1)) (lv' := [(4, .int (nI (b + 1))), (0, .ref (q 0)), (1, .int s1), (2, .int s2), (3, .int (nI a))]) 4 dX2_mostWakefulPair_72 rfl (nI_1 b) (by decide) rfl ?_
            refine j_goto (tgt := 19) dX2_mostWakefulPair_75 (by decide) ?_
            refine j_lv [1, 2, 3, 4, 0] (lv' := [(0, .ref (q 0)), (1, .int s1), (2, .int s2), (3, .int (nI a)), (4, .int (nI (b + 1)))]) rfl ?_
            refine ih (b + 1) _ _ (by omega) ?_ (by omega)
            rw [← hc1, itr_go (n := n) (b := b) (by omega)]; exact congrArg (itr (prS kf tf sl h a) (n - (b + 1)) (b + 1)) (by first | (simp [prS, h33]; done) | (simp [prS, h42]; done) | (rw [prS, if_neg (fun e => e.2.2 h53)]; done) | (rw [prS, if_pos ⟨h33, h42, h53⟩]; done))
          · skip
            refine j_bipush (v := 10) dX2_mostWakefulPair_56 (by decide) ?_
            refine j_iload_n 3 dX2_mostWakefulPair_58 rfl rfl ?_
            refine j_imul dX2_mostWakefulPair_59 ?_
            refine j_topi (b := nI (10 * a)) (pk_mul 10 a) ?_
            refine j_iload 4 dX2_mostWakefulPair_60 rfl ?_
            refine j_iadd dX2_mostWakefulPair_62 ?_
            refine j_topi (b := nI (10 * a + b)) (nI_add _ _) ?_
            refine j_istore_n (lv' := [(1, .int (nI (10 * a + b))), (0, .ref (q 0)), (2, .int s2), (3, .int (nI a)), (4, .int (nI b))]) dX2_mostWakefulPair_63 rfl (by decide) rfl ?_
            refine j_aload_n 1 dX2_mostWakefulPair_64 rfl rfl ?_
            refine j_iload_n 3 dX2_mostWakefulPair_65 rfl rfl ?_
            refine j_iload 4 dX2_mostWakefulPair_66 rfl ?_
            refine j_cVi (As := [.int (nI a), .int (nI b)]) (rest := []) (wr := []) (ws' := nb x q (kf, tf, sl, bf, n, d, h)) (tX2_hoursTogether l x q kf tf sl bf n d h (by omega) a b (by omega) (by omega)) kX2_hoursTogether 0 rfl rfl rfl vX2_79 dX2_mostWakefulPair_68 (by decide) rfl rfl (Nat.le_of_ble_eq_true rfl) (pm_0 _) (List.append_nil _) ?_
            refine j_istore_n (lv' := [(2, .int (nI (tog kf tf h a b))), (1, .int (nI (10 * a + b))), (0, .ref (q 0)), (3, .int (nI a)), (4, .int (nI b))]) dX2_mostWakefulPair_71 rfl (by decide) rfl ?_
            refine j_iinc (v := nI (b + 1)) (lv' := [(4, .int (nI (b + 1))), (2, .int (nI (tog kf tf h a b))), (1, .int (nI (10 * a + b))), (0, .ref (q 0)), (3, .int (nI a))]) 4 dX2_mostWakefulPair_72 rfl (nI_1 b) (by decide) rfl ?_
            refine j_goto (tgt := 19) dX2_mostWakefulPair_75 (by decide) ?_
            refine j_lv [3, 2, 1, 4, 0] (lv' := [(0, .ref (q 0)), (1, .int (nI (10 * a + b))), (2, .int (nI (tog kf tf h a b))), (3, .int (nI a)), (4, .int (nI (b + 1)))]) rfl ?_
            refine ih (b + 1) _ _ (by omega) ?_ (by omega)
            rw [← hc1, itr_go (n := n) (b := b) (by omega)]; exact congrArg (itr (prS kf tf sl h a) (n - (b + 1)) (b + 1)) (by first | (simp [prS, h33]; done) | (simp [prS, h42]; done) | (rw [prS, if_neg (fun e => e.2.2 h53)]; done) | (rw [prS, if_pos ⟨h33, h42, h53⟩]; done))
set_option maxHeartbeats 4000000 in
set_option maxRecDepth 100000 in
theorem lp_pairO {M : Mx} (l : Launch) (x : Cx) (q : Nat → Nat) (kf tf : Nat → Int32) (sl : Nat → Bool) (bf : Nat → Int32) (n : Nat) (d h : Int32) (hn : n ≤ 5) {k0 n0 : Nat}  : ∀ (m : Nat) (a : Nat) (s1 s2 : Int32), a ≤ n → (itr (prO kf tf sl n h) (n - a) a (s1, s2)).1 = (prU (kf, tf, sl, bf, n, d, h)).1 → n - a < m → J M l x cX2_mostWakefulPair 5 yX2_mostWakefulPair 4 (eI ((prU (kf, tf, sl, bf, n, d, h)).1) (nb x q (kf, tf, sl, bf, n, d, h))) k0 n0 6 [(0, .ref (q 0)), (1, .int s1), (2, .int s2), (3, .int (nI a))] [] (nb x q (kf, tf, sl, bf, n, d, h)) := by
  intro m; induction m with
  | zero => intro a s1 s2 hc0 hc1 hm; exact absurd hm (Nat.not_lt_zero _)
  | succ m ih =>
    intro a s1 s2 hc0 hc1 hm
    refine j_iload_n 3 dX2_mostWakefulPair_6 rfl rfl ?_
    refine j_aload_n 0 dX2_mostWakefulPair_7 rfl rfl ?_
    refine j_get (v := .int (nI n)) 0 dX2_mostWakefulPair_8 fX2_25 rfl rfl ?_
    refine j_icmpN_ge (a := a) (b := n) (by omega) (by omega) (tgt := 84) dX2_mostWakefulPair_11 (by decide) (fun h11 => ?_) (fun h11 => ?_)
    · skip
      refine j_iload_n 1 dX2_mostWakefulPair_84 rfl rfl ?_
      exact j_iret _ dX2_mostWakefulPair_85 (List.Perm.refl _) ⟨by rw [← hc1, itr_end (n := n) (b := a) (by omega)], rfl⟩
    · skip
      refine j_iload_n 3 dX2_mostWakefulPair_14 rfl rfl ?_
      refine j_iconst (v := 1) dX2_mostWakefulPair_15 (by decide) ?_
      refine j_iadd dX2_mostWakefulPair_16 ?_
      refine j_topi (b := nI (a + 1)) (nI_1 a) ?_
      refine j_istore (lv' := [(4, .int (nI (a + 1))), (0, .ref (q 0)), (1, .int s1), (2, .int s2), (3, .int (nI a))]) dX2_mostWakefulPair_17 (by decide) rfl ?_
      refine j_lv [1, 2, 3, 4, 0] (lv' := [(0, .ref (q 0)), (1, .int s1), (2, .int s2), (3, .int (nI a)), (4, .int (nI (a + 1)))]) rfl ?_
      refine lp_pairI l x q kf tf sl bf n d h hn a (by omega) (prO kf tf sl n h a (s1, s2)).1 (prO kf tf sl n h a (s1, s2)).2 ?_ (n + 1) (a + 1) s1 s2 ⟨by omega, by omega⟩ rfl (by omega)
      refine j_iinc (v := nI (a + 1)) (lv' := [(3, .int (nI (a + 1))), (0, .ref (q 0)), (1, .int ((prO kf tf sl n h a (s1, s2)).1)), (2, .int ((prO kf tf sl n h a (s1, s2)).2))]) 3 dX2_mostWakefulPair_78 rfl (nI_1 a) (by decide) rfl ?_
      refine j_goto (tgt := 6) dX2_mostWakefulPair_81 (by decide) ?_
      refine j_lv [1, 2, 3, 0] (lv' := [(0, .ref (q 0)), (1, .int ((prO kf tf sl n h a (s1, s2)).1)), (2, .int ((prO kf tf sl n h a (s1, s2)).2)), (3, .int (nI (a + 1)))]) rfl ?_
      exact ih (a + 1) _ _ (by omega) (by rw [← hc1, itr_go (n := n) (b := a) (by omega)]) (by omega)
set_option maxHeartbeats 4000000 in
set_option maxRecDepth 100000 in
theorem tX2_mostWakefulPair (l : Launch) (x : Cx) (q : Nat → Nat) (kf tf : Nat → Int32) (sl : Nat → Bool) (bf : Nat → Int32) (n : Nat) (d h : Int32) (hn : n ≤ 5) : MC l x 4 0 0 yX2_mostWakefulPair cX2_mostWakefulPair 5 (some .int) [.ref (q 0)] (nb x q (kf, tf, sl, bf, n, d, h)) (eI ((prU (kf, tf, sl, bf, n, d, h)).1) (nb x q (kf, tf, sl, bf, n, d, h))) := by
  refine MC.of (by decide) (Nat.le_of_ble_eq_true rfl) eI_fit (fun M => ?_)
  show J M l x cX2_mostWakefulPair 5 yX2_mostWakefulPair 4 (eI ((prU (kf, tf, sl, bf, n, d, h)).1) (nb x q (kf, tf, sl, bf, n, d, h))) 0 0 0 [(0, .ref (q 0))] [] (nb x q (kf, tf, sl, bf, n, d, h))
  refine j_iconst (v := (-1)) dX2_mostWakefulPair_0 (by decide) ?_
  refine j_istore_n (lv' := [(1, .int (-1)), (0, .ref (q 0))]) dX2_mostWakefulPair_1 rfl (by decide) rfl ?_
  refine j_iconst (v := (-1)) dX2_mostWakefulPair_2 (by decide) ?_
  refine j_istore_n (lv' := [(2, .int (-1)), (1, .int (-1)), (0, .ref (q 0))]) dX2_mostWakefulPair_3 rfl (by decide) rfl ?_
  refine j_iconst (v := nI 0) dX2_mostWakefulPair_4 (by decide) ?_
  refine j_istore_n (lv' := [(3, .int (nI 0)), (2, .int (-1)), (1, .int (-1)), (0, .ref (q 0))]) dX2_mostWakefulPair_5 rfl (by decide) rfl ?_
  refine j_lv [3, 2, 1, 0] (lv' := [(0, .ref (q 0)), (1, .int (-1)), (2, .int (-1)), (3, .int (nI 0))]) rfl ?_
  exact lp_pairO l x q kf tf sl bf n d h hn (n + 1) 0 (-1) (-1) (by omega) rfl (by omega)
end
section
/-! the page and what is seen -/
def cAt (cs : Nat → Int32) (n : Nat) (p : Int32) : Int32 := if 0 ≤ p ∧ p < nI n then cs p.toNatClampNeg else 0
theorem cAt_in {cs : Nat → Int32} {n i : Nat} (h : i < n) (hn : n < 2 ^ 31) : cAt cs n (nI i) = cs i := by
  rw [cAt, if_pos ⟨nI_pos' (by omega), nI_lt h hn⟩, nI_clamp (by omega)]
def fitB (cs : Nat → Int32) (n i : Nat) : Bool :=
  if cAt cs n (nI i - 1) = 59 then isW (cs i) 49 52
  else if cAt cs n (nI i - 2) = 59 then false
  else if i % 3 = 0 then decide (¬ kbl (cs i) = -1)
  else if i % 3 = 1 then isW (cs i) 48 57
  else (decide (cs i = 44) && decide (i < 14)) || (decide (cs i = 59) && decide (5 ≤ i))
def ffr (cs : Nat → Int32) (n : Nat) : Nat → Nat → Nat
  | 0, _ => n
  | f + 1, i => if fitB cs n i = true then ffr cs n f (i + 1) else i
theorem ffr_le (cs : Nat → Int32) (n : Nat) : ∀ f i, i + f ≤ n → ffr cs n f i ≤ n
  | 0, _, _ => Nat.le_refl _
  | f + 1, i, h => by
    unfold ffr
    split
    · exact ffr_le cs n f (i + 1) (by omega)
    · omega
def isHB (cs : Nat → Int32) (n : Nat) : Bool := decide (cAt cs n (nI n - 2) = 59) && decide (ffr cs n n 0 = n)
def alr (hs wh : Nat → Int32) (b w : Int32) : Nat → Nat → Bool
  | 0, _ => true
  | f + 1, i => if hs i = b ∧ ¬ wh i = w then false else alr hs wh b w f (i + 1)
/-- a house as it begins -/
def bgn (g : PG) (u : NS) : NS := match g, u with
  | (cs, n), (kf, tf, sl, bf, _, _, _) => (mix (min (n / 3) 5) (fun j => kbl (cAt cs n (nI j * 3))) kf, mix (min (n / 3) 5) (fun j => cAt cs n (nI j * 3 + 1) - 48) tf, mix (min (n / 3) 5) (fun _ => false) sl, mix (min (n / 3) 5) (fun _ => 0) bf, min (n / 3) 5, cAt cs n (nI n - 1) - 48, 0)
theorem fl_app (a b : List va_W) : fl a ++ fl b = fl (a ++ b) := by simp [fl]
theorem pk_rem3 (i : Nat) (h : i < 2 ^ 31) : nI i - nI i / 3 * 3 = nI (i % 3) := pk_rem (d := 3) h (by decide) (by decide)
theorem pk_div3 (i : Nat) (h : i < 2 ^ 31) : nI i / 3 = nI (i / 3) := pk_div (d := 3) h (by decide) (by decide)
theorem nI_ne {i c : Nat} (hi : i < 2 ^ 31) (hc : c < 2 ^ 31) (h : ¬ nI i = nI c) : ¬ i = c := fun e => h (by rw [e])
end
section
set_option maxHeartbeats 4000000 in
set_option maxRecDepth 100000 in
theorem tX3_length (l : Launch) (x : Cx) (q : Nat → Nat) (cs : Nat → Int32) (n : Nat) (hn : n ≤ 18) : MC l x 0 0 0 yX3_length cX3_length 1 (some .int) [.ref (q 0)] (pb x q (cs, n)) (eI (nI n) (pb x q (cs, n))) := by
  refine MC.of (by decide) (Nat.le_of_ble_eq_true rfl) eI_fit (fun M => ?_)
  show J M l x cX3_length 1 yX3_length 0 (eI (nI n) (pb x q (cs, n))) 0 0 0 [(0, .ref (q 0))] [] (pb x q (cs, n))
  refine j_aload_n 0 dX3_length_0 rfl rfl ?_
  refine j_get (v := .int (nI n)) 0 dX3_length_1 fX3_15 rfl rfl ?_
  exact j_iret _ dX3_length_4 (List.Perm.refl _) ⟨by rfl, by rfl⟩
set_option maxHeartbeats 4000000 in
set_option maxRecDepth 100000 in
theorem tX3_codeAt (l : Launch) (x : Cx) (q : Nat → Nat) (cs : Nat → Int32) (n : Nat) (hn : n ≤ 18) (p : Int32) : MC l x 0 0 0 yX3_codeAt cX3_codeAt 2 (some .int) [.ref (q 0), .int p] (pb x q (cs, n)) (eI (cAt cs n p) (pb x q (cs, n))) := by
  refine MC.of (by decide) (Nat.le_of_ble_eq_true rfl) eI_fit (fun M => ?_)
  show J M l x cX3_codeAt 2 yX3_codeAt 0 (eI (cAt cs n p) (pb x q (cs, n))) 0 0 0 [(0, .ref (q 0)), (1, .int p)] [] (pb x q (cs, n))
  refine j_iload_n 1 dX3_codeAt_0 rfl rfl ?_
  refine j_if_lt (tgt := 21) dX3_codeAt_1 (by decide) (fun h1 => ?_) (fun h1 => ?_)
  · skip
    refine j_iconst (v := 0) dX3_codeAt_21 (by decide) ?_
    exact j_iret _ dX3_codeAt_22 (List.Perm.refl _) ⟨by first | (rw [cAt_in hj (by omega)]; done) | (simp [cAt, nlt_of_le h9]; done) | (simp [cAt, nle_of_lt h1]; done), by rfl⟩
  · skip
    refine j_iload_n 1 dX3_codeAt_4 rfl rfl ?_
    refine j_aload_n 0 dX3_codeAt_5 rfl rfl ?_
    refine j_get (v := .int (nI n)) 0 dX3_codeAt_6 fX3_15 rfl rfl ?_
    refine j_icmp_ge (tgt := 21) dX3_codeAt_9 (by decide) (fun h9 => ?_) (fun h9 => ?_)
    · skip
      refine j_iconst (v := 0) dX3_codeAt_21 (by decide) ?_
      exact j_iret _ dX3_codeAt_22 (List.Perm.refl _) ⟨by first | (rw [cAt_in hj (by omega)]; done) | (simp [cAt, nlt_of_le h9]; done) | (simp [cAt, nle_of_lt h1]; done), by rfl⟩
    · skip
      obtain ⟨j, hj, rfl⟩ := kn_f (n := n) (by omega) (l := p) (by simp [kn, le_of_nlt h1, lt_of_nle h9])
      refine j_aload_n 0 dX3_codeAt_12 rfl rfl ?_
      refine j_get (v := .ref (q 1)) 0 dX3_codeAt_13 fX3_11 rfl rfl ?_
      refine j_iload_n 1 dX3_codeAt_16 rfl rfl ?_
      refine j_ialdN (i := j) (f := cs) 1 dX3_codeAt_17 rfl (by omega) (by decide) ?_
      refine j_goto (tgt := 22) dX3_codeAt_18 (by decide) ?_
      exact j_iret _ dX3_codeAt_22 (List.Perm.refl _) ⟨by first | (rw [cAt_in hj (by omega)]; done) | (simp [cAt, nlt_of_le h9]; done) | (simp [cAt, nle_of_lt h1]; done), by rfl⟩
set_option maxHeartbeats 4000000 in
set_option maxRecDepth 100000 in
theorem tX3_digitAt (l : Launch) (x : Cx) (q : Nat → Nat) (cs : Nat → Int32) (n : Nat) (hn : n ≤ 18) (p : Int32) : MC l x 1 0 0 yX3_digitAt cX3_digitAt 2 (some .int) [.ref (q 0), .int p] (pb x q (cs, n)) (eI (cAt cs n p - 48) (pb x q (cs, n))) := by
  refine MC.of (by decide) (Nat.le_of_ble_eq_true rfl) eI_fit (fun M => ?_)
  show J M l x cX3_digitAt 2 yX3_digitAt 1 (eI (cAt cs n p - 48) (pb x q (cs, n))) 0 0 0 [(0, .ref (q 0)), (1, .int p)] [] (pb x q (cs, n))
  refine j_aload_n 0 dX3_digitAt_0 rfl rfl ?_
  refine j_iload_n 1 dX3_digitAt_1 rfl rfl ?_
  refine j_cVi (As := [.int p]) (rest := []) (wr := []) (ws' := pb x q (cs, n)) (tX3_codeAt l x q cs n (by omega) p) kX3_codeAt 0 rfl rfl rfl vX3_19 dX3_digitAt_2 (by decide) rfl rfl (Nat.le_of_ble_eq_true rfl) (pm_0 _) (List.append_nil _) ?_
  refine j_bipush (v := 48) dX3_digitAt_5 (by decide) ?_
  refine j_isub dX3_digitAt_7 ?_
  exact j_iret _ dX3_digitAt_8 (List.Perm.refl _) ⟨by rfl, by rfl⟩
set_option maxHeartbeats 4000000 in
set_option maxRecDepth 100000 in
theorem tX3_put (l : Launch) (x : Cx) (q : Nat → Nat) (cs : Nat → Int32) (n : Nat) (hn : n < 18) (c : Int32) : MC l x 0 0 0 yX3_put cX3_put 2 (some .int) [.ref (q 0), .int c] (pb x q (cs, n)) (eI (nI (n + 1)) (pb x q (upd cs n c, n + 1))) := by
  refine MC.of (by decide) (Nat.le_of_ble_eq_true rfl) eI_fit (fun M => ?_)
  show J M l x cX3_put 2 yX3_put 0 (eI (nI (n + 1)) (pb x q (upd cs n c, n + 1))) 0 0 0 [(0, .ref (q 0)), (1, .int c)] [] (pb x q (cs, n))
  refine j_aload_n 0 dX3_put_0 rfl rfl ?_
  refine j_get (v := .int (nI n)) 0 dX3_put_1 fX3_15 rfl rfl ?_
  refine j_aload_n 0 dX3_put_4 rfl rfl ?_
  refine j_get (v := .ref (q 1)) 0 dX3_put_5 fX3_11 rfl rfl ?_
  refine j_alen (v := nI 18) 1 0 dX3_put_8 rfl rfl rfl ?_
  refine j_icmpN_ge (a := n) (b := 18) (by omega) (by omega) (tgt := 32) dX3_put_9 (by decide) (fun h9 => by omega) (fun h9 => ?_)
  refine j_aload_n 0 dX3_put_12 rfl rfl ?_
  refine j_get (v := .ref (q 1)) 0 dX3_put_13 fX3_11 rfl rfl ?_
  refine j_aload_n 0 dX3_put_16 rfl rfl ?_
  refine j_get (v := .int (nI n)) 0 dX3_put_17 fX3_15 rfl rfl ?_
  refine j_iload_n 1 dX3_put_20 rfl rfl ?_
  refine j_iastN (i := n) (f := cs) (ws' := pb x q (upd cs n c, n)) 1 dX3_put_21 rfl (by omega) (by decide) rfl ?_
  refine j_aload_n 0 dX3_put_22 rfl rfl ?_
  refine j_dup dX3_put_23 rfl ?_
  refine j_get (v := .int (nI n)) 0 dX3_put_24 fX3_15 rfl rfl ?_
  refine j_iconst (v := 1) dX3_put_27 (by decide) ?_
  refine j_iadd dX3_put_28 ?_
  refine j_topi (b := nI (n + 1)) (nI_1 n) ?_
  refine j_put (v := .int (nI (n + 1))) (ws' := pb x q (upd cs n c, n + 1)) 0 dX3_put_29 fX3_15 rfl rfl rfl (Nat.le_of_ble_eq_true rfl) rfl ?_
  refine j_aload_n 0 dX3_put_32 rfl rfl ?_
  refine j_get (v := .int (nI (n + 1))) 0 dX3_put_33 fX3_15 rfl rfl ?_
  exact j_iret _ dX3_put_36 (List.Perm.refl _) ⟨by rfl, by rfl⟩
set_option maxHeartbeats 4000000 in
set_option maxRecDepth 100000 in
theorem tX3_empty (l : Launch) (x : Cx) (q : Nat → Nat) (cs : Nat → Int32) (n : Nat) (hn : n ≤ 18) : MC l x 0 0 0 yX3_empty cX3_empty 2 (some .int) [.ref (q 0)] (pb x q (cs, n)) (eI (nI n) (pb x q (cs, 0))) := by
  refine MC.of (by decide) (Nat.le_of_ble_eq_true rfl) eI_fit (fun M => ?_)
  show J M l x cX3_empty 2 yX3_empty 0 (eI (nI n) (pb x q (cs, 0))) 0 0 0 [(0, .ref (q 0))] [] (pb x q (cs, n))
  refine j_aload_n 0 dX3_empty_0 rfl rfl ?_
  refine j_get (v := .int (nI n)) 0 dX3_empty_1 fX3_15 rfl rfl ?_
  refine j_istore_n (lv' := [(1, .int (nI n)), (0, .ref (q 0))]) dX3_empty_4 rfl (by decide) rfl ?_
  refine j_aload_n 1 dX3_empty_5 rfl rfl ?_
  refine j_iconst (v := nI 0) dX3_empty_6 (by decide) ?_
  refine j_put (v := .int (nI 0)) (ws' := pb x q (cs, 0)) 0 dX3_empty_7 fX3_15 rfl rfl rfl (Nat.le_of_ble_eq_true rfl) rfl ?_
  refine j_iload_n 0 dX3_empty_10 rfl rfl ?_
  exact j_iret _ dX3_empty_11 (List.Perm.refl _) ⟨by rfl, by rfl⟩
set_option maxHeartbeats 4000000 in
set_option maxRecDepth 100000 in
theorem tX3_lodgers (l : Launch) (x : Cx) (q : Nat → Nat) (cs : Nat → Int32) (n : Nat) (hn : n ≤ 18) : MC l x 0 0 0 yX3_lodgers cX3_lodgers 1 (some .int) [.ref (q 0)] (pb x q (cs, n)) (eI (nI (n / 3)) (pb x q (cs, n))) := by
  refine MC.of (by decide) (Nat.le_of_ble_eq_true rfl) eI_fit (fun M => ?_)
  show J M l x cX3_lodgers 1 yX3_lodgers 0 (eI (nI (n / 3)) (pb x q (cs, n))) 0 0 0 [(0, .ref (q 0))] [] (pb x q (cs, n))
  refine j_aload_n 0 dX3_lodgers_0 rfl rfl ?_
  refine j_get (v := .int (nI n)) 0 dX3_lodgers_1 fX3_15 rfl rfl ?_
  refine j_iconst (v := 3) dX3_lodgers_4 (by decide) ?_
  refine j_idiv dX3_lodgers_5 (by decide) ?_
  refine j_topi (b := nI (n / 3)) (pk_div3 n (by omega)) ?_
  exact j_iret _ dX3_lodgers_6 (List.Perm.refl _) ⟨by rfl, by rfl⟩
set_option maxHeartbeats 4000000 in
set_option maxRecDepth 100000 in
theorem tX3_kindOf (l : Launch) (x : Cx) (q : Nat → Nat) (cs : Nat → Int32) (n : Nat) (hn : n ≤ 18) (j : Nat) : MC l x 1 0 0 yX3_kindOf cX3_kindOf 2 (some .int) [.ref (q 0), .int (nI j)] (pb x q (cs, n)) (eI (kbl (cAt cs n (nI j * 3))) (pb x q (cs, n))) := by
  refine MC.of (by decide) (Nat.le_of_ble_eq_true rfl) eI_fit (fun M => ?_)
  show J M l x cX3_kindOf 2 yX3_kindOf 1 (eI (kbl (cAt cs n (nI j * 3))) (pb x q (cs, n))) 0 0 0 [(0, .ref (q 0)), (1, .int (nI j))] [] (pb x q (cs, n))
  refine j_aload_n 0 dX3_kindOf_0 rfl rfl ?_
  refine j_iload_n 1 dX3_kindOf_1 rfl rfl ?_
  refine j_iconst (v := 3) dX3_kindOf_2 (by decide) ?_
  refine j_imul dX3_kindOf_3 ?_
  refine j_cVi (As := [.int ((nI j) * 3)]) (rest := []) (wr := []) (ws' := pb x q (cs, n)) (tX3_codeAt l x q cs n (by omega) ((nI j) * 3)) kX3_codeAt 0 rfl rfl rfl vX3_19 dX3_kindOf_4 (by decide) rfl rfl (Nat.le_of_ble_eq_true rfl) (pm_0 _) (List.append_nil _) ?_
  refine j_cNi (As := [.int (cAt cs n ((nI j) * 3))]) (rest := []) (wr := pb x q (cs, n)) (ws' := pb x q (cs, n)) (tX5_kindByLetter l x (cAt cs n ((nI j) * 3))) kX5_kindByLetter nX3_31 dX3_kindOf_7 (by decide) rfl rfl (Nat.le_of_ble_eq_true rfl) (List.Perm.refl _) rfl ?_
  exact j_iret _ dX3_kindOf_10 (List.Perm.refl _) ⟨by rfl, by rfl⟩
set_option maxHeartbeats 4000000 in
set_option maxRecDepth 100000 in
theorem tX3_tiredOf (l : Launch) (x : Cx) (q : Nat → Nat) (cs : Nat → Int32) (n : Nat) (hn : n ≤ 18) (j : Nat) : MC l x 2 0 0 yX3_tiredOf cX3_tiredOf 2 (some .int) [.ref (q 0), .int (nI j)] (pb x q (cs, n)) (eI (cAt cs n (nI j * 3 + 1) - 48) (pb x q (cs, n))) := by
  refine MC.of (by decide) (Nat.le_of_ble_eq_true rfl) eI_fit (fun M => ?_)
  show J M l x cX3_tiredOf 2 yX3_tiredOf 2 (eI (cAt cs n (nI j * 3 + 1) - 48) (pb x q (cs, n))) 0 0 0 [(0, .ref (q 0)), (1, .int (nI j))] [] (pb x q (cs, n))
  refine j_aload_n 0 dX3_tiredOf_0 rfl rfl ?_
  refine j_iload_n 1 dX3_tiredOf_1 rfl rfl ?_
  refine j_iconst (v := 3) dX3_tiredOf_2 (by decide) ?_
  refine j_imul dX3_tiredOf_3 ?_
  refine j_iconst (v := 1) dX3_tiredOf_4 (by decide) ?_
  refine j_iadd dX3_tiredOf_5 ?_
  refine j_cVi (As := [.int (((nI j) * 3) + 1)]) (rest := []) (wr := []) (ws' := pb x q (cs, n)) (tX3_digitAt l x q cs n (by omega) (((nI j) * 3) + 1)) kX3_digitAt 0 rfl rfl rfl vX3_34 dX3_tiredOf_6 (by decide) rfl rfl (Nat.le_of_ble_eq_true rfl) (pm_0 _) (List.append_nil _) ?_
  exact j_iret _ dX3_tiredOf_9 (List.Perm.refl _) ⟨by rfl, by rfl⟩
set_option maxHeartbeats 4000000 in
set_option maxRecDepth 100000 in
theorem tX3_drowse (l : Launch) (x : Cx) (q : Nat → Nat) (cs : Nat → Int32) (n : Nat) (hn : n ≤ 18) : MC l x 2 0 0 yX3_drowse cX3_drowse 1 (some .int) [.ref (q 0)] (pb x q (cs, n)) (eI (cAt cs n (nI n - 1) - 48) (pb x q (cs, n))) := by
  refine MC.of (by decide) (Nat.le_of_ble_eq_true rfl) eI_fit (fun M => ?_)
  show J M l x cX3_drowse 1 yX3_drowse 2 (eI (cAt cs n (nI n - 1) - 48) (pb x q (cs, n))) 0 0 0 [(0, .ref (q 0))] [] (pb x q (cs, n))
  refine j_aload_n 0 dX3_drowse_0 rfl rfl ?_
  refine j_aload_n 0 dX3_drowse_1 rfl rfl ?_
  refine j_get (v := .int (nI n)) 0 dX3_drowse_2 fX3_15 rfl rfl ?_
  refine j_iconst (v := 1) dX3_drowse_5 (by decide) ?_
  refine j_isub dX3_drowse_6 ?_
  refine j_cVi (As := [.int ((nI n) - 1)]) (rest := []) (wr := []) (ws' := pb x q (cs, n)) (tX3_digitAt l x q cs n (by omega) ((nI n) - 1)) kX3_digitAt 0 rfl rfl rfl vX3_34 dX3_drowse_7 (by decide) rfl rfl (Nat.le_of_ble_eq_true rfl) (pm_0 _) (List.append_nil _) ?_
  exact j_iret _ dX3_drowse_10 (List.Perm.refl _) ⟨by rfl, by rfl⟩
set_option maxHeartbeats 4000000 in
set_option maxRecDepth 100000 in
theorem tX3_fits (l : Launch) (x : Cx) (q : Nat → Nat) (cs : Nat → Int32) (n : Nat) (hn : n ≤ 18) (i : Nat) (hi : i < n) : MC l x 1 0 0 yX3_fits cX3_fits 3 (some .boolean) [.ref (q 0), .int (nI i)] (pb x q (cs, n)) (eI (bI (fitB cs n i)) (pb x q (cs, n))) := by
  refine MC.of (by decide) (Nat.le_of_ble_eq_true rfl) eB_fit (fun M => ?_)
  show J M l x cX3_fits 3 yX3_fits 1 (eI (bI (fitB cs n i)) (pb x q (cs, n))) 0 0 0 [(0, .ref (q 0)), (1, .int (nI i))] [] (pb x q (cs, n))
  refine j_aload_n 0 dX3_fits_0 rfl rfl ?_
  refine j_iload_n 1 dX3_fits_1 rfl rfl ?_
  refine j_cVi (As := [.int (nI i)]) (rest := []) (wr := []) (ws' := pb x q (cs, n)) (tX3_codeAt l x q cs n (by omega) (nI i)) kX3_codeAt 0 rfl rfl rfl vX3_19 dX3_fits_2 (by decide) rfl rfl (Nat.le_of_ble_eq_true rfl) (pm_0 _) (List.append_nil _) ?_
  refine j_topi (b := cs i) (cAt_in hi (by omega)) ?_
  refine j_istore_n (lv' := [(2, .int (cs i)), (0, .ref (q 0)), (1, .int (nI i))]) dX3_fits_5 rfl (by decide) rfl ?_
  refine j_aload_n 1 dX3_fits_6 rfl rfl ?_
  refine j_iload_n 2 dX3_fits_7 rfl rfl ?_
  refine j_iconst (v := 1) dX3_fits_8 (by decide) ?_
  refine j_isub dX3_fits_9 ?_
  refine j_cVi (As := [.int ((nI i) - 1)]) (rest := []) (wr := []) (ws' := pb x q (cs, n)) (tX3_codeAt l x q cs n (by omega) ((nI i) - 1)) kX3_codeAt 0 rfl rfl rfl vX3_19 dX3_fits_10 (by decide) rfl rfl (Nat.le_of_ble_eq_true rfl) (pm_0 _) (List.append_nil _) ?_
  refine j_bipush (v := 59) dX3_fits_13 (by decide) ?_
  refine j_icmp_ne (tgt := 27) dX3_fits_15 (by decide) (fun h15 => ?_) (fun h15 => ?_)
  · skip
    refine j_aload_n 1 dX3_fits_27 rfl rfl ?_
    refine j_iload_n 2 dX3_fits_28 rfl rfl ?_
    refine j_iconst (v := 2) dX3_fits_29 (by decide) ?_
    refine j_isub dX3_fits_30 ?_
    refine j_cVi (As := [.int ((nI i) - 2)]) (rest := []) (wr := []) (ws' := pb x q (cs, n)) (tX3_codeAt l x q cs n (by omega) ((nI i) - 2)) kX3_codeAt 0 rfl rfl rfl vX3_19 dX3_fits_31 (by decide) rfl rfl (Nat.le_of_ble_eq_true rfl) (pm_0 _) (List.append_nil _) ?_
    refine j_bipush (v := 59) dX3_fits_34 (by decide) ?_
    refine j_icmp_ne (tgt := 41) dX3_fits_36 (by decide) (fun h36 => ?_) (fun h36 => ?_)
    · skip
      refine j_iload_n 2 dX3_fits_41 rfl rfl ?_
      refine j_iconst (v := 3) dX3_fits_42 (by decide) ?_
      refine j_irem dX3_fits_43 (by decide) ?_
      refine j_topi (b := nI (i % 3)) (pk_rem3 i (by omega)) ?_
      by_cases m0 : i % 3 = 0
      · refine j_lookC 0 (by rw [m0]; rfl) dX3_fits_44 (by decide) (by decide) (by decide : (44 : Int) + 28 = ((72 : Nat) : Int)) ?_
        refine j_iload_n 0 dX3_fits_72 rfl rfl ?_
        refine j_cNi (As := [.int (cs i)]) (rest := []) (wr := pb x q (cs, n)) (ws' := pb x q (cs, n)) (tX5_kindByLetter l x (cs i)) kX5_kindByLetter nX3_31 dX3_fits_73 (by decide) rfl rfl (Nat.le_of_ble_eq_true rfl) (List.Perm.refl _) rfl ?_
        refine j_iconst (v := (-1)) dX3_fits_76 (by decide) ?_
        refine j_icmp_eq (tgt := 84) dX3_fits_77 (by decide) (fun h77 => ?_) (fun h77 => ?_)
        · skip
          refine j_iconst (v := bI false) dX3_fits_84 (by decide) ?_
          exact j_iret _ dX3_fits_85 (List.Perm.refl _) ⟨congrArg (fun b => some (Value.int (bI b))) (by rw [fitB, if_neg h15, if_neg h36, if_pos m0]; first | (rw [h77]; done) | (simp [h77]; done)), rfl⟩
        · skip
          refine j_iconst (v := bI true) dX3_fits_80 (by decide) ?_
          refine j_goto (tgt := 85) dX3_fits_81 (by decide) ?_
          exact j_iret _ dX3_fits_85 (List.Perm.refl _) ⟨congrArg (fun b => some (Value.int (bI b))) (by rw [fitB, if_neg h15, if_neg h36, if_pos m0]; first | (rw [h77]; done) | (simp [h77]; done)), rfl⟩
      by_cases m1 : i % 3 = 1
      · refine j_lookC 1 (by rw [m1]; rfl) dX3_fits_44 (by decide) (by decide) (by decide : (44 : Int) + 42 = ((86 : Nat) : Int)) ?_
        refine j_iload_n 0 dX3_fits_86 rfl rfl ?_
        refine j_bipush (v := 48) dX3_fits_87 (by decide) ?_
        refine j_bipush (v := 57) dX3_fits_89 (by decide) ?_
        refine j_cNi (As := [.int (cs i), .int 48, .int 57]) (rest := []) (wr := pb x q (cs, n)) (ws' := pb x q (cs, n)) (tX5_isWithin l x (cs i) 48 57) kX5_isWithin nX3_37 dX3_fits_91 (by decide) rfl rfl (Nat.le_of_ble_eq_true rfl) (List.Perm.refl _) rfl ?_
        exact j_iret _ dX3_fits_94 (List.Perm.refl _) ⟨congrArg (fun b => some (Value.int (bI b))) (by rw [fitB, if_neg h15, if_neg h36, if_neg m0, if_pos m1]), rfl⟩
      have s0 : ¬ nI (i % 3) = 0 := fun e => m0 ((nI_eq (a := i % 3) (b := 0) (by omega) (by omega)).mp e)
      have s1 : ¬ nI (i % 3) = 1 := fun e => m1 ((nI_eq (a := i % 3) (b := 1) (by omega) (by omega)).mp e)
      refine j_lookup dX3_fits_44 (by decide) ((lv_osw s0 (by decide)).trans ((lv_osw s1 (by decide)).trans rfl)) (by decide : (44 : Int) + 51 = ((95 : Nat) : Int)) ?_
      refine j_iload_n 0 dX3_fits_95 rfl rfl ?_
      refine j_bipush (v := 44) dX3_fits_96 (by decide) ?_
      refine j_icmp_ne (tgt := 107) dX3_fits_98 (by decide) (fun h98 => ?_) (fun h98 => ?_)
      · skip
        refine j_iload_n 0 dX3_fits_107 rfl rfl ?_
        refine j_bipush (v := 59) dX3_fits_108 (by decide) ?_
        refine j_icmp_ne (tgt := 122) dX3_fits_110 (by decide) (fun h110 => ?_) (fun h110 => ?_)
        · skip
          refine j_iconst (v := bI false) dX3_fits_122 (by decide) ?_
          exact j_iret _ dX3_fits_123 (List.Perm.refl _) ⟨congrArg (fun b => some (Value.int (bI b))) (by rw [fitB, if_neg h15, if_neg h36, if_neg m0, if_neg m1]; first | (exfalso; rw [h98] at h110; exact absurd h110 (by decide)) | (simp [*]; done) | (simp [*]; omega)), rfl⟩
        · skip
          refine j_iload_n 2 dX3_fits_113 rfl rfl ?_
          refine j_iconst (v := 5) dX3_fits_114 (by decide) ?_
          refine j_icmpN_lt (a := i) (b := 5) (by omega) (by omega) (tgt := 122) dX3_fits_115 (by decide) (fun h115 => ?_) (fun h115 => ?_)
          · skip
            refine j_iconst (v := bI false) dX3_fits_122 (by decide) ?_
            exact j_iret _ dX3_fits_123 (List.Perm.refl _) ⟨congrArg (fun b => some (Value.int (bI b))) (by rw [fitB, if_neg h15, if_neg h36, if_neg m0, if_neg m1]; first | (exfalso; rw [h98] at h110; exact absurd h110 (by decide)) | (simp [*]; done) | (simp [*]; omega)), rfl⟩
          · skip
            refine j_iconst (v := bI true) dX3_fits_118 (by decide) ?_
            refine j_goto (tgt := 123) dX3_fits_119 (by decide) ?_
            exact j_iret _ dX3_fits_123 (List.Perm.refl _) ⟨congrArg (fun b => some (Value.int (bI b))) (by rw [fitB, if_neg h15, if_neg h36, if_neg m0, if_neg m1]; first | (exfalso; rw [h98] at h110; exact absurd h110 (by decide)) | (simp [*]; done) | (simp [*]; omega)), rfl⟩
      · skip
        refine j_iload_n 2 dX3_fits_101 rfl rfl ?_
        refine j_bipush (v := 14) dX3_fits_102 (by decide) ?_
        refine j_icmpN_lt (a := i) (b := 14) (by omega) (by omega) (tgt := 118) dX3_fits_104 (by decide) (fun h104 => ?_) (fun h104 => ?_)
        · skip
          refine j_iconst (v := bI true) dX3_fits_118 (by decide) ?_
          refine j_goto (tgt := 123) dX3_fits_119 (by decide) ?_
          exact j_iret _ dX3_fits_123 (List.Perm.refl _) ⟨congrArg (fun b => some (Value.int (bI b))) (by rw [fitB, if_neg h15, if_neg h36, if_neg m0, if_neg m1]; first | (exfalso; rw [h98] at h110; exact absurd h110 (by decide)) | (simp [*]; done) | (simp [*]; omega)), rfl⟩
        · skip
          refine j_iload_n 0 dX3_fits_107 rfl rfl ?_
          refine j_bipush (v := 59) dX3_fits_108 (by decide) ?_
          refine j_icmp_ne (tgt := 122) dX3_fits_110 (by decide) (fun h110 => ?_) (fun h110 => ?_)
          · skip
            refine j_iconst (v := bI false) dX3_fits_122 (by decide) ?_
            exact j_iret _ dX3_fits_123 (List.Perm.refl _) ⟨congrArg (fun b => some (Value.int (bI b))) (by rw [fitB, if_neg h15, if_neg h36, if_neg m0, if_neg m1]; first | (exfalso; rw [h98] at h110; exact absurd h110 (by decide)) | (simp [*]; done) | (simp [*]; omega)), rfl⟩
          · skip
            refine j_iload_n 2 dX3_fits_113 rfl rfl ?_
            refine j_iconst (v := 5) dX3_fits_114 (by decide) ?_
            refine j_icmpN_lt (a := i) (b := 5) (by omega) (by omega) (tgt := 122) dX3_fits_115 (by decide) (fun h115 => ?_) (fun h115 => ?_)
            · skip
              refine j_iconst (v := bI false) dX3_fits_122 (by decide) ?_
              exact j_iret _ dX3_fits_123 (List.Perm.refl _) ⟨congrArg (fun b => some (Value.int (bI b))) (by rw [fitB, if_neg h15, if_neg h36, if_neg m0, if_neg m1]; first | (exfalso; rw [h98] at h110; exact absurd h110 (by decide)) | (simp [*]; done) | (simp [*]; omega)), rfl⟩
            · skip
              refine j_iconst (v := bI true) dX3_fits_118 (by decide) ?_
              refine j_goto (tgt := 123) dX3_fits_119 (by decide) ?_
              exact j_iret _ dX3_fits_123 (List.Perm.refl _) ⟨congrArg (fun b => some (Value.int (bI b))) (by rw [fitB, if_neg h15, if_neg h36, if_neg m0, if_neg m1]; first | (exfalso; rw [h98] at h110; exact absurd h110 (by decide)) | (simp [*]; done) | (simp [*]; omega)), rfl⟩
    · skip
      refine j_iconst (v := bI false) dX3_fits_39 (by decide) ?_
      exact j_iret _ dX3_fits_40 (List.Perm.refl _) ⟨congrArg (fun b => some (Value.int (bI b))) (by rw [fitB, if_neg h15, if_pos h36]), rfl⟩
  · skip
    refine j_iload_n 0 dX3_fits_18 rfl rfl ?_
    refine j_bipush (v := 49) dX3_fits_19 (by decide) ?_
    refine j_bipush (v := 52) dX3_fits_21 (by decide) ?_
    refine j_cNi (As := [.int (cs i), .int 49, .int 52]) (rest := []) (wr := pb x q (cs, n)) (ws' := pb x q (cs, n)) (tX5_isWithin l x (cs i) 49 52) kX5_isWithin nX3_37 dX3_fits_23 (by decide) rfl rfl (Nat.le_of_ble_eq_true rfl) (List.Perm.refl _) rfl ?_
    exact j_iret _ dX3_fits_26 (List.Perm.refl _) ⟨congrArg (fun b => some (Value.int (bI b))) (by rw [fitB, if_pos h15]), rfl⟩
set_option maxHeartbeats 4000000 in
set_option maxRecDepth 100000 in
theorem lp_firstFault {M : Mx} (l : Launch) (x : Cx) (q : Nat → Nat) (cs : Nat → Int32) (n : Nat) (hn : n ≤ 18) (r : Nat) {k0 n0 : Nat}  : ∀ (m : Nat) (i : Nat), i ≤ n → ffr cs n (n - i) i = r → n - i < m → J M l x cX3_firstFault 2 yX3_firstFault 2 (eI (nI r) (pb x q (cs, n))) k0 n0 2 [(0, .ref (q 0)), (1, .int (nI i))] [] (pb x q (cs, n)) := by
  intro m; induction m with
  | zero => intro i hc0 hc1 hm; exact absurd hm (Nat.not_lt_zero _)
  | succ m ih =>
    intro i hc0 hc1 hm
    refine j_iload_n 1 dX3_firstFault_2 rfl rfl ?_
    refine j_aload_n 0 dX3_firstFault_3 rfl rfl ?_
    refine j_get (v := .int (nI n)) 0 dX3_firstFault_4 fX3_15 rfl rfl ?_
    refine j_icmpN_ge (a := i) (b := n) (by omega) (by omega) (tgt := 26) dX3_firstFault_7 (by decide) (fun h7 => ?_) (fun h7 => ?_)
    · skip
      refine j_aload_n 0 dX3_firstFault_26 rfl rfl ?_
      refine j_get (v := .int (nI n)) 0 dX3_firstFault_27 fX3_15 rfl rfl ?_
      exact j_iret _ dX3_firstFault_30 (List.Perm.refl _) ⟨by rw [← hc1, show n - i = 0 by omega]; rfl, rfl⟩
    · skip
      refine j_aload_n 0 dX3_firstFault_10 rfl rfl ?_
      refine j_iload_n 1 dX3_firstFault_11 rfl rfl ?_
      refine j_cVi (As := [.int (nI i)]) (rest := []) (wr := []) (ws' := pb x q (cs, n)) (tX3_fits l x q cs n (by omega) i (by omega)) kX3_fits 0 rfl rfl rfl vX3_23 dX3_firstFault_12 (by decide) rfl rfl (Nat.le_of_ble_eq_true rfl) (pm_0 _) (List.append_nil _) ?_
      refine j_ifb_ne (b := fitB cs n i) (tgt := 20) dX3_firstFault_15 (by decide) (fun h15 => ?_) (fun h15 => ?_)
      · skip
        refine j_iinc (v := nI (i + 1)) (lv' := [(1, .int (nI (i + 1))), (0, .ref (q 0))]) 1 dX3_firstFault_20 rfl (nI_1 i) (by decide) rfl ?_
        refine j_goto (tgt := 2) dX3_firstFault_23 (by decide) ?_
        refine j_lv [1, 0] (lv' := [(0, .ref (q 0)), (1, .int (nI (i + 1)))]) rfl ?_
        exact ih (i + 1) (by omega) (by rw [← hc1, show n - i = (n - (i + 1)) + 1 by omega, ffr, if_pos h15]) (by omega)
      · skip
        refine j_iload_n 1 dX3_firstFault_18 rfl rfl ?_
        exact j_iret _ dX3_firstFault_19 (List.Perm.refl _) ⟨by rw [← hc1, show n - i = (n - (i + 1)) + 1 by omega, ffr, if_neg (by rw [h15]; decide)], rfl⟩
set_option maxHeartbeats 4000000 in
set_option maxRecDepth 100000 in
theorem tX3_firstFault (l : Launch) (x : Cx) (q : Nat → Nat) (cs : Nat → Int32) (n : Nat) (hn : n ≤ 18) : MC l x 2 0 0 yX3_firstFault cX3_firstFault 2 (some .int) [.ref (q 0)] (pb x q (cs, n)) (eI (nI (ffr cs n n 0)) (pb x q (cs, n))) := by
  refine MC.of (by decide) (Nat.le_of_ble_eq_true rfl) eI_fit (fun M => ?_)
  show J M l x cX3_firstFault 2 yX3_firstFault 2 (eI (nI (ffr cs n n 0)) (pb x q (cs, n))) 0 0 0 [(0, .ref (q 0))] [] (pb x q (cs, n))
  refine j_iconst (v := nI 0) dX3_firstFault_0 (by decide) ?_
  refine j_istore_n (lv' := [(1, .int (nI 0)), (0, .ref (q 0))]) dX3_firstFault_1 rfl (by decide) rfl ?_
  refine j_lv [1, 0] (lv' := [(0, .ref (q 0)), (1, .int (nI 0))]) rfl ?_
  exact lp_firstFault l x q cs n hn _ (n + 1) 0 (by omega) rfl (by omega)
set_option maxHeartbeats 4000000 in
set_option maxRecDepth 100000 in
theorem tX3_isHouse (l : Launch) (x : Cx) (q : Nat → Nat) (cs : Nat → Int32) (n : Nat) (hn : n ≤ 18) : MC l x 3 0 0 yX3_isHouse cX3_isHouse 1 (some .boolean) [.ref (q 0)] (pb x q (cs, n)) (eI (bI (isHB cs n)) (pb x q (cs, n))) := by
  refine MC.of (by decide) (Nat.le_of_ble_eq_true rfl) eB_fit (fun M => ?_)
  show J M l x cX3_isHouse 1 yX3_isHouse 3 (eI (bI (isHB cs n)) (pb x q (cs, n))) 0 0 0 [(0, .ref (q 0))] [] (pb x q (cs, n))
  have hff := ffr_le cs n n 0 (by omega)
  refine j_aload_n 0 dX3_isHouse_0 rfl rfl ?_
  refine j_aload_n 0 dX3_isHouse_1 rfl rfl ?_
  refine j_get (v := .int (nI n)) 0 dX3_isHouse_2 fX3_15 rfl rfl ?_
  refine j_iconst (v := 2) dX3_isHouse_5 (by decide) ?_
  refine j_isub dX3_isHouse_6 ?_
  refine j_cVi (As := [.int ((nI n) - 2)]) (rest := []) (wr := []) (ws' := pb x q (cs, n)) (tX3_codeAt l x q cs n (by omega) ((nI n) - 2)) kX3_codeAt 0 rfl rfl rfl vX3_19 dX3_isHouse_7 (by decide) rfl rfl (Nat.le_of_ble_eq_true rfl) (pm_0 _) (List.append_nil _) ?_
  refine j_bipush (v := 59) dX3_isHouse_10 (by decide) ?_
  refine j_icmp_ne (tgt := 30) dX3_isHouse_12 (by decide) (fun h12 => ?_) (fun h12 => ?_)
  · skip
    refine j_iconst (v := bI false) dX3_isHouse_30 (by decide) ?_
    exact j_iret _ dX3_isHouse_31 (List.Perm.refl _) ⟨by simp [isHB, *], by rfl⟩
  · skip
    refine j_aload_n 0 dX3_isHouse_15 rfl rfl ?_
    refine j_cVi (As := []) (rest := []) (wr := []) (ws' := pb x q (cs, n)) (tX3_firstFault l x q cs n (by omega) ) kX3_firstFault 0 rfl rfl rfl vX3_27 dX3_isHouse_16 (by decide) rfl rfl (Nat.le_of_ble_eq_true rfl) (pm_0 _) (List.append_nil _) ?_
    refine j_aload_n 0 dX3_isHouse_19 rfl rfl ?_
    refine j_get (v := .int (nI n)) 0 dX3_isHouse_20 fX3_15 rfl rfl ?_
    refine j_icmpN_ne (a := ffr cs n n 0) (b := n) (by omega) (by omega) (tgt := 30) dX3_isHouse_23 (by decide) (fun h23 => ?_) (fun h23 => ?_)
    · skip
      refine j_iconst (v := bI false) dX3_isHouse_30 (by decide) ?_
      exact j_iret _ dX3_isHouse_31 (List.Perm.refl _) ⟨by simp [isHB, *], by rfl⟩
    · skip
      refine j_iconst (v := bI true) dX3_isHouse_26 (by decide) ?_
      refine j_goto (tgt := 31) dX3_isHouse_27 (by decide) ?_
      exact j_iret _ dX3_isHouse_31 (List.Perm.refl _) ⟨by simp [isHB, *], by rfl⟩
set_option maxHeartbeats 4000000 in
set_option maxRecDepth 100000 in
theorem tX4_size (l : Launch) (x : Cx) (q : Nat → Nat) (hs wh : Nat → Int32) (n : Nat) (hn : n ≤ 6) : MC l x 0 0 0 yX4_size cX4_size 1 (some .int) [.ref (q 0)] (sb x q (hs, wh, n)) (eI (nI n) (sb x q (hs, wh, n))) := by
  refine MC.of (by decide) (Nat.le_of_ble_eq_true rfl) eI_fit (fun M => ?_)
  show J M l x cX4_size 1 yX4_size 0 (eI (nI n) (sb x q (hs, wh, n))) 0 0 0 [(0, .ref (q 0))] [] (sb x q (hs, wh, n))
  refine j_aload_n 0 dX4_size_0 rfl rfl ?_
  refine j_get (v := .int (nI n)) 0 dX4_size_1 fX4_18 rfl rfl ?_
  exact j_iret _ dX4_size_4 (List.Perm.refl _) ⟨by rfl, by rfl⟩
set_option maxHeartbeats 4000000 in
set_option maxRecDepth 100000 in
theorem tX4_put (l : Launch) (x : Cx) (q : Nat → Nat) (hs wh : Nat → Int32) (n : Nat) (hn : n < 6) (b w : Int32) : MC l x 0 0 0 yX4_put cX4_put 3 (some .int) [.ref (q 0), .int b, .int w] (sb x q (hs, wh, n)) (eI (nI (n + 1)) (sb x q (upd hs n b, upd wh n w, n + 1))) := by
  refine MC.of (by decide) (Nat.le_of_ble_eq_true rfl) eI_fit (fun M => ?_)
  show J M l x cX4_put 3 yX4_put 0 (eI (nI (n + 1)) (sb x q (upd hs n b, upd wh n w, n + 1))) 0 0 0 [(0, .ref (q 0)), (1, .int b), (2, .int w)] [] (sb x q (hs, wh, n))
  refine j_aload_n 0 dX4_put_0 rfl rfl ?_
  refine j_get (v := .int (nI n)) 0 dX4_put_1 fX4_18 rfl rfl ?_
  refine j_bipush (v := 6) dX4_put_4 (by decide) ?_
  refine j_icmpN_ge (a := n) (b := 6) (by omega) (by omega) (tgt := 39) dX4_put_6 (by decide) (fun h6 => by omega) (fun h6 => ?_)
  refine j_aload_n 0 dX4_put_9 rfl rfl ?_
  refine j_get (v := .ref (q 1)) 0 dX4_put_10 fX4_9 rfl rfl ?_
  refine j_aload_n 0 dX4_put_13 rfl rfl ?_
  refine j_get (v := .int (nI n)) 0 dX4_put_14 fX4_18 rfl rfl ?_
  refine j_iload_n 1 dX4_put_17 rfl rfl ?_
  refine j_iastN (i := n) (f := hs) (ws' := sb x q (upd hs n b, wh, n)) 1 dX4_put_18 rfl (by omega) (by decide) rfl ?_
  refine j_aload_n 0 dX4_put_19 rfl rfl ?_
  refine j_get (v := .ref (q 2)) 0 dX4_put_20 fX4_15 rfl rfl ?_
  refine j_aload_n 0 dX4_put_23 rfl rfl ?_
  refine j_get (v := .int (nI n)) 0 dX4_put_24 fX4_18 rfl rfl ?_
  refine j_iload_n 2 dX4_put_27 rfl rfl ?_
  refine j_iastN (i := n) (f := wh) (ws' := sb x q (upd hs n b, upd wh n w, n)) 2 dX4_put_28 rfl (by omega) (by decide) rfl ?_
  refine j_aload_n 0 dX4_put_29 rfl rfl ?_
  refine j_dup dX4_put_30 rfl ?_
  refine j_get (v := .int (nI n)) 0 dX4_put_31 fX4_18 rfl rfl ?_
  refine j_iconst (v := 1) dX4_put_34 (by decide) ?_
  refine j_iadd dX4_put_35 ?_
  refine j_topi (b := nI (n + 1)) (nI_1 n) ?_
  refine j_put (v := .int (nI (n + 1))) (ws' := sb x q (upd hs n b, upd wh n w, n + 1)) 0 dX4_put_36 fX4_18 rfl rfl rfl (Nat.le_of_ble_eq_true rfl) rfl ?_
  refine j_aload_n 0 dX4_put_39 rfl rfl ?_
  refine j_get (v := .int (nI (n + 1))) 0 dX4_put_40 fX4_18 rfl rfl ?_
  exact j_iret _ dX4_put_43 (List.Perm.refl _) ⟨by rfl, by rfl⟩
set_option maxHeartbeats 4000000 in
set_option maxRecDepth 100000 in
theorem tX4_empty (l : Launch) (x : Cx) (q : Nat → Nat) (hs wh : Nat → Int32) (n : Nat) (hn : n ≤ 6) : MC l x 0 0 0 yX4_empty cX4_empty 2 (some .int) [.ref (q 0)] (sb x q (hs, wh, n)) (eI (nI n) (sb x q (hs, wh, 0))) := by
  refine MC.of (by decide) (Nat.le_of_ble_eq_true rfl) eI_fit (fun M => ?_)
  show J M l x cX4_empty 2 yX4_empty 0 (eI (nI n) (sb x q (hs, wh, 0))) 0 0 0 [(0, .ref (q 0))] [] (sb x q (hs, wh, n))
  refine j_aload_n 0 dX4_empty_0 rfl rfl ?_
  refine j_get (v := .int (nI n)) 0 dX4_empty_1 fX4_18 rfl rfl ?_
  refine j_istore_n (lv' := [(1, .int (nI n)), (0, .ref (q 0))]) dX4_empty_4 rfl (by decide) rfl ?_
  refine j_aload_n 1 dX4_empty_5 rfl rfl ?_
  refine j_iconst (v := nI 0) dX4_empty_6 (by decide) ?_
  refine j_put (v := .int (nI 0)) (ws' := sb x q (hs, wh, 0)) 0 dX4_empty_7 fX4_18 rfl rfl rfl (Nat.le_of_ble_eq_true rfl) rfl ?_
  refine j_iload_n 0 dX4_empty_10 rfl rfl ?_
  exact j_iret _ dX4_empty_11 (List.Perm.refl _) ⟨by rfl, by rfl⟩
set_option maxHeartbeats 4000000 in
set_option maxRecDepth 100000 in
theorem lp_allows {M : Mx} (l : Launch) (x : Cx) (q : Nat → Nat) (hs wh : Nat → Int32) (n : Nat) (hn : n ≤ 6) (b w : Int32) (r : Bool) {k0 n0 : Nat}  : ∀ (m : Nat) (i : Nat), i ≤ n → alr hs wh b w (n - i) i = r → n - i < m → J M l x cX4_allows 4 yX4_allows 0 (eI (bI r) (sb x q (hs, wh, n))) k0 n0 2 [(0, .ref (q 0)), (1, .int b), (2, .int w), (3, .int (nI i))] [] (sb x q (hs, wh, n)) := by
  intro m; induction m with
  | zero => intro i hc0 hc1 hm; exact absurd hm (Nat.not_lt_zero _)
  | succ m ih =>
    intro i hc0 hc1 hm
    refine j_iload_n 3 dX4_allows_2 rfl rfl ?_
    refine j_aload_n 0 dX4_allows_3 rfl rfl ?_
    refine j_get (v := .int (nI n)) 0 dX4_allows_4 fX4_18 rfl rfl ?_
    refine j_icmpN_ge (a := i) (b := n) (by omega) (by omega) (tgt := 38) dX4_allows_7 (by decide) (fun h7 => ?_) (fun h7 => ?_)
    · skip
      refine j_iconst (v := bI true) dX4_allows_38 (by decide) ?_
      exact j_iret _ dX4_allows_39 (List.Perm.refl _) ⟨by rw [← hc1, show n - i = 0 by omega]; rfl, rfl⟩
    · skip
      refine j_aload_n 0 dX4_allows_10 rfl rfl ?_
      refine j_get (v := .ref (q 1)) 0 dX4_allows_11 fX4_9 rfl rfl ?_
      refine j_iload_n 3 dX4_allows_14 rfl rfl ?_
      refine j_ialdN (i := i) (f := hs) 1 dX4_allows_15 rfl (by omega) (by decide) ?_
      refine j_iload_n 1 dX4_allows_16 rfl rfl ?_
      refine j_icmp_ne (tgt := 32) dX4_allows_17 (by decide) (fun h17 => ?_) (fun h17 => ?_)
      · skip
        refine j_iinc (v := nI (i + 1)) (lv' := [(3, .int (nI (i + 1))), (0, .ref (q 0)), (1, .int b), (2, .int w)]) 3 dX4_allows_32 rfl (nI_1 i) (by decide) rfl ?_
        refine j_goto (tgt := 2) dX4_allows_35 (by decide) ?_
        refine j_lv [1, 2, 3, 0] (lv' := [(0, .ref (q 0)), (1, .int b), (2, .int w), (3, .int (nI (i + 1)))]) rfl ?_
        exact ih (i + 1) (by omega) (by rw [← hc1, show n - i = (n - (i + 1)) + 1 by omega, alr, if_neg (by first | exact fun e => h17 e.1 | exact fun e => e.2 h27)]) (by omega)
      · skip
        refine j_aload_n 0 dX4_allows_20 rfl rfl ?_
        refine j_get (v := .ref (q 2)) 0 dX4_allows_21 fX4_15 rfl rfl ?_
        refine j_iload_n 3 dX4_allows_24 rfl rfl ?_
        refine j_ialdN (i := i) (f := wh) 2 dX4_allows_25 rfl (by omega) (by decide) ?_
        refine j_iload_n 2 dX4_allows_26 rfl rfl ?_
        refine j_icmp_eq (tgt := 32) dX4_allows_27 (by decide) (fun h27 => ?_) (fun h27 => ?_)
        · skip
          refine j_iinc (v := nI (i + 1)) (lv' := [(3, .int (nI (i + 1))), (0, .ref (q 0)), (1, .int b), (2, .int w)]) 3 dX4_allows_32 rfl (nI_1 i) (by decide) rfl ?_
          refine j_goto (tgt := 2) dX4_allows_35 (by decide) ?_
          refine j_lv [1, 2, 3, 0] (lv' := [(0, .ref (q 0)), (1, .int b), (2, .int w), (3, .int (nI (i + 1)))]) rfl ?_
          exact ih (i + 1) (by omega) (by rw [← hc1, show n - i = (n - (i + 1)) + 1 by omega, alr, if_neg (by first | exact fun e => h17 e.1 | exact fun e => e.2 h27)]) (by omega)
        · skip
          refine j_iconst (v := bI false) dX4_allows_30 (by decide) ?_
          exact j_iret _ dX4_allows_31 (List.Perm.refl _) ⟨by rw [← hc1, show n - i = (n - (i + 1)) + 1 by omega, alr, if_pos ⟨h17, h27⟩], rfl⟩
set_option maxHeartbeats 4000000 in
set_option maxRecDepth 100000 in
theorem tX4_allows (l : Launch) (x : Cx) (q : Nat → Nat) (hs wh : Nat → Int32) (n : Nat) (hn : n ≤ 6) (b w : Int32) : MC l x 0 0 0 yX4_allows cX4_allows 4 (some .boolean) [.ref (q 0), .int b, .int w] (sb x q (hs, wh, n)) (eI (bI (alr hs wh b w n 0)) (sb x q (hs, wh, n))) := by
  refine MC.of (by decide) (Nat.le_of_ble_eq_true rfl) eB_fit (fun M => ?_)
  show J M l x cX4_allows 4 yX4_allows 0 (eI (bI (alr hs wh b w n 0)) (sb x q (hs, wh, n))) 0 0 0 [(0, .ref (q 0)), (1, .int b), (2, .int w)] [] (sb x q (hs, wh, n))
  refine j_iconst (v := nI 0) dX4_allows_0 (by decide) ?_
  refine j_istore_n (lv' := [(3, .int (nI 0)), (0, .ref (q 0)), (1, .int b), (2, .int w)]) dX4_allows_1 rfl (by decide) rfl ?_
  refine j_lv [1, 2, 3, 0] (lv' := [(0, .ref (q 0)), (1, .int b), (2, .int w), (3, .int (nI 0))]) rfl ?_
  exact lp_allows l x q hs wh n hn b w _ (n + 1) 0 (by omega) rfl (by omega)
set_option maxHeartbeats 4000000 in
set_option maxRecDepth 100000 in
theorem lp_scopy {M : Mx} (l : Launch) (x : Cx) (q q2 : Nat → Nat) (hs wh : Nat → Int32) (n : Nat) (hs2 wh2 : Nat → Int32) (n2 : Nat) (hn : n2 ≤ 6) {k0 n0 : Nat}  : ∀ (m : Nat) (i : Nat), i ≤ n2 → n2 - i < m → J M l x cX4_copyFrom 3 yX4_copyFrom 0 (eV (sb x q (mix n2 hs2 hs, mix n2 wh2 wh, n2) ++ sb x q2 (hs2, wh2, n2))) k0 n0 10 [(0, .ref (q 0)), (1, .ref (q2 0)), (2, .int (nI i))] [] (sb x q (mix i hs2 hs, mix i wh2 wh, n2) ++ sb x q2 (hs2, wh2, n2)) := by
  intro m; induction m with
  | zero => intro i hc0 hm; exact absurd hm (Nat.not_lt_zero _)
  | succ m ih =>
    intro i hc0 hm
    refine j_iload_n 2 dX4_copyFrom_10 rfl rfl ?_
    refine j_aload_n 0 dX4_copyFrom_11 rfl rfl ?_
    refine j_get (v := .int (nI n2)) 0 dX4_copyFrom_12 fX4_18 rfl rfl ?_
    refine j_icmpN_ge (a := i) (b := n2) (by omega) (by omega) (tgt := 48) dX4_copyFrom_15 (by decide) (fun h15 => ?_) (fun h15 => ?_)
    · skip
      exact j_vret _ dX4_copyFrom_48 (List.Perm.refl _) ⟨rfl, by rw [show i = n2 by omega]⟩
    · skip
      refine j_aload_n 0 dX4_copyFrom_18 rfl rfl ?_
      refine j_get (v := .ref (q 1)) 0 dX4_copyFrom_19 fX4_9 rfl rfl ?_
      refine j_iload_n 2 dX4_copyFrom_22 rfl rfl ?_
      refine j_aload_n 1 dX4_copyFrom_23 rfl rfl ?_
      refine j_get (v := .ref (q2 1)) 3 dX4_copyFrom_24 fX4_9 rfl rfl ?_
      refine j_iload_n 2 dX4_copyFrom_27 rfl rfl ?_
      refine j_ialdN (i := i) (f := hs2) 4 dX4_copyFrom_28 rfl (by omega) (by decide) ?_
      refine j_iastN (i := i) (f := mix i hs2 hs) (ws' := sb x q (upd (mix i hs2 hs) i (hs2 i), mix i wh2 wh, n2) ++ sb x q2 (hs2, wh2, n2)) 1 dX4_copyFrom_29 rfl (by omega) (by decide) rfl ?_
      refine j_aload_n 0 dX4_copyFrom_30 rfl rfl ?_
      refine j_get (v := .ref (q 2)) 0 dX4_copyFrom_31 fX4_15 rfl rfl ?_
      refine j_iload_n 2 dX4_copyFrom_34 rfl rfl ?_
      refine j_aload_n 1 dX4_copyFrom_35 rfl rfl ?_
      refine j_get (v := .ref (q2 2)) 3 dX4_copyFrom_36 fX4_15 rfl rfl ?_
      refine j_iload_n 2 dX4_copyFrom_39 rfl rfl ?_
      refine j_ialdN (i := i) (f := wh2) 5 dX4_copyFrom_40 rfl (by omega) (by decide) ?_
      refine j_iastN (i := i) (f := mix i wh2 wh) (ws' := sb x q (upd (mix i hs2 hs) i (hs2 i), upd (mix i wh2 wh) i (wh2 i), n2) ++ sb x q2 (hs2, wh2, n2)) 2 dX4_copyFrom_41 rfl (by omega) (by decide) rfl ?_
      refine j_iinc (v := nI (i + 1)) (lv' := [(2, .int (nI (i + 1))), (0, .ref (q 0)), (1, .ref (q2 0))]) 2 dX4_copyFrom_42 rfl (nI_1 i) (by decide) rfl ?_
      refine j_goto (tgt := 10) dX4_copyFrom_45 (by decide) ?_
      refine j_lv [1, 2, 0] (lv' := [(0, .ref (q 0)), (1, .ref (q2 0)), (2, .int (nI (i + 1)))]) rfl ?_
      refine j_ws (ws' := sb x q (mix (i + 1) hs2 hs, mix (i + 1) wh2 wh, n2) ++ sb x q2 (hs2, wh2, n2)) (by rw [mix_upd _ _ _ rfl, mix_upd _ _ _ rfl]) ?_
      exact ih (i + 1) (by omega) (by omega)
set_option maxHeartbeats 4000000 in
set_option maxRecDepth 100000 in
theorem tX4_copyFrom (l : Launch) (x : Cx) (q q2 : Nat → Nat) (hs wh : Nat → Int32) (n : Nat) (hs2 wh2 : Nat → Int32) (n2 : Nat) (hn : n2 ≤ 6) : MC l x 0 0 0 yX4_copyFrom cX4_copyFrom 3 none [.ref (q 0), .ref (q2 0)] (sb x q (hs, wh, n) ++ sb x q2 (hs2, wh2, n2)) (eV (sb x q (mix n2 hs2 hs, mix n2 wh2 wh, n2) ++ sb x q2 (hs2, wh2, n2))) := by
  refine MC.of (by decide) (Nat.le_of_ble_eq_true rfl) eV_fit (fun M => ?_)
  show J M l x cX4_copyFrom 3 yX4_copyFrom 0 (eV (sb x q (mix n2 hs2 hs, mix n2 wh2 wh, n2) ++ sb x q2 (hs2, wh2, n2))) 0 0 0 [(0, .ref (q 0)), (1, .ref (q2 0))] [] (sb x q (hs, wh, n) ++ sb x q2 (hs2, wh2, n2))
  refine j_aload_n 0 dX4_copyFrom_0 rfl rfl ?_
  refine j_aload_n 1 dX4_copyFrom_1 rfl rfl ?_
  refine j_get (v := .int (nI n2)) 3 dX4_copyFrom_2 fX4_18 rfl rfl ?_
  refine j_put (v := .int (nI n2)) (ws' := sb x q (hs, wh, n2) ++ sb x q2 (hs2, wh2, n2)) 0 dX4_copyFrom_5 fX4_18 rfl rfl rfl (Nat.le_of_ble_eq_true rfl) rfl ?_
  refine j_iconst (v := nI 0) dX4_copyFrom_8 (by decide) ?_
  refine j_istore_n (lv' := [(2, .int (nI 0)), (0, .ref (q 0)), (1, .ref (q2 0))]) dX4_copyFrom_9 rfl (by decide) rfl ?_
  refine j_lv [1, 2, 0] (lv' := [(0, .ref (q 0)), (1, .ref (q2 0)), (2, .int (nI 0))]) rfl ?_
  have hl := lp_scopy (M := M) (k0 := 0) (n0 := 0) l x q q2 hs wh n hs2 wh2 n2 hn (n2 + 1) 0 (by omega) (by omega)
  rw [mix_0, mix_0] at hl
  exact hl
set_option maxHeartbeats 4000000 in
set_option maxRecDepth 100000 in
theorem lp_begin {M : Mx} (l : Launch) (x : Cx) (q g : Nat → Nat) (kf tf : Nat → Int32) (sl : Nat → Bool) (bf : Nat → Int32) (n : Nat) (d h : Int32) (cs : Nat → Int32) (pn : Nat) (hn : pn ≤ 18) {k0 n0 : Nat}  : ∀ (m : Nat) (i : Nat), i ≤ min (pn / 3) 5 → min (pn / 3) 5 - i < m → J M l x cX2_begin 3 yX2_begin 3 (eV (fl [nb x q (bgn (cs, pn) (kf, tf, sl, bf, n, d, h)), pb x g (cs, pn)])) k0 n0 27 [(0, .ref (q 0)), (1, .ref (g 0)), (2, .int (nI i))] [] (fl [nb x q (mix i (fun j => kbl (cAt cs pn (nI j * 3))) kf, mix i (fun j => cAt cs pn (nI j * 3 + 1) - 48) tf, mix i (fun _ => false) sl, mix i (fun _ => 0) bf, min (pn / 3) 5, cAt cs pn (nI pn - 1) - 48, 0), pb x g (cs, pn)]) := by
  intro m; induction m with
  | zero => intro i hc0 hm; exact absurd hm (Nat.not_lt_zero _)
  | succ m ih =>
    intro i hc0 hm
    refine j_iload_n 2 dX2_begin_27 rfl rfl ?_
    refine j_aload_n 0 dX2_begin_28 rfl rfl ?_
    refine j_get (v := .int (nI (min (pn / 3) 5))) 0 dX2_begin_29 fX2_25 rfl rfl ?_
    refine j_icmpN_ge (a := i) (b := min (pn / 3) 5) (by omega) (by omega) (tgt := 77) dX2_begin_32 (by decide) (fun h32 => ?_) (fun h32 => ?_)
    · skip
      exact j_vret (fl [nb x q (mix i (fun j => kbl (cAt cs pn (nI j * 3))) kf, mix i (fun j => cAt cs pn (nI j * 3 + 1) - 48) tf, mix i (fun _ => false) sl, mix i (fun _ => 0) bf, min (pn / 3) 5, cAt cs pn (nI pn - 1) - 48, 0), pb x g (cs, pn)]) dX2_begin_77 (pm_b [0, 1] rfl rfl) ⟨rfl, by rw [show i = min (pn / 3) 5 by omega]; rfl⟩
    · skip
      refine j_aload_n 0 dX2_begin_35 rfl rfl ?_
      refine j_get (v := .ref (q 1)) 0 dX2_begin_36 fX2_9 rfl rfl ?_
      refine j_iload_n 2 dX2_begin_39 rfl rfl ?_
      refine j_aload_n 1 dX2_begin_40 rfl rfl ?_
      refine j_iload_n 2 dX2_begin_41 rfl rfl ?_
      refine j_cVi (As := [.int (nI i)]) (rest := [.int (nI i), .ref (q 1)]) (wr := fl [nb x q (mix i (fun j => kbl (cAt cs pn (nI j * 3))) kf, mix i (fun j => cAt cs pn (nI j * 3 + 1) - 48) tf, mix i (fun _ => false) sl, mix i (fun _ => 0) bf, min (pn / 3) 5, cAt cs pn (nI pn - 1) - 48, 0)]) (ws' := fl [pb x g (cs, pn), nb x q (mix i (fun j => kbl (cAt cs pn (nI j * 3))) kf, mix i (fun j => cAt cs pn (nI j * 3 + 1) - 48) tf, mix i (fun _ => false) sl, mix i (fun _ => 0) bf, min (pn / 3) 5, cAt cs pn (nI pn - 1) - 48, 0)]) (tX3_kindOf l x g cs pn (by omega) i) kX3_kindOf 0 rfl rfl rfl vX2_48 dX2_begin_42 (by decide) rfl rfl (Nat.le_of_ble_eq_true rfl) (pm_1 1 [0] rfl rfl rfl) rfl ?_
      refine j_iastN (i := i) (f := mix i (fun j => kbl (cAt cs pn (nI j * 3))) kf) (ws' := fl [pb x g (cs, pn), nb x q (upd (mix i (fun j => kbl (cAt cs pn (nI j * 3))) kf) i (kbl (cAt cs pn (nI i * 3))), mix i (fun j => cAt cs pn (nI j * 3 + 1) - 48) tf, mix i (fun _ => false) sl, mix i (fun _ => 0) bf, min (pn / 3) 5, cAt cs pn (nI pn - 1) - 48, 0)]) 3 dX2_begin_45 rfl (by omega) (by decide) rfl ?_
      refine j_aload_n 0 dX2_begin_46 rfl rfl ?_
      refine j_get (v := .ref (q 2)) 2 dX2_begin_47 fX2_15 rfl rfl ?_
      refine j_iload_n 2 dX2_begin_50 rfl rfl ?_
      refine j_aload_n 1 dX2_begin_51 rfl rfl ?_
      refine j_iload_n 2 dX2_begin_52 rfl rfl ?_
      refine j_cVi (As := [.int (nI i)]) (rest := [.int (nI i), .ref (q 2)]) (wr := fl [nb x q (upd (mix i (fun j => kbl (cAt cs pn (nI j * 3))) kf) i (kbl (cAt cs pn (nI i * 3))), mix i (fun j => cAt cs pn (nI j * 3 + 1) - 48) tf, mix i (fun _ => false) sl, mix i (fun _ => 0) bf, min (pn / 3) 5, cAt cs pn (nI pn - 1) - 48, 0)]) (ws' := fl [pb x g (cs, pn), nb x q (upd (mix i (fun j => kbl (cAt cs pn (nI j * 3))) kf) i (kbl (cAt cs pn (nI i * 3))), mix i (fun j => cAt cs pn (nI j * 3 + 1) - 48) tf, mix i (fun _ => false) sl, mix i (fun _ => 0) bf, min (pn / 3) 5, cAt cs pn (nI pn - 1) - 48, 0)]) (tX3_tiredOf l x g cs pn (by omega) i) kX3_tiredOf 0 rfl rfl rfl vX2_52 dX2_begin_53 (by decide) rfl rfl (Nat.le_of_ble_eq_true rfl) (pm_1 0 [1] rfl rfl rfl) rfl ?_
      refine j_iastN (i := i) (f := mix i (fun j => cAt cs pn (nI j * 3 + 1) - 48) tf) (ws' := fl [pb x g (cs, pn), nb x q (upd (mix i (fun j => kbl (cAt cs pn (nI j * 3))) kf) i (kbl (cAt cs pn (nI i * 3))), upd (mix i (fun j => cAt cs pn (nI j * 3 + 1) - 48) tf) i (cAt cs pn (nI i * 3 + 1) - 48), mix i (fun _ => false) sl, mix i (fun _ => 0) bf, min (pn / 3) 5, cAt cs pn (nI pn - 1) - 48, 0)]) 4 dX2_begin_56 rfl (by omega) (by decide) rfl ?_
      refine j_aload_n 0 dX2_begin_57 rfl rfl ?_
      refine j_get (v := .ref (q 3)) 2 dX2_begin_58 fX2_18 rfl rfl ?_
      refine j_iload_n 2 dX2_begin_61 rfl rfl ?_
      refine j_iconst (v := 0) dX2_begin_62 (by decide) ?_
      refine j_zastB (i := i) (f := mix i (fun _ => false) sl) (ws' := fl [pb x g (cs, pn), nb x q (upd (mix i (fun j => kbl (cAt cs pn (nI j * 3))) kf) i (kbl (cAt cs pn (nI i * 3))), upd (mix i (fun j => cAt cs pn (nI j * 3 + 1) - 48) tf) i (cAt cs pn (nI i * 3 + 1) - 48), bup (mix i (fun _ => false) sl) i false, mix i (fun _ => 0) bf, min (pn / 3) 5, cAt cs pn (nI pn - 1) - 48, 0)]) 5 false dX2_begin_63 rfl (by omega) (by decide) rfl ?_
      refine j_aload_n 0 dX2_begin_64 rfl rfl ?_
      refine j_get (v := .ref (q 4)) 2 dX2_begin_65 fX2_22 rfl rfl ?_
      refine j_iload_n 2 dX2_begin_68 rfl rfl ?_
      refine j_iconst (v := 0) dX2_begin_69 (by decide) ?_
      refine j_iastN (i := i) (f := mix i (fun _ => 0) bf) (ws' := fl [pb x g (cs, pn), nb x q (upd (mix i (fun j => kbl (cAt cs pn (nI j * 3))) kf) i (kbl (cAt cs pn (nI i * 3))), upd (mix i (fun j => cAt cs pn (nI j * 3 + 1) - 48) tf) i (cAt cs pn (nI i * 3 + 1) - 48), bup (mix i (fun _ => false) sl) i false, upd (mix i (fun _ => 0) bf) i 0, min (pn / 3) 5, cAt cs pn (nI pn - 1) - 48, 0)]) 6 dX2_begin_70 rfl (by omega) (by decide) rfl ?_
      refine j_iinc (v := nI (i + 1)) (lv' := [(2, .int (nI (i + 1))), (0, .ref (q 0)), (1, .ref (g 0))]) 2 dX2_begin_71 rfl (nI_1 i) (by decide) rfl ?_
      refine j_goto (tgt := 27) dX2_begin_74 (by decide) ?_
      refine j_lv [1, 2, 0] (lv' := [(0, .ref (q 0)), (1, .ref (g 0)), (2, .int (nI (i + 1)))]) rfl ?_
      refine j_perm (fl [nb x q (upd (mix i (fun j => kbl (cAt cs pn (nI j * 3))) kf) i (kbl (cAt cs pn (nI i * 3))), upd (mix i (fun j => cAt cs pn (nI j * 3 + 1) - 48) tf) i (cAt cs pn (nI i * 3 + 1) - 48), bup (mix i (fun _ => false) sl) i false, upd (mix i (fun _ => 0) bf) i 0, min (pn / 3) 5, cAt cs pn (nI pn - 1) - 48, 0), pb x g (cs, pn)]) (pm_b [1, 0] rfl rfl) ?_
      refine j_ws (ws' := fl [nb x q (mix (i + 1) (fun j => kbl (cAt cs pn (nI j * 3))) kf, mix (i + 1) (fun j => cAt cs pn (nI j * 3 + 1) - 48) tf, mix (i + 1) (fun _ => false) sl, mix (i + 1) (fun _ => 0) bf, min (pn / 3) 5, cAt cs pn (nI pn - 1) - 48, 0), pb x g (cs, pn)]) (by rw [mix_upd _ _ _ rfl, mix_upd _ _ _ rfl, mix_bup _ _ _ rfl, mix_upd _ _ _ rfl]) ?_
      exact ih (i + 1) (by omega) (by omega)
set_option maxHeartbeats 4000000 in
set_option maxRecDepth 100000 in
theorem tX2_begin (l : Launch) (x : Cx) (q g : Nat → Nat) (kf tf : Nat → Int32) (sl : Nat → Bool) (bf : Nat → Int32) (n : Nat) (d h : Int32) (cs : Nat → Int32) (pn : Nat) (hn : pn ≤ 18) : MC l x 3 0 0 yX2_begin cX2_begin 3 none [.ref (q 0), .ref (g 0)] (fl [nb x q (kf, tf, sl, bf, n, d, h), pb x g (cs, pn)]) (eV (fl [nb x q (bgn (cs, pn) (kf, tf, sl, bf, n, d, h)), pb x g (cs, pn)])) := by
  refine MC.of (by decide) (Nat.le_of_ble_eq_true rfl) eV_fit (fun M => ?_)
  show J M l x cX2_begin 3 yX2_begin 3 (eV (fl [nb x q (bgn (cs, pn) (kf, tf, sl, bf, n, d, h)), pb x g (cs, pn)])) 0 0 0 [(0, .ref (q 0)), (1, .ref (g 0))] [] (fl [nb x q (kf, tf, sl, bf, n, d, h), pb x g (cs, pn)])
  refine j_aload_n 0 dX2_begin_0 rfl rfl ?_
  refine j_aload_n 1 dX2_begin_1 rfl rfl ?_
  refine j_cVi (As := []) (rest := [.ref (q 0)]) (wr := fl [nb x q (kf, tf, sl, bf, n, d, h)]) (ws' := fl [pb x g (cs, pn), nb x q (kf, tf, sl, bf, n, d, h)]) (tX3_lodgers l x g cs pn (by omega) ) kX3_lodgers 0 rfl rfl rfl vX2_35 dX2_begin_2 (by decide) rfl rfl (Nat.le_of_ble_eq_true rfl) (pm_1 1 [0] rfl rfl rfl) rfl ?_
  refine j_iconst (v := 5) dX2_begin_5 (by decide) ?_
  refine j_mmin dX2_begin_6 mX2_40 (by decide) (Nat.le_of_ble_eq_true rfl) ?_
  refine j_topi (b := nI (min (pn / 3) 5)) (mmin_nI (a := pn / 3) (b := 5) (by omega) (by omega)) ?_
  refine j_put (v := .int (nI (min (pn / 3) 5))) (ws' := fl [pb x g (cs, pn), nb x q (kf, tf, sl, bf, min (pn / 3) 5, d, h)]) 2 dX2_begin_9 fX2_25 rfl rfl rfl (Nat.le_of_ble_eq_true rfl) rfl ?_
  refine j_aload_n 0 dX2_begin_12 rfl rfl ?_
  refine j_aload_n 1 dX2_begin_13 rfl rfl ?_
  refine j_cVi (As := []) (rest := [.ref (q 0)]) (wr := fl [nb x q (kf, tf, sl, bf, min (pn / 3) 5, d, h)]) (ws' := fl [pb x g (cs, pn), nb x q (kf, tf, sl, bf, min (pn / 3) 5, d, h)]) (tX3_drowse l x g cs pn (by omega) ) kX3_drowse 0 rfl rfl rfl vX2_46 dX2_begin_14 (by decide) rfl rfl (Nat.le_of_ble_eq_true rfl) (pm_1 0 [1] rfl rfl rfl) rfl ?_
  refine j_put (v := .int (cAt cs pn (nI pn - 1) - 48)) (ws' := fl [pb x g (cs, pn), nb x q (kf, tf, sl, bf, min (pn / 3) 5, cAt cs pn (nI pn - 1) - 48, h)]) 2 dX2_begin_17 fX2_29 rfl rfl rfl (Nat.le_of_ble_eq_true rfl) rfl ?_
  refine j_aload_n 0 dX2_begin_20 rfl rfl ?_
  refine j_iconst (v := 0) dX2_begin_21 (by decide) ?_
  refine j_put (v := .int 0) (ws' := fl [pb x g (cs, pn), nb x q (kf, tf, sl, bf, min (pn / 3) 5, cAt cs pn (nI pn - 1) - 48, 0)]) 2 dX2_begin_22 fX2_32 rfl rfl rfl (Nat.le_of_ble_eq_true rfl) rfl ?_
  refine j_iconst (v := nI 0) dX2_begin_25 (by decide) ?_
  refine j_istore_n (lv' := [(2, .int (nI 0)), (0, .ref (q 0)), (1, .ref (g 0))]) dX2_begin_26 rfl (by decide) rfl ?_
  refine j_lv [1, 2, 0] (lv' := [(0, .ref (q 0)), (1, .ref (g 0)), (2, .int (nI 0))]) rfl ?_
  refine j_perm (fl [nb x q (kf, tf, sl, bf, min (pn / 3) 5, cAt cs pn (nI pn - 1) - 48, 0), pb x g (cs, pn)]) (pm_b [1, 0] rfl rfl) ?_
  have hl := lp_begin (M := M) (k0 := 0) (n0 := 0) l x q g kf tf sl bf n d h cs pn hn (min (pn / 3) 5 + 1) 0 (by omega) (by omega)
  rw [mix_0, mix_0, mix_0, mix_0] at hl
  exact hl
end
section
/-! two houses that agree as far as there are lodgers; what is guessed; lectures -/
def eqN (u v : NS) : Prop := u.2.2.2.2 = v.2.2.2.2 ∧ ∀ i, i < nN u → u.1 i = v.1 i ∧ u.2.1 i = v.2.1 i ∧ u.2.2.1 i = v.2.2.1 i ∧ u.2.2.2.1 i = v.2.2.2.1 i
theorem eqN.rf (u : NS) : eqN u u := ⟨rfl, fun _ _ => ⟨rfl, rfl, rfl, rfl⟩⟩
theorem eqN.nE {u v : NS} (h : eqN u v) : nN u = nN v := congrArg (·.1) h.1
theorem eqN.symm {u v : NS} (h : eqN u v) : eqN v u := ⟨h.1.symm, fun i hi => by
  obtain ⟨a, b, c, d⟩ := h.2 i (by rw [h.nE]; exact hi)
  exact ⟨a.symm, b.symm, c.symm, d.symm⟩⟩
theorem eqN.trans {u v w : NS} (h : eqN u v) (g : eqN v w) : eqN u w := ⟨h.1.trans g.1, fun i hi => by
  obtain ⟨a, b, c, d⟩ := h.2 i hi
  obtain ⟨a', b', c', d'⟩ := g.2 i (by rw [← h.nE]; exact hi)
  exact ⟨a.trans a', b.trans b', c.trans c', d.trans d'⟩⟩
theorem may_cong {kf kf' : Nat → Int32} {sl sl' : Nat → Bool} {i : Nat} (h1 : kf i = kf' i) (h2 : sl i = sl' i) : may kf sl i = may kf' sl' i := by rw [may, may, h1, h2]
theorem wb_cong {kf tf kf' tf' : Nat → Int32} {sl sl' : Nat → Bool} : ∀ {n : Nat}, (∀ i, i < n → kf i = kf' i ∧ tf i = tf' i ∧ sl i = sl' i) → wb kf tf sl n = wb kf' tf' sl' n
  | 0, _ => rfl
  | n + 1, h => by
    have ih := wb_cong (n := n) (fun i hi => h i (by omega))
    obtain ⟨a, b, c⟩ := h n (by omega)
    rw [wb, wb, ← ih, may_cong a c]
    cases hw : wb kf tf sl n with
    | none => rfl
    | some j =>
      have hj := wb_lt hw
      obtain ⟨_, b', _⟩ := h j (by omega)
      simp only [b, b']
theorem eqN.wE {u v : NS} (h : eqN u v) : wbU u = wbU v := by
  obtain ⟨kf, tf, sl, bf, n, d, h'⟩ := u
  obtain ⟨kf2, tf2, sl2, bf2, n2, d2, h2⟩ := v
  obtain ⟨h1, h3⟩ := h
  cases h1
  exact wb_cong (fun i hi => ⟨(h3 i hi).1, (h3 i hi).2.1, (h3 i hi).2.2.1⟩)
theorem eqN_cpy (u w : NS) : eqN (cpy u w) u := by
  obtain ⟨kf, tf, sl, bf, n, d, h'⟩ := u
  obtain ⟨kf2, tf2, sl2, bf2, n2, d2, h2⟩ := w
  exact ⟨rfl, fun i hi => ⟨mix_in hi, mix_in hi, mix_in hi, mix_in hi⟩⟩
theorem upd_cong {f g : Nat → Int32} {i j : Nat} {v w : Int32} (h : f i = g i) (hv : v = w) : upd f j v i = upd g j w i := by
  by_cases e : i = j
  · subst e; simp [upd, hv]
  · simp [upd, e, h]
theorem bup_cong {f g : Nat → Bool} {i j : Nat} {v w : Bool} (h : f i = g i) (hv : v = w) : bup f j v i = bup g j w i := by
  by_cases e : i = j
  · subst e; simp [bup, hv]
  · simp [bup, e, h]
theorem eqN.pE {u v : NS} (h : eqN u v) : eqN (ph u) (ph v) := by
  obtain ⟨kf, tf, sl, bf, n, d, h'⟩ := u
  obtain ⟨kf2, tf2, sl2, bf2, n2, d2, h2⟩ := v
  have hw := h.wE
  obtain ⟨h1, h3⟩ := h
  cases h1
  have hw : wb kf tf sl n = wb kf2 tf2 sl2 n := hw
  refine ⟨(rfl : ((n, d, h' + 1) : Nat × Int32 × Int32) = (n, d, h' + 1)), fun i hi => ?_⟩
  have hi : i < n := hi
  obtain ⟨a, b, c, e⟩ := h3 i hi
  have a : kf i = kf2 i := a
  have b : tf i = tf2 i := b
  have c : sl i = sl2 i := c
  have e : bf i = bf2 i := e
  have t1 : pT1 tf d (wb kf tf sl n) i = pT1 tf2 d (wb kf2 tf2 sl2 n) i := by
    rw [← hw]
    cases ho : wb kf tf sl n with
    | none => exact b
    | some j => exact upd_cong b (by rw [show tf j = tf2 j from (h3 j (wb_lt ho)).2.1])
  have t2 : pX kf (pT1 tf d (wb kf tf sl n)) sl (h' + 1) (wb kf tf sl n) i = pX kf2 (pT1 tf2 d (wb kf2 tf2 sl2 n)) sl2 (h' + 1) (wb kf2 tf2 sl2 n) i := by
    rw [pX, pX, t1, a, c, ← hw]
  refine ⟨a, ?_, ?_, ?_⟩
  · show mix n _ _ i = mix n _ _ i
    rw [mix_in hi, mix_in hi, pT, pT, t2]
  · show mix n _ _ i = mix n _ _ i
    rw [mix_in hi, mix_in hi, pS, pS, t2, c]
  · show pB bf (wb kf tf sl n) i = pB bf2 (wb kf2 tf2 sl2 n) i
    rw [← hw]
    cases ho : wb kf tf sl n with
    | none => exact e
    | some j => exact upd_cong e (by rw [show bf j = bf2 j from (h3 j (wb_lt ho)).2.2.2])
theorem eqN.cE {u v : NS} (h : eqN u v) {j : Nat} (hj : j < nN u) : eqN (cof u j) (cof v j) := by
  obtain ⟨kf, tf, sl, bf, n, d, h'⟩ := u
  obtain ⟨kf2, tf2, sl2, bf2, n2, d2, h2⟩ := v
  obtain ⟨h1, h3⟩ := h
  cases h1
  refine ⟨(rfl : ((n, d, h') : Nat × Int32 × Int32) = (n, d, h')), fun i hi => ?_⟩
  obtain ⟨a, b, c, e⟩ := h3 i hi
  obtain ⟨a', b', c', e'⟩ := h3 j hj
  have b : tf i = tf2 i := b
  have b' : tf j = tf2 j := b'
  have c' : sl j = sl2 j := c'
  refine ⟨a, ?_, c, e⟩
  show (if sl j = true then tf else upd tf j (cT (tf j))) i = (if sl2 j = true then tf2 else upd tf2 j (cT (tf2 j))) i
  rw [← c']
  split
  · exact b
  · exact upd_cong b (by rw [b'])
theorem nN_lec (u : NS) (o : Option Nat) : nN (lec u o) = nN u := by
  obtain ⟨kf, tf, sl, bf, n, d, h'⟩ := u
  cases o with
  | none => rfl
  | some j => show nN (if sl j = true then _ else _) = _; split <;> rfl
theorem nN_cof (u : NS) (j : Nat) : nN (cof u j) = nN u := by obtain ⟨kf, tf, sl, bf, n, d, h'⟩ := u; rfl
theorem nN_wak (u : NS) (j : Nat) (v : Int32) : nN (wak u j v) = nN u := by obtain ⟨kf, tf, sl, bf, n, d, h'⟩ := u; rfl
theorem nN_cpy (u w : NS) : nN (cpy u w) = nN u := by obtain ⟨kf, tf, sl, bf, n, d, h'⟩ := u; obtain ⟨kf2, tf2, sl2, bf2, n2, d2, h2⟩ := w; rfl
theorem eqN.lE {u v : NS} (h : eqN u v) {o : Option Nat} (ho : ∀ j, o = some j → j < nN u) : eqN (lec u o) (lec v o) := by
  cases o with
  | none =>
    obtain ⟨kf, tf, sl, bf, n, d, h'⟩ := u
    obtain ⟨kf2, tf2, sl2, bf2, n2, d2, h2⟩ := v
    exact h
  | some j =>
    have hj := ho j rfl
    obtain ⟨kf, tf, sl, bf, n, d, h'⟩ := u
    obtain ⟨kf2, tf2, sl2, bf2, n2, d2, h2⟩ := v
    obtain ⟨h1, h3⟩ := h
    cases h1
    obtain ⟨a', b', c', e'⟩ := h3 j hj
    have b' : tf j = tf2 j := b'
    have c' : sl j = sl2 j := c'
    show eqN (if sl j = true then _ else _) (if sl2 j = true then _ else _)
    rw [← c']
    split
    · exact ⟨(rfl : ((n, d, h') : Nat × Int32 × Int32) = (n, d, h')), h3⟩
    · refine ⟨(rfl : ((n, d, h') : Nat × Int32 × Int32) = (n, d, h')), fun i hi => ?_⟩
      obtain ⟨a, b, c, e⟩ := h3 i hi
      exact ⟨a, upd_cong b (by rw [b']), bup_cong c (by rw [b', c']), e⟩
theorem eqN.kE {u v : NS} (h : eqN u v) (j : Nat) (t : Int32) : eqN (wak u j t) (wak v j t) := by
  obtain ⟨kf, tf, sl, bf, n, d, h'⟩ := u
  obtain ⟨kf2, tf2, sl2, bf2, n2, d2, h2⟩ := v
  obtain ⟨h1, h3⟩ := h
  cases h1
  refine ⟨(rfl : ((n, d, h') : Nat × Int32 × Int32) = (n, d, h')), fun i hi => ?_⟩
  obtain ⟨a, b, c, e⟩ := h3 i hi
  exact ⟨a, upd_cong b rfl, bup_cong c rfl, e⟩
theorem eqN.bE {u v : NS} {j : Nat} : ∀ {m : Nat}, eqN u v → kb m u j = kb m v j := by
  intro m
  induction m generalizing u v with
  | zero => intro h; rw [kb, kb, h.wE]
  | succ m ih => intro h; rw [kb, kb, h.wE, ih h.pE]
def hrs : Nat → NS → NS
  | 0, u => u
  | k + 1, u => ph (hrs k u)
theorem eqN.hE {u v : NS} (h : eqN u v) : ∀ k, eqN (hrs k u) (hrs k v)
  | 0 => h
  | k + 1 => (eqN.hE h k).pE
theorem nN_hrs (u : NS) : ∀ k, nN (hrs k u) = nN u
  | 0 => rfl
  | k + 1 => (nN_ph _).trans (nN_hrs u k)
/-- whose the bed is behind k hours, were one as tired as t -/
def bed (u : NS) (l t k : Nat) : Int32 := oI (wbU (hrs k (wak u l (nI t))))
theorem eqN.dE {u v : NS} (h : eqN u v) (l t k : Nat) : bed u l t k = bed v l t k := by
  rw [bed, bed, ((h.kE l (nI t)).hE k).wE]
/-- is all seen so far as the beds say, for k looks -/
def soB (v : SS) (b : Nat → Int32) : Nat → Bool
  | 0 => true
  | k + 1 => soB v b k && alr v.1 v.2.1 (nI k) (b k) v.2.2 0
def btF (so : Nat → Bool) : Nat → Int32
  | 0 => 0
  | t + 1 => if so t = true then btF so t ||| (1 <<< (nI t &&& 31)) else btF so t
def bitsU (u : NS) (v : SS) (l : Nat) : Int32 := btF (fun t => soB v (bed u l t) 13) 10
def lefB (bits : Int32) (B : Nat → Int32) (w : Int32) : Nat → Nat
  | 0 => 0
  | t + 1 => lefB bits B w t + (if (bits >>> (nI t &&& 31)) &&& 1 = 1 ∧ B t = w then 1 else 0)
theorem lefB_le (bits : Int32) (B : Nat → Int32) (w : Int32) : ∀ t, lefB bits B w t ≤ t
  | 0 => Nat.le_refl _
  | t + 1 => by
    have := lefB_le bits B w t
    unfold lefB
    split <;> omega
def oc (c : Nat) : Option Nat := match c with
  | 0 => none
  | c + 1 => some c
theorem oc_inc (c : Nat) : oI (oc c) + 1 = oI (oc (c + 1)) := by
  cases c with
  | zero => decide
  | succ c => exact nI_1 c
theorem oc_ge {c n : Nat} (hc : c < 2 ^ 31) (hn : n < 2 ^ 31) : nI n ≤ oI (oc c) ↔ n + 1 ≤ c := by
  cases c with
  | zero =>
    constructor
    · intro h
      have h1 : (nI n).toInt ≤ (-1 : Int32).toInt := Int32.le_iff_toInt_le.mp h
      rw [nI_toInt hn] at h1
      have : (-1 : Int32).toInt = -1 := by decide
      omega
    · intro h; omega
  | succ c => exact (nI_leI hn (by omega)).trans (by omega)
theorem oc_eq {c l : Nat} (hc : c < 2 ^ 31) (hl : l < 2 ^ 31) : oI (oc c) = nI l ↔ c = l + 1 := by
  cases c with
  | zero =>
    rw [eq_comm, oI_eq hl (fun j e => by cases e)]
    simp [oc]
  | succ c => exact (nI_eq (by omega) hl).trans (by omega)
/-- the most that are left behind a look, over whoever may have the bed: c of them gone through -/
def worB (bits : Int32) (B : Nat → Int32) : Nat → Nat
  | 0 => 0
  | c + 1 => max (worB bits B c) (lefB bits B (oI (oc c)) 10)
theorem worB_le (bits : Int32) (B : Nat → Int32) : ∀ c, worB bits B c ≤ 10
  | 0 => by simp [worB]
  | c + 1 => by
    have h1 := worB_le bits B c
    have h2 := lefB_le bits B (oI (oc c)) 10
    unfold worB
    omega
/-- best look so far and how few it leaves, from look k on -/
def lokS (bits : Int32) (B : Nat → Nat → Int32) (n : Nat) (k : Nat) (s : Int32 × Nat) : Int32 × Nat := if worB bits (fun t => B t k) (n + 1) < s.2 then (nI k, worB bits (fun t => B t k) (n + 1)) else s
def lokB (bits : Int32) (B : Nat → Nat → Int32) (n : Nat) : Int32 := if bits = 0 then -1 else (itr (lokS bits B n) 13 0 (-1, 11)).1
/-- lectures: f hours, for one -/
def lvS (val : Option Nat → Int32) (l : Nat) (c : Nat) (s : Int32 × Int32) : Int32 × Int32 := if c = l + 1 then s else if val (oc c) ≤ s.1 then s else (val (oc c), oI (oc c))
def mst : Nat → NS → Nat → Int32 × Int32
  | 0, _, _ => (0, -1)
  | f + 1, u, l => itr (lvS (fun o => bI (wbU (lec u o) == some l) + (mst f (ph (lec u o)) l).1) l) (nN u + 1) 0 (-1, -1)
theorem itr_cong {σ : Type} {f g : Nat → σ → σ} : ∀ (c b : Nat) (s : σ), (∀ i s, b ≤ i → i < b + c → f i s = g i s) → itr f c b s = itr g c b s
  | 0, _, _, _ => rfl
  | c + 1, b, s, h => by
    rw [itr, itr, h b s (Nat.le_refl _) (by omega)]
    exact itr_cong c (b + 1) _ (fun i s h1 h2 => h i s (by omega) (by omega))
theorem lvS_cong {v w : Option Nat → Int32} {l c : Nat} {s : Int32 × Int32} (h : v (oc c) = w (oc c)) : lvS v l c s = lvS w l c s := by rw [lvS, lvS, h]
theorem oc_lt {c n j : Nat} (h : c < n + 1) (e : oc c = some j) : j < n := by
  cases c with
  | zero => cases e
  | succ c => cases e; omega
theorem eqN.mE : ∀ (f : Nat) {u v : NS} (l : Nat), eqN u v → mst f u l = mst f v l
  | 0, _, _, _, _ => rfl
  | f + 1, u, v, l, h => by
    rw [mst, mst, h.nE]
    refine itr_cong _ _ _ (fun i s h1 h2 => lvS_cong ?_)
    have hl := h.lE (o := oc i) (fun j e => by have := oc_lt (n := nN v) (by omega) e; rw [h.nE]; exact this)
    show bI (wbU (lec u (oc i)) == some l) + (_ : Int32 × Int32).1 = bI (wbU (lec v (oc i)) == some l) + (_ : Int32 × Int32).1
    rw [hl.wE, eqN.mE f l hl.pE]
end
section
/-! Night's contracts, its state in one -/
def nD (u : NS) : Int32 := u.2.2.2.2.2.1
def nH (u : NS) : Int32 := u.2.2.2.2.2.2
def togU (u : NS) (a b : Nat) : Nat := tog u.1 u.2.1 (nH u) a b
section
variable (l : Launch) (x : Cx) (q : Nat → Nat) (u : NS)
theorem uX2_lodgers : MC l x 0 0 0 yX2_lodgers cX2_lodgers 1 (some .int) [.ref (q 0)] (nb x q u) (eI (nI (nN u)) (nb x q u)) := by obtain ⟨kf, tf, sl, bf, n, d, h⟩ := u; exact tX2_lodgers l x q kf tf sl bf n d h
theorem uX2_drowse : MC l x 0 0 0 yX2_drowse cX2_drowse 1 (some .int) [.ref (q 0)] (nb x q u) (eI (nD u) (nb x q u)) := by obtain ⟨kf, tf, sl, bf, n, d, h⟩ := u; exact tX2_drowse l x q kf tf sl bf n d h
theorem uX2_hoursPassed : MC l x 0 0 0 yX2_hoursPassed cX2_hoursPassed 1 (some .int) [.ref (q 0)] (nb x q u) (eI (nH u) (nb x q u)) := by obtain ⟨kf, tf, sl, bf, n, d, h⟩ := u; exact tX2_hoursPassed l x q kf tf sl bf n d h
theorem uX2_knows (a : Int32) : MC l x 0 0 0 yX2_knows cX2_knows 2 (some .boolean) [.ref (q 0), .int a] (nb x q u) (eI (bI (kn (nN u) a)) (nb x q u)) := by obtain ⟨kf, tf, sl, bf, n, d, h⟩ := u; exact tX2_knows l x q kf tf sl bf n d h a
theorem uX2_kindOf (hn : nN u ≤ 5) (j : Nat) (hj : j < nN u) : MC l x 1 0 0 yX2_kindOf cX2_kindOf 2 (some .int) [.ref (q 0), .int (nI j)] (nb x q u) (eI (u.1 j) (nb x q u)) := by obtain ⟨kf, tf, sl, bf, n, d, h⟩ := u; exact tX2_kindOf l x q kf tf sl bf n d h hn j hj
theorem uX2_tiredOf (hn : nN u ≤ 5) (j : Nat) (hj : j < nN u) : MC l x 1 0 0 yX2_tiredOf cX2_tiredOf 2 (some .int) [.ref (q 0), .int (nI j)] (nb x q u) (eI (u.2.1 j) (nb x q u)) := by obtain ⟨kf, tf, sl, bf, n, d, h⟩ := u; exact tX2_tiredOf l x q kf tf sl bf n d h hn j hj
theorem uX2_bedHoursOf (hn : nN u ≤ 5) (j : Nat) (hj : j < nN u) : MC l x 1 0 0 yX2_bedHoursOf cX2_bedHoursOf 2 (some .int) [.ref (q 0), .int (nI j)] (nb x q u) (eI (u.2.2.2.1 j) (nb x q u)) := by obtain ⟨kf, tf, sl, bf, n, d, h⟩ := u; exact tX2_bedHoursOf l x q kf tf sl bf n d h hn j hj
theorem uX2_sleeps (hn : nN u ≤ 5) (j : Nat) (hj : j < nN u) : MC l x 1 0 0 yX2_sleeps cX2_sleeps 2 (some .boolean) [.ref (q 0), .int (nI j)] (nb x q u) (eI (bI (u.2.2.1 j)) (nb x q u)) := by obtain ⟨kf, tf, sl, bf, n, d, h⟩ := u; exact tX2_sleeps l x q kf tf sl bf n d h hn j hj
theorem uX2_sleepers (hn : nN u ≤ 5) : MC l x 0 0 0 yX2_sleepers cX2_sleepers 3 (some .int) [.ref (q 0)] (nb x q u) (eI (nI (cntS u.2.2.1 (nN u))) (nb x q u)) := by obtain ⟨kf, tf, sl, bf, n, d, h⟩ := u; exact tX2_sleepers l x q kf tf sl bf n d h hn
theorem uX2_tiredTogether (hn : nN u ≤ 5) : MC l x 0 0 0 yX2_tiredTogether cX2_tiredTogether 3 (some .int) [.ref (q 0)] (nb x q u) (eI (sumT u.2.1 (nN u)) (nb x q u)) := by obtain ⟨kf, tf, sl, bf, n, d, h⟩ := u; exact tX2_tiredTogether l x q kf tf sl bf n d h hn
theorem uX2_whoseBed (hn : nN u ≤ 5) : MC l x 1 0 0 yX2_whoseBed cX2_whoseBed 3 (some .int) [.ref (q 0)] (nb x q u) (eI (oI (wbU u)) (nb x q u)) := by obtain ⟨kf, tf, sl, bf, n, d, h⟩ := u; exact tX2_whoseBed l x q kf tf sl bf n d h hn
theorem uX2_giveCoffee (hn : nN u ≤ 5) (j : Nat) (hj : j < nN u) : MC l x 1 0 0 yX2_giveCoffee cX2_giveCoffee 2 none [.ref (q 0), .int (nI j)] (nb x q u) (eV (nb x q (cof u j))) := by obtain ⟨kf, tf, sl, bf, n, d, h⟩ := u; exact tX2_giveCoffee l x q kf tf sl bf n d h hn j hj
theorem uX2_giveLecture (hn : nN u ≤ 5) (o : Option Nat) (ho : ∀ j, o = some j → j < nN u) : MC l x 2 0 0 yX2_giveLecture cX2_giveLecture 2 none [.ref (q 0), .int (oI o)] (nb x q u) (eV (nb x q (lec u o))) := by obtain ⟨kf, tf, sl, bf, n, d, h⟩ := u; exact tX2_giveLecture l x q kf tf sl bf n d h hn o ho
theorem uX2_passHour (hn : nN u ≤ 5) : MC l x 2 0 0 yX2_passHour cX2_passHour 3 none [.ref (q 0)] (nb x q u) (eV (nb x q (ph u))) := by obtain ⟨kf, tf, sl, bf, n, d, h⟩ := u; exact tX2_passHour l x q kf tf sl bf n d h hn
theorem uX2_wakeAs (hn : nN u ≤ 5) (j : Nat) (hj : j < nN u) (v : Int32) : MC l x 1 0 0 yX2_wakeAs cX2_wakeAs 3 none [.ref (q 0), .int (nI j), .int v] (nb x q u) (eV (nb x q (wak u j v))) := by obtain ⟨kf, tf, sl, bf, n, d, h⟩ := u; exact tX2_wakeAs l x q kf tf sl bf n d h hn j hj v
theorem uX2_keepsBed (hn : nN u ≤ 5) (j : Nat) (hj : j < 5) (hh : Nat) (h1 : 1 ≤ hh) (hh6 : hh ≤ 6) : MC l x 3 0 0 yX2_keepsBed cX2_keepsBed 4 (some .boolean) [.ref (q 0), .int (nI j), .int (nI hh)] (nb x q u) (eX (bI (kb (hh - 1) u j)) (anyN x q)) := by obtain ⟨kf, tf, sl, bf, n, d, h⟩ := u; exact tX2_keepsBed l x q kf tf sl bf n d h hn j hj hh h1 hh6
theorem uX2_hoursTogether (hn : nN u ≤ 5) (a b : Nat) (ha : a < nN u) (hb : b < nN u) : MC l x 3 0 0 yX2_hoursTogether cX2_hoursTogether 3 (some .int) [.ref (q 0), .int (nI a), .int (nI b)] (nb x q u) (eI (nI (togU u a b)) (nb x q u)) := by obtain ⟨kf, tf, sl, bf, n, d, h⟩ := u; exact tX2_hoursTogether l x q kf tf sl bf n d h hn a b ha hb
theorem uX2_mostWakefulPair (hn : nN u ≤ 5) : MC l x 4 0 0 yX2_mostWakefulPair cX2_mostWakefulPair 5 (some .int) [.ref (q 0)] (nb x q u) (eI (prU u).1 (nb x q u)) := by obtain ⟨kf, tf, sl, bf, n, d, h⟩ := u; exact tX2_mostWakefulPair l x q kf tf sl bf n d h hn
theorem uX2_copyFrom (q2 : Nat → Nat) (w : NS) (hn : nN w ≤ 5) : MC l x 0 0 0 yX2_copyFrom cX2_copyFrom 3 none [.ref (q 0), .ref (q2 0)] (nb x q u ++ nb x q2 w) (eV (nb x q (cpy w u) ++ nb x q2 w)) := by
  obtain ⟨kf, tf, sl, bf, n, d, h⟩ := u
  obtain ⟨kf2, tf2, sl2, bf2, n2, d2, h2⟩ := w
  exact tX2_copyFrom l x q q2 kf tf sl bf n d h kf2 tf2 sl2 bf2 n2 d2 h2 hn
theorem uX2_begin (g : Nat → Nat) (pg : PG) (hn : pg.2 ≤ 18) : MC l x 3 0 0 yX2_begin cX2_begin 3 none [.ref (q 0), .ref (g 0)] (fl [nb x q u, pb x g pg]) (eV (fl [nb x q (bgn pg u), pb x g pg])) := by
  obtain ⟨kf, tf, sl, bf, n, d, h⟩ := u
  obtain ⟨cs, pn⟩ := pg
  exact tX2_begin l x q g kf tf sl bf n d h cs pn hn
end
section
variable (l : Launch) (x : Cx) (q : Nat → Nat) (g : PG)
theorem uX3_length (hn : g.2 ≤ 18) : MC l x 0 0 0 yX3_length cX3_length 1 (some .int) [.ref (q 0)] (pb x q g) (eI (nI g.2) (pb x q g)) := by obtain ⟨cs, n⟩ := g; exact tX3_length l x q cs n hn
theorem uX3_codeAt (hn : g.2 ≤ 18) (p : Int32) : MC l x 0 0 0 yX3_codeAt cX3_codeAt 2 (some .int) [.ref (q 0), .int p] (pb x q g) (eI (cAt g.1 g.2 p) (pb x q g)) := by obtain ⟨cs, n⟩ := g; exact tX3_codeAt l x q cs n hn p
theorem uX3_put (hn : g.2 < 18) (c : Int32) : MC l x 0 0 0 yX3_put cX3_put 2 (some .int) [.ref (q 0), .int c] (pb x q g) (eI (nI (g.2 + 1)) (pb x q (upd g.1 g.2 c, g.2 + 1))) := by obtain ⟨cs, n⟩ := g; exact tX3_put l x q cs n hn c
theorem uX3_empty (hn : g.2 ≤ 18) : MC l x 0 0 0 yX3_empty cX3_empty 2 (some .int) [.ref (q 0)] (pb x q g) (eI (nI g.2) (pb x q (g.1, 0))) := by obtain ⟨cs, n⟩ := g; exact tX3_empty l x q cs n hn
theorem uX3_firstFault (hn : g.2 ≤ 18) : MC l x 2 0 0 yX3_firstFault cX3_firstFault 2 (some .int) [.ref (q 0)] (pb x q g) (eI (nI (ffr g.1 g.2 g.2 0)) (pb x q g)) := by obtain ⟨cs, n⟩ := g; exact tX3_firstFault l x q cs n hn
theorem uX3_isHouse (hn : g.2 ≤ 18) : MC l x 3 0 0 yX3_isHouse cX3_isHouse 1 (some .boolean) [.ref (q 0)] (pb x q g) (eI (bI (isHB g.1 g.2)) (pb x q g)) := by obtain ⟨cs, n⟩ := g; exact tX3_isHouse l x q cs n hn
end
section
variable (l : Launch) (x : Cx) (q : Nat → Nat) (v : SS)
theorem uX4_size (hn : v.2.2 ≤ 6) : MC l x 0 0 0 yX4_size cX4_size 1 (some .int) [.ref (q 0)] (sb x q v) (eI (nI v.2.2) (sb x q v)) := by obtain ⟨hs, wh, n⟩ := v; exact tX4_size l x q hs wh n hn
theorem uX4_put (hn : v.2.2 < 6) (b w : Int32) : MC l x 0 0 0 yX4_put cX4_put 3 (some .int) [.ref (q 0), .int b, .int w] (sb x q v) (eI (nI (v.2.2 + 1)) (sb x q (upd v.1 v.2.2 b, upd v.2.1 v.2.2 w, v.2.2 + 1))) := by obtain ⟨hs, wh, n⟩ := v; exact tX4_put l x q hs wh n hn b w
theorem uX4_empty (hn : v.2.2 ≤ 6) : MC l x 0 0 0 yX4_empty cX4_empty 2 (some .int) [.ref (q 0)] (sb x q v) (eI (nI v.2.2) (sb x q (v.1, v.2.1, 0))) := by obtain ⟨hs, wh, n⟩ := v; exact tX4_empty l x q hs wh n hn
theorem uX4_allows (hn : v.2.2 ≤ 6) (b w : Int32) : MC l x 0 0 0 yX4_allows cX4_allows 4 (some .boolean) [.ref (q 0), .int b, .int w] (sb x q v) (eI (bI (alr v.1 v.2.1 b w v.2.2 0)) (sb x q v)) := by obtain ⟨hs, wh, n⟩ := v; exact tX4_allows l x q hs wh n hn b w
def scp (w v : SS) : SS := (mix w.2.2 w.1 v.1, mix w.2.2 w.2.1 v.2.1, w.2.2)
theorem uX4_copyFrom (q2 : Nat → Nat) (w : SS) (hn : w.2.2 ≤ 6) : MC l x 0 0 0 yX4_copyFrom cX4_copyFrom 3 none [.ref (q 0), .ref (q2 0)] (sb x q v ++ sb x q2 w) (eV (sb x q (scp w v) ++ sb x q2 w)) := by
  obtain ⟨hs, wh, n⟩ := v
  obtain ⟨hs2, wh2, n2⟩ := w
  exact tX4_copyFrom l x q q2 hs wh n hs2 wh2 n2 hn
end
/-! the Guess' cells: its object, the row of rows, ten rows of thirteen -/
def gb (x : Cx) (q w r : Nat → Nat) (g : Nat × Int32) : va_W := [(q 0, .inr (0, [.ref (w 0), .ref (q 1), .int (nI g.1), .int g.2])), (q 1, .inl (x.2.2.2.2.2, 10, .inr (.inr (.inr (.inr (fun i => if i < 10 then some (r i) else none))))))]
def rowsB (x : Cx) (r : Nat → Nat) (B : Nat → Nat → Int32) : va_W := (List.range 10).map (fun t => (r t, .inl (x.2.1, 13, .inl (B t))))
def up2 (B : Nat → Nat → Int32) (t : Nat) (f : Nat → Int32) : Nat → Nat → Int32 := fun s => if s = t then f else B s
theorem up2_s (B : Nat → Nat → Int32) (t : Nat) (f : Nat → Int32) : up2 B t f t = f := if_pos rfl
theorem up2_n {B : Nat → Nat → Int32} {t s : Nat} {f : Nat → Int32} (h : s ≠ t) : up2 B t f s = B s := if_neg h
theorem up2_up2 (B : Nat → Nat → Int32) (t : Nat) (f g : Nat → Int32) : up2 (up2 B t f) t g = up2 B t g := by
  funext s; by_cases e : s = t <;> simp [up2, e]
theorem up2_same {B : Nat → Nat → Int32} {t : Nat} : up2 B t (B t) = B := by
  funext s; by_cases e : s = t <;> simp [up2, e]
theorem rows_get {x : Cx} {r : Nat → Nat} {B : Nat → Nat → Int32} {t : Nat} (ht : t < 10) : (rowsB x r B)[t]? = some (r t, .inl (x.2.1, 13, .inl (B t))) := by
  rw [rowsB, List.getElem?_map, List.getElem?_range ht]; rfl
theorem rows_set {x : Cx} {r : Nat → Nat} {B : Nat → Nat → Int32} {t : Nat} {f : Nat → Int32} (ht : t < 10) : (rowsB x r B).set t (r t, .inl (x.2.1, 13, .inl f)) = rowsB x r (up2 B t f) := by
  apply List.ext_getElem?
  intro i
  by_cases e : i = t
  · subst e
    rw [List.getElem?_set_self (by rw [rowsB, List.length_map, List.length_range]; exact ht), rows_get ht, up2_s]
  · rw [List.getElem?_set_ne (fun h => e h.symm), rowsB, rowsB, List.getElem?_map, List.getElem?_map]
    by_cases h : i < 10
    · rw [List.getElem?_range h]
      simp [up2, e]
    · rw [List.getElem?_eq_none (by rw [List.length_range]; omega)]; rfl
theorem fr_get {x : Cx} {q w r : Nat → Nat} {g : Nat × Int32} {B : Nat → Nat → Int32} {bs : List va_W} {t : Nat} (ht : t < 10) : (fl (gb x q w r g :: rowsB x r B :: bs))[t + 2]? = some (r t, .inl (x.2.1, 13, .inl (B t))) := by
  show (rowsB x r B ++ fl bs)[t]? = _
  rw [List.getElem?_append_left (by rw [rowsB, List.length_map, List.length_range]; exact ht), rows_get ht]
theorem fr_set {x : Cx} {q w r : Nat → Nat} {g : Nat × Int32} {B : Nat → Nat → Int32} {bs : List va_W} {t : Nat} {f : Nat → Int32} (ht : t < 10) : (fl (gb x q w r g :: rowsB x r B :: bs)).set (t + 2) (r t, .inl (x.2.1, 13, .inl f)) = fl (gb x q w r g :: rowsB x r (up2 B t f) :: bs) := by
  have h : (rowsB x r B ++ fl bs).set t (r t, .inl (x.2.1, 13, .inl f)) = rowsB x r (up2 B t f) ++ fl bs := by
    rw [List.set_append_left t _ (by rw [rowsB, List.length_map, List.length_range]; exact ht), rows_set ht]
  exact congrArg (fun L => gb x q w r g ++ L) h
end
section
theorem hrs_s {k : Nat} {u : NS} (h : 0 < k) : ph (hrs (k - 1) u) = hrs k u := by
  cases k with
  | zero => omega
  | succ k => rfl
theorem mmax_nI {a b : Nat} (ha : a < 2 ^ 31) (hb : b < 2 ^ 31) : (if nI a < nI b then nI b else nI a) = nI (max a b) := by
  by_cases h : a < b
  · rw [if_pos ((nI_ltI ha hb).mpr h), Nat.max_eq_right (by omega)]
  · rw [if_neg (fun q => h ((nI_ltI ha hb).mp q)), Nat.max_eq_left (by omega)]
theorem nI_le0 {k : Nat} (hk : k < 2 ^ 31) (h : nI k ≤ 0) : k = 0 := by
  have := (nI_leI (a := k) (b := 0) hk (by decide)).mp h
  omega
theorem nI_gt0 {k : Nat} (h : ¬ nI k ≤ 0) : 0 < k := by
  rcases Nat.eq_zero_or_pos k with e | e
  · subst e; exact absurd (by decide) h
  · exact e
def lb (x : Cx) (q : Nat → Nat) (a : Nat → Nat → Nat) (p : Int32 × Int32) : va_W := [(q 0, .inr (1, [.ref (q 1), .int p.1, .int p.2])), (q 1, .inl (x.2.2.2.2.1, 3, .inr (.inr (.inr (.inr (fun i => if i < 3 then some (a i 0) else none))))))]
theorem val_eq (f : Nat) (u w : NS) (o : Option Nat) (L : Nat) (ho : ∀ j, o = some j → j < nN u) {b : Bool} (hb : (wbU (lec (cpy u w) o) == some L) = b) : bI b + (mst f (ph (lec (cpy u w) o)) L).1 = bI (wbU (lec u o) == some L) + (mst f (ph (lec u o)) L).1 := by
  have h := (eqN_cpy u w).lE (o := o) (fun j e => by rw [nN_cpy]; exact ho j e)
  rw [← hb, h.wE, h.pE.mE f L]
end
section
set_option maxHeartbeats 4000000 in
set_option maxRecDepth 100000 in
theorem lp_isAsSeen {M : Mx} (l : Launch) (x : Cx) (q w r s : Nat → Nat) (n : Nat) (bits : Int32) (B : Nat → Nat → Int32) (u : NS) (hu : nN u ≤ 5) (v : SS) (hv : v.2.2 ≤ 6) (t : Nat) (ht : t < 10) (bd : Nat → Int32) (hbd : ∀ i, oI (wbU (hrs i u)) = bd i) {k0 n0 : Nat}  : ∀ (m : Nat) (k : Nat), k ≤ 13 → 13 - k < m → J M l x cX0_isAsSeen 5 yX0_isAsSeen 3 (eX (bI (soB v bd 13)) (fun ws => ∃ u' : NS, nN u' ≤ 5 ∧ ws = fl [gb x q w r (n, bits), rowsB x r (up2 B t (mix 13 bd (B t))), nb x w u', sb x s v])) k0 n0 5 [(0, .ref (q 0)), (1, .ref (s 0)), (2, .int (nI t)), (3, .int (bI (soB v bd k))), (4, .int (nI k))] [] (fl [gb x q w r (n, bits), rowsB x r (up2 B t (mix k bd (B t))), nb x w (hrs (k - 1) u), sb x s v]) := by
  intro m; induction m with
  | zero => intro k hc0 hm; exact absurd hm (Nat.not_lt_zero _)
  | succ m ih =>
    intro k hc0 hm
    refine j_iload 4 dX0_isAsSeen_5 rfl ?_
    refine j_bipush (v := 13) dX0_isAsSeen_7 (by decide) ?_
    refine j_icmpN_ge (a := k) (b := 13) (by omega) (by omega) (tgt := 74) dX0_isAsSeen_9 (by decide) (fun h9 => ?_) (fun h9 => ?_)
    · skip
      refine j_iload_n 3 dX0_isAsSeen_74 rfl rfl ?_
      exact j_iret _ dX0_isAsSeen_75 (List.Perm.refl _) ⟨by rw [show k = 13 by omega], hrs (k - 1) u, by rw [nN_hrs]; exact hu, by rw [show k = 13 by omega]⟩
    · skip
      refine j_iload 4 dX0_isAsSeen_12 rfl ?_
      refine j_if_le (tgt := 24) dX0_isAsSeen_14 (by decide) (fun h14 => ?_) (fun h14 => ?_)
      · skip
        have hk0 := nI_le0 (by omega) h14
        refine j_ws (ws' := fl [gb x q w r (n, bits), rowsB x r (up2 B t (mix k bd (B t))), nb x w (hrs k u), sb x s v]) (by rw [show k - 1 = k by omega]) ?_
        refine j_aload_n 0 dX0_isAsSeen_24 rfl rfl ?_
        refine j_get (v := .ref (q 1)) 0 dX0_isAsSeen_25 fX0_20 rfl rfl ?_
        refine j_iload_n 2 dX0_isAsSeen_28 rfl rfl ?_
        refine j_mald (b := r t) (f := fun i => if i < 10 then some (r i) else none) 1 dX0_isAsSeen_29 rfl (vp_in_nI ht (by decide)) (by rw [nI_clamp (by omega)]; exact if_pos ht) ?_
        refine j_iload 4 dX0_isAsSeen_30 rfl ?_
        refine j_aload_n 0 dX0_isAsSeen_32 rfl rfl ?_
        refine j_get (v := .ref (w 0)) 0 dX0_isAsSeen_33 fX0_12 rfl rfl ?_
        refine j_cVi (As := []) (rest := [.int (nI k), .ref (r t)]) (wr := fl [gb x q w r (n, bits), rowsB x r (up2 B t (mix k bd (B t))), sb x s v]) (ws' := fl [nb x w (hrs k u), gb x q w r (n, bits), rowsB x r (up2 B t (mix k bd (B t))), sb x s v]) (uX2_whoseBed l x w (hrs k u) (by (try simp only [nN_ph, nN_lec, nN_cpy, nN_cof, nN_wak, nN_hrs]); omega)) kX2_whoseBed 0 rfl rfl rfl vX0_52 dX0_isAsSeen_36 (by decide) rfl rfl (Nat.le_of_ble_eq_true rfl) (pm_1 2 [0, 1, 3] rfl rfl rfl) rfl ?_
        refine j_topi (b := bd k) (hbd k) ?_
        refine j_perm (fl [gb x q w r (n, bits), rowsB x r (up2 B t (mix k bd (B t))), nb x w (hrs k u), sb x s v]) (pm_b [1, 2, 0, 3] rfl rfl) ?_
        refine j_iastN (i := k) (f := (up2 B t (mix k bd (B t))) t) (ws' := fl [gb x q w r (n, bits), rowsB x r (up2 (up2 B t (mix k bd (B t))) t (upd ((up2 B t (mix k bd (B t))) t) k (bd k))), nb x w (hrs k u), sb x s v]) (t + 2) dX0_isAsSeen_39 (fr_get ht) (by omega) (by decide) (fr_set ht) ?_
        refine j_ws (ws' := fl [gb x q w r (n, bits), rowsB x r (up2 B t (mix (k + 1) bd (B t))), nb x w (hrs k u), sb x s v]) (by rw [up2_s, up2_up2, mix_upd _ _ _ rfl]) ?_
        refine j_iload_n 3 dX0_isAsSeen_40 rfl rfl ?_
        refine j_ifb_eq (b := soB v bd k) (tgt := 66) dX0_isAsSeen_41 (by decide) (fun h41 => ?_) (fun h41 => ?_)
        · skip
          refine j_iconst (v := bI false) dX0_isAsSeen_66 (by decide) ?_
          refine j_istore_n (lv' := [(3, .int (bI false)), (0, .ref (q 0)), (1, .ref (s 0)), (2, .int (nI t)), (4, .int (nI k))]) dX0_isAsSeen_67 rfl (by decide) rfl ?_
          refine j_iinc (v := nI (k + 1)) (lv' := [(4, .int (nI (k + 1))), (3, .int (bI false)), (0, .ref (q 0)), (1, .ref (s 0)), (2, .int (nI t))]) 4 dX0_isAsSeen_68 rfl (nI_1 k) (by decide) rfl ?_
          refine j_goto (tgt := 5) dX0_isAsSeen_71 (by decide) ?_
          refine j_lv [2, 3, 4, 1, 0] (lv' := [(0, .ref (q 0)), (1, .ref (s 0)), (2, .int (nI t)), (3, .int (bI false)), (4, .int (nI (k + 1)))]) rfl ?_
          refine j_lve (lv' := [(0, .ref (q 0)), (1, .ref (s 0)), (2, .int (nI t)), (3, .int (bI (soB v bd (k + 1)))), (4, .int (nI (k + 1)))]) (by first | (simp [soB, h41, h59]; done) | (simp [soB, h41]; done)) ?_
          exact ih (k + 1) (by omega) (by omega)
        · skip
          refine j_aload_n 1 dX0_isAsSeen_44 rfl rfl ?_
          refine j_iload 4 dX0_isAsSeen_45 rfl ?_
          refine j_aload_n 0 dX0_isAsSeen_47 rfl rfl ?_
          refine j_get (v := .ref (q 1)) 0 dX0_isAsSeen_48 fX0_20 rfl rfl ?_
          refine j_iload_n 2 dX0_isAsSeen_51 rfl rfl ?_
          refine j_mald (b := r t) (f := fun i => if i < 10 then some (r i) else none) 1 dX0_isAsSeen_52 rfl (vp_in_nI ht (by decide)) (by rw [nI_clamp (by omega)]; exact if_pos ht) ?_
          refine j_iload 4 dX0_isAsSeen_53 rfl ?_
          refine j_ialdN (i := k) (f := (up2 B t (mix (k + 1) bd (B t))) t) (t + 2) dX0_isAsSeen_55 (fr_get ht) (by omega) (by decide) ?_
          refine j_topi (b := bd k) (by rw [up2_s, mix_in (by omega)]) ?_
          refine j_cVi (As := [.int (nI k), .int (bd k)]) (rest := []) (wr := fl [gb x q w r (n, bits), rowsB x r (up2 B t (mix (k + 1) bd (B t))), nb x w (hrs k u)]) (ws' := fl [sb x s v, gb x q w r (n, bits), rowsB x r (up2 B t (mix (k + 1) bd (B t))), nb x w (hrs k u)]) (uX4_allows l x s v (by omega) (nI k) (bd k)) kX4_allows 0 rfl rfl rfl vX0_55 dX0_isAsSeen_56 (by decide) rfl rfl (Nat.le_of_ble_eq_true rfl) (pm_1 3 [0, 1, 2] rfl rfl rfl) rfl ?_
          refine j_ifb_eq (b := alr v.1 v.2.1 (nI k) (bd k) v.2.2 0) (tgt := 66) dX0_isAsSeen_59 (by decide) (fun h59 => ?_) (fun h59 => ?_)
          · skip
            refine j_iconst (v := bI false) dX0_isAsSeen_66 (by decide) ?_
            refine j_istore_n (lv' := [(3, .int (bI false)), (0, .ref (q 0)), (1, .ref (s 0)), (2, .int (nI t)), (4, .int (nI k))]) dX0_isAsSeen_67 rfl (by decide) rfl ?_
            refine j_iinc (v := nI (k + 1)) (lv' := [(4, .int (nI (k + 1))), (3, .int (bI false)), (0, .ref (q 0)), (1, .ref (s 0)), (2, .int (nI t))]) 4 dX0_isAsSeen_68 rfl (nI_1 k) (by decide) rfl ?_
            refine j_goto (tgt := 5) dX0_isAsSeen_71 (by decide) ?_
            refine j_lv [2, 3, 4, 1, 0] (lv' := [(0, .ref (q 0)), (1, .ref (s 0)), (2, .int (nI t)), (3, .int (bI false)), (4, .int (nI (k + 1)))]) rfl ?_
            refine j_perm (fl [gb x q w r (n, bits), rowsB x r (up2 B t (mix (k + 1) bd (B t))), nb x w (hrs k u), sb x s v]) (pm_b [1, 2, 3, 0] rfl rfl) ?_
            refine j_lve (lv' := [(0, .ref (q 0)), (1, .ref (s 0)), (2, .int (nI t)), (3, .int (bI (soB v bd (k + 1)))), (4, .int (nI (k + 1)))]) (by first | (simp [soB, h41, h59]; done) | (simp [soB, h41]; done)) ?_
            exact ih (k + 1) (by omega) (by omega)
          · skip
            refine j_iconst (v := bI true) dX0_isAsSeen_62 (by decide) ?_
            refine j_goto (tgt := 67) dX0_isAsSeen_63 (by decide) ?_
            refine j_istore_n (lv' := [(3, .int (bI true)), (0, .ref (q 0)), (1, .ref (s 0)), (2, .int (nI t)), (4, .int (nI k))]) dX0_isAsSeen_67 rfl (by decide) rfl ?_
            refine j_iinc (v := nI (k + 1)) (lv' := [(4, .int (nI (k + 1))), (3, .int (bI true)), (0, .ref (q 0)), (1, .ref (s 0)), (2, .int (nI t))]) 4 dX0_isAsSeen_68 rfl (nI_1 k) (by decide) rfl ?_
            refine j_goto (tgt := 5) dX0_isAsSeen_71 (by decide) ?_
            refine j_lv [2, 3, 4, 1, 0] (lv' := [(0, .ref (q 0)), (1, .ref (s 0)), (2, .int (nI t)), (3, .int (bI true)), (4, .int (nI (k + 1)))]) rfl ?_
            refine j_perm (fl [gb x q w r (n, bits), rowsB x r (up2 B t (mix (k + 1) bd (B t))), nb x w (hrs k u), sb x s v]) (pm_b [1, 2, 3, 0] rfl rfl) ?_
            refine j_lve (lv' := [(0, .ref (q 0)), (1, .ref (s 0)), (2, .int (nI t)), (3, .int (bI (soB v bd (k + 1)))), (4, .int (nI (k + 1)))]) (by first | (simp [soB, h41, h59]; done) | (simp [soB, h41]; done)) ?_
            exact ih (k + 1) (by omega) (by omega)
      · skip
        have hk0 := nI_gt0 h14
        refine j_aload_n 0 dX0_isAsSeen_17 rfl rfl ?_
        refine j_get (v := .ref (w 0)) 0 dX0_isAsSeen_18 fX0_12 rfl rfl ?_
        refine j_cVv (As := []) (rest := []) (wr := fl [gb x q w r (n, bits), rowsB x r (up2 B t (mix k bd (B t))), sb x s v]) (ws' := fl [nb x w (ph (hrs (k - 1) u)), gb x q w r (n, bits), rowsB x r (up2 B t (mix k bd (B t))), sb x s v]) (uX2_passHour l x w (hrs (k - 1) u) (by (try simp only [nN_ph, nN_lec, nN_cpy, nN_cof, nN_wak, nN_hrs]); omega)) kX2_passHour 0 rfl rfl rfl vX0_49 dX0_isAsSeen_21 (by decide) rfl rfl (Nat.le_of_ble_eq_true rfl) (pm_1 2 [0, 1, 3] rfl rfl rfl) rfl ?_
        refine j_ws (ws' := fl [nb x w (hrs k u), gb x q w r (n, bits), rowsB x r (up2 B t (mix k bd (B t))), sb x s v]) (by rw [hrs_s hk0]) ?_
        refine j_aload_n 0 dX0_isAsSeen_24 rfl rfl ?_
        refine j_get (v := .ref (q 1)) 5 dX0_isAsSeen_25 fX0_20 rfl rfl ?_
        refine j_iload_n 2 dX0_isAsSeen_28 rfl rfl ?_
        refine j_mald (b := r t) (f := fun i => if i < 10 then some (r i) else none) 6 dX0_isAsSeen_29 rfl (vp_in_nI ht (by decide)) (by rw [nI_clamp (by omega)]; exact if_pos ht) ?_
        refine j_iload 4 dX0_isAsSeen_30 rfl ?_
        refine j_aload_n 0 dX0_isAsSeen_32 rfl rfl ?_
        refine j_get (v := .ref (w 0)) 5 dX0_isAsSeen_33 fX0_12 rfl rfl ?_
        refine j_cVi (As := []) (rest := [.int (nI k), .ref (r t)]) (wr := fl [gb x q w r (n, bits), rowsB x r (up2 B t (mix k bd (B t))), sb x s v]) (ws' := fl [nb x w (hrs k u), gb x q w r (n, bits), rowsB x r (up2 B t (mix k bd (B t))), sb x s v]) (uX2_whoseBed l x w (hrs k u) (by (try simp only [nN_ph, nN_lec, nN_cpy, nN_cof, nN_wak, nN_hrs]); omega)) kX2_whoseBed 0 rfl rfl rfl vX0_52 dX0_isAsSeen_36 (by decide) rfl rfl (Nat.le_of_ble_eq_true rfl) (pm_1 0 [1, 2, 3] rfl rfl rfl) rfl ?_
        refine j_topi (b := bd k) (hbd k) ?_
        refine j_perm (fl [gb x q w r (n, bits), rowsB x r (up2 B t (mix k bd (B t))), nb x w (hrs k u), sb x s v]) (pm_b [1, 2, 0, 3] rfl rfl) ?_
        refine j_iastN (i := k) (f := (up2 B t (mix k bd (B t))) t) (ws' := fl [gb x q w r (n, bits), rowsB x r (up2 (up2 B t (mix k bd (B t))) t (upd ((up2 B t (mix k bd (B t))) t) k (bd k))), nb x w (hrs k u), sb x s v]) (t + 2) dX0_isAsSeen_39 (fr_get ht) (by omega) (by decide) (fr_set ht) ?_
        refine j_ws (ws' := fl [gb x q w r (n, bits), rowsB x r (up2 B t (mix (k + 1) bd (B t))), nb x w (hrs k u), sb x s v]) (by rw [up2_s, up2_up2, mix_upd _ _ _ rfl]) ?_
        refine j_iload_n 3 dX0_isAsSeen_40 rfl rfl ?_
        refine j_ifb_eq (b := soB v bd k) (tgt := 66) dX0_isAsSeen_41 (by decide) (fun h41 => ?_) (fun h41 => ?_)
        · skip
          refine j_iconst (v := bI false) dX0_isAsSeen_66 (by decide) ?_
          refine j_istore_n (lv' := [(3, .int (bI false)), (0, .ref (q 0)), (1, .ref (s 0)), (2, .int (nI t)), (4, .int (nI k))]) dX0_isAsSeen_67 rfl (by decide) rfl ?_
          refine j_iinc (v := nI (k + 1)) (lv' := [(4, .int (nI (k + 1))), (3, .int (bI false)), (0, .ref (q 0)), (1, .ref (s 0)), (2, .int (nI t))]) 4 dX0_isAsSeen_68 rfl (nI_1 k) (by decide) rfl ?_
          refine j_goto (tgt := 5) dX0_isAsSeen_71 (by decide) ?_
          refine j_lv [2, 3, 4, 1, 0] (lv' := [(0, .ref (q 0)), (1, .ref (s 0)), (2, .int (nI t)), (3, .int (bI false)), (4, .int (nI (k + 1)))]) rfl ?_
          refine j_lve (lv' := [(0, .ref (q 0)), (1, .ref (s 0)), (2, .int (nI t)), (3, .int (bI (soB v bd (k + 1)))), (4, .int (nI (k + 1)))]) (by first | (simp [soB, h41, h59]; done) | (simp [soB, h41]; done)) ?_
          exact ih (k + 1) (by omega) (by omega)
        · skip
          refine j_aload_n 1 dX0_isAsSeen_44 rfl rfl ?_
          refine j_iload 4 dX0_isAsSeen_45 rfl ?_
          refine j_aload_n 0 dX0_isAsSeen_47 rfl rfl ?_
          refine j_get (v := .ref (q 1)) 0 dX0_isAsSeen_48 fX0_20 rfl rfl ?_
          refine j_iload_n 2 dX0_isAsSeen_51 rfl rfl ?_
          refine j_mald (b := r t) (f := fun i => if i < 10 then some (r i) else none) 1 dX0_isAsSeen_52 rfl (vp_in_nI ht (by decide)) (by rw [nI_clamp (by omega)]; exact if_pos ht) ?_
          refine j_iload 4 dX0_isAsSeen_53 rfl ?_
          refine j_ialdN (i := k) (f := (up2 B t (mix (k + 1) bd (B t))) t) (t + 2) dX0_isAsSeen_55 (fr_get ht) (by omega) (by decide) ?_
          refine j_topi (b := bd k) (by rw [up2_s, mix_in (by omega)]) ?_
          refine j_cVi (As := [.int (nI k), .int (bd k)]) (rest := []) (wr := fl [gb x q w r (n, bits), rowsB x r (up2 B t (mix (k + 1) bd (B t))), nb x w (hrs k u)]) (ws' := fl [sb x s v, gb x q w r (n, bits), rowsB x r (up2 B t (mix (k + 1) bd (B t))), nb x w (hrs k u)]) (uX4_allows l x s v (by omega) (nI k) (bd k)) kX4_allows 0 rfl rfl rfl vX0_55 dX0_isAsSeen_56 (by decide) rfl rfl (Nat.le_of_ble_eq_true rfl) (pm_1 3 [0, 1, 2] rfl rfl rfl) rfl ?_
          refine j_ifb_eq (b := alr v.1 v.2.1 (nI k) (bd k) v.2.2 0) (tgt := 66) dX0_isAsSeen_59 (by decide) (fun h59 => ?_) (fun h59 => ?_)
          · skip
            refine j_iconst (v := bI false) dX0_isAsSeen_66 (by decide) ?_
            refine j_istore_n (lv' := [(3, .int (bI false)), (0, .ref (q 0)), (1, .ref (s 0)), (2, .int (nI t)), (4, .int (nI k))]) dX0_isAsSeen_67 rfl (by decide) rfl ?_
            refine j_iinc (v := nI (k + 1)) (lv' := [(4, .int (nI (k + 1))), (3, .int (bI false)), (0, .ref (q 0)), (1, .ref (s 0)), (2, .int (nI t))]) 4 dX0_isAsSeen_68 rfl (nI_1 k) (by decide) rfl ?_
            refine j_goto (tgt := 5) dX0_isAsSeen_71 (by decide) ?_
            refine j_lv [2, 3, 4, 1, 0] (lv' := [(0, .ref (q 0)), (1, .ref (s 0)), (2, .int (nI t)), (3, .int (bI false)), (4, .int (nI (k + 1)))]) rfl ?_
            refine j_perm (fl [gb x q w r (n, bits), rowsB x r (up2 B t (mix (k + 1) bd (B t))), nb x w (hrs k u), sb x s v]) (pm_b [1, 2, 3, 0] rfl rfl) ?_
            refine j_lve (lv' := [(0, .ref (q 0)), (1, .ref (s 0)), (2, .int (nI t)), (3, .int (bI (soB v bd (k + 1)))), (4, .int (nI (k + 1)))]) (by first | (simp [soB, h41, h59]; done) | (simp [soB, h41]; done)) ?_
            exact ih (k + 1) (by omega) (by omega)
          · skip
            refine j_iconst (v := bI true) dX0_isAsSeen_62 (by decide) ?_
            refine j_goto (tgt := 67) dX0_isAsSeen_63 (by decide) ?_
            refine j_istore_n (lv' := [(3, .int (bI true)), (0, .ref (q 0)), (1, .ref (s 0)), (2, .int (nI t)), (4, .int (nI k))]) dX0_isAsSeen_67 rfl (by decide) rfl ?_
            refine j_iinc (v := nI (k + 1)) (lv' := [(4, .int (nI (k + 1))), (3, .int (bI true)), (0, .ref (q 0)), (1, .ref (s 0)), (2, .int (nI t))]) 4 dX0_isAsSeen_68 rfl (nI_1 k) (by decide) rfl ?_
            refine j_goto (tgt := 5) dX0_isAsSeen_71 (by decide) ?_
            refine j_lv [2, 3, 4, 1, 0] (lv' := [(0, .ref (q 0)), (1, .ref (s 0)), (2, .int (nI t)), (3, .int (bI true)), (4, .int (nI (k + 1)))]) rfl ?_
            refine j_perm (fl [gb x q w r (n, bits), rowsB x r (up2 B t (mix (k + 1) bd (B t))), nb x w (hrs k u), sb x s v]) (pm_b [1, 2, 3, 0] rfl rfl) ?_
            refine j_lve (lv' := [(0, .ref (q 0)), (1, .ref (s 0)), (2, .int (nI t)), (3, .int (bI (soB v bd (k + 1)))), (4, .int (nI (k + 1)))]) (by first | (simp [soB, h41, h59]; done) | (simp [soB, h41]; done)) ?_
            exact ih (k + 1) (by omega) (by omega)
set_option maxHeartbeats 4000000 in
set_option maxRecDepth 100000 in
theorem tX0_isAsSeen (l : Launch) (x : Cx) (q w r s : Nat → Nat) (n : Nat) (bits : Int32) (B : Nat → Nat → Int32) (u : NS) (hu : nN u ≤ 5) (v : SS) (hv : v.2.2 ≤ 6) (t : Nat) (ht : t < 10) (bd : Nat → Int32) (hbd : ∀ i, oI (wbU (hrs i u)) = bd i) : MC l x 3 0 0 yX0_isAsSeen cX0_isAsSeen 5 (some .boolean) [.ref (q 0), .ref (s 0), .int (nI t)] (fl [gb x q w r (n, bits), rowsB x r B, nb x w u, sb x s v]) (eX (bI (soB v bd 13)) (fun ws => ∃ u' : NS, nN u' ≤ 5 ∧ ws = fl [gb x q w r (n, bits), rowsB x r (up2 B t (mix 13 bd (B t))), nb x w u', sb x s v])) := by
  refine MC.of (by decide) (Nat.le_of_ble_eq_true rfl) eXB_fit (fun M => ?_)
  show J M l x cX0_isAsSeen 5 yX0_isAsSeen 3 (eX (bI (soB v bd 13)) (fun ws => ∃ u' : NS, nN u' ≤ 5 ∧ ws = fl [gb x q w r (n, bits), rowsB x r (up2 B t (mix 13 bd (B t))), nb x w u', sb x s v])) 0 0 0 [(0, .ref (q 0)), (1, .ref (s 0)), (2, .int (nI t))] [] (fl [gb x q w r (n, bits), rowsB x r B, nb x w u, sb x s v])
  refine j_iconst (v := bI true) dX0_isAsSeen_0 (by decide) ?_
  refine j_istore_n (lv' := [(3, .int (bI true)), (0, .ref (q 0)), (1, .ref (s 0)), (2, .int (nI t))]) dX0_isAsSeen_1 rfl (by decide) rfl ?_
  refine j_iconst (v := nI 0) dX0_isAsSeen_2 (by decide) ?_
  refine j_istore (lv' := [(4, .int (nI 0)), (3, .int (bI true)), (0, .ref (q 0)), (1, .ref (s 0)), (2, .int (nI t))]) dX0_isAsSeen_3 (by decide) rfl ?_
  refine j_lv [2, 3, 4, 1, 0] (lv' := [(0, .ref (q 0)), (1, .ref (s 0)), (2, .int (nI t)), (3, .int (bI true)), (4, .int (nI 0))]) rfl ?_
  have hl := lp_isAsSeen (M := M) (k0 := 0) (n0 := 0) l x q w r s n bits B u hu v hv t ht bd hbd 14 0 (by omega) (by omega)
  rw [mix_0, up2_same] at hl
  exact hl
set_option maxHeartbeats 4000000 in
set_option maxRecDepth 100000 in
theorem lp_make {M : Mx} (l : Launch) (x : Cx) (q w r s o : Nat → Nat) (u : NS) (hu : nN u ≤ 5) (v : SS) (hv : v.2.2 ≤ 6) (L : Nat) (hL : L < nN u) {k0 n0 : Nat}  : ∀ (m : Nat) (t : Nat) (B : Nat → Nat → Int32) (wu : NS), t ≤ 10 → (∀ i, i < t → ∀ k, k < 13 → B i k = bed u L i k) → nN wu ≤ 5 → 10 - t < m → J M l x cX0_make 5 yX0_make 4 (fun v9 ws => v9 = none ∧ ∃ (B : Nat → Nat → Int32) (w' : NS), (∀ t, t < 10 → ∀ k, k < 13 → B t k = bed u L t k) ∧ nN w' ≤ 5 ∧ ws = fl [gb x q w r (nN u, bitsU u v L), rowsB x r B, nb x w w', nb x o u, sb x s v]) k0 n0 16 [(0, .ref (q 0)), (1, .ref (o 0)), (2, .ref (s 0)), (3, .int (nI L)), (4, .int (nI t))] [] (fl [gb x q w r (nN u, btF (fun t => soB v (bed u L t) 13) t), rowsB x r B, nb x w wu, nb x o u, sb x s v]) := by
  intro m; induction m with
  | zero => intro t B wu hc0 hc1 hc2 hm; exact absurd hm (Nat.not_lt_zero _)
  | succ m ih =>
    intro t B wu hc0 hc1 hc2 hm
    refine j_iload 4 dX0_make_16 rfl ?_
    refine j_bipush (v := 10) dX0_make_18 (by decide) ?_
    refine j_icmpN_ge (a := t) (b := 10) (by omega) (by omega) (tgt := 70) dX0_make_20 (by decide) (fun h20 => ?_) (fun h20 => ?_)
    · skip
      exact j_vret _ dX0_make_70 (List.Perm.refl _) ⟨rfl, B, wu, fun t' ht' k hk => hc1 t' (by omega) k hk, hc2, by rw [show t = 10 by omega]; rfl⟩
    · skip
      refine j_aload_n 0 dX0_make_23 rfl rfl ?_
      refine j_get (v := .ref (w 0)) 0 dX0_make_24 fX0_12 rfl rfl ?_
      refine j_aload_n 1 dX0_make_27 rfl rfl ?_
      refine j_cVv (As := [.ref (o 0)]) (rest := []) (wr := fl [gb x q w r (nN u, btF (fun t => soB v (bed u L t) 13) t), rowsB x r B, sb x s v]) (ws' := fl [nb x w (cpy u wu), nb x o u, gb x q w r (nN u, btF (fun t => soB v (bed u L t) 13) t), rowsB x r B, sb x s v]) (uX2_copyFrom l x w wu o u (by (try simp only [nN_ph, nN_lec, nN_cpy, nN_cof, nN_wak, nN_hrs]); omega)) kX2_copyFrom 0 rfl rfl rfl vX0_33 dX0_make_28 (by decide) rfl rfl (Nat.le_of_ble_eq_true rfl) (pm_2 2 3 [0, 1, 4] rfl rfl rfl rfl) (List.append_assoc _ _ _) ?_
      refine j_aload_n 0 dX0_make_31 rfl rfl ?_
      refine j_get (v := .ref (w 0)) 10 dX0_make_32 fX0_12 rfl rfl ?_
      refine j_iload_n 3 dX0_make_35 rfl rfl ?_
      refine j_iload 4 dX0_make_36 rfl ?_
      refine j_cVv (As := [.int (nI L), .int (nI t)]) (rest := []) (wr := fl [nb x o u, gb x q w r (nN u, btF (fun t => soB v (bed u L t) 13) t), rowsB x r B, sb x s v]) (ws' := fl [nb x w (wak (cpy u wu) L (nI t)), nb x o u, gb x q w r (nN u, btF (fun t => soB v (bed u L t) 13) t), rowsB x r B, sb x s v]) (uX2_wakeAs l x w (cpy u wu) (by (try simp only [nN_ph, nN_lec, nN_cpy, nN_cof, nN_wak, nN_hrs]); omega) L (by (try simp only [nN_ph, nN_lec, nN_cpy, nN_cof, nN_wak, nN_hrs]); omega) (nI t)) kX2_wakeAs 0 rfl rfl rfl vX0_37 dX0_make_38 (by decide) rfl rfl (Nat.le_of_ble_eq_true rfl) (pm_1 0 [1, 2, 3, 4] rfl rfl rfl) rfl ?_
      refine j_aload_n 0 dX0_make_41 rfl rfl ?_
      refine j_aload_n 2 dX0_make_42 rfl rfl ?_
      refine j_iload 4 dX0_make_43 rfl ?_
      refine j_callV (As := [.ref (s 0), .int (nI t)]) (rest := []) (wr := fl [nb x o u]) (tX0_isAsSeen l x q w r s (nN u) (btF (fun t => soB v (bed u L t) 13) t) B (wak (cpy u wu) L (nI t)) (by (try simp only [nN_ph, nN_lec, nN_cpy, nN_cof, nN_wak, nN_hrs]); omega) v hv t (by omega) (bed u L t) (fun i => (eqN_cpy u wu).dE L t i)) kX0_isAsSeen vX0_41 0 rfl rfl rfl dX0_make_45 (by decide) (Nat.le_of_eq (Nat.zero_add _)) (Nat.le_of_eq (Nat.zero_add _)) rfl rfl (Nat.le_of_ble_eq_true rfl) (pm_c [2, 3, 0, 4] [1] rfl rfl rfl) (fun v9 w9 hv9 => ?_)
      obtain ⟨rfl, w8, hw8, rfl⟩ := hv9
      refine j_eq (lv' := [(0, .ref (q 0)), (1, .ref (o 0)), (2, .ref (s 0)), (3, .int (nI L)), (4, .int (nI t))]) (st' := [.int (bI (soB v (bed u L t) 13))]) (ws' := fl [gb x q w r (nN u, btF (fun t => soB v (bed u L t) 13) t), rowsB x r (up2 B t (mix 13 (bed u L t) (B t))), nb x w w8, sb x s v, nb x o u]) rfl rfl (fl_app _ _) ?_
      refine j_ifb_eq (b := soB v (bed u L t) 13) (tgt := 64) dX0_make_48 (by decide) (fun h48 => ?_) (fun h48 => ?_)
      · skip
        refine j_iinc (v := nI (t + 1)) (lv' := [(4, .int (nI (t + 1))), (0, .ref (q 0)), (1, .ref (o 0)), (2, .ref (s 0)), (3, .int (nI L))]) 4 dX0_make_64 rfl (nI_1 t) (by decide) rfl ?_
        refine j_goto (tgt := 16) dX0_make_67 (by decide) ?_
        refine j_lv [1, 2, 3, 4, 0] (lv' := [(0, .ref (q 0)), (1, .ref (o 0)), (2, .ref (s 0)), (3, .int (nI L)), (4, .int (nI (t + 1)))]) rfl ?_
        refine j_perm (fl [gb x q w r (nN u, btF (fun t => soB v (bed u L t) 13) t), rowsB x r (up2 B t (mix 13 (bed u L t) (B t))), nb x w w8, nb x o u, sb x s v]) (pm_b [0, 1, 2, 4, 3] rfl rfl) ?_
        refine j_ws (ws' := fl [gb x q w r (nN u, btF (fun t => soB v (bed u L t) 13) (t + 1)), rowsB x r (up2 B t (mix 13 (bed u L t) (B t))), nb x w w8, nb x o u, sb x s v]) (by first | (rw [show btF (fun t => soB v (bed u L t) 13) (t + 1) = _ from if_pos h48]; done) | (rw [show btF (fun t => soB v (bed u L t) 13) (t + 1) = _ from if_neg (show ¬ soB v (bed u L t) 13 = true by rw [h48]; decide)]; done)) ?_
        refine ih (t + 1) _ _ (by omega) (fun i hi k hk => ?_) hw8 (by omega)
        by_cases e : i = t
        · subst e; rw [up2_s, mix_in hk]
        · rw [up2_n e]; exact hc1 i (by omega) k hk
      · skip
        refine j_aload_n 0 dX0_make_51 rfl rfl ?_
        refine j_dup dX0_make_52 rfl ?_
        refine j_get (v := .int (btF (fun t => soB v (bed u L t) 13) t)) 0 dX0_make_53 fX0_27 rfl rfl ?_
        refine j_iconst (v := 1) dX0_make_56 (by decide) ?_
        refine j_iload 4 dX0_make_57 rfl ?_
        refine j_ishl dX0_make_59 ?_
        refine j_ior dX0_make_60 ?_
        refine j_put (v := .int ((btF (fun t => soB v (bed u L t) 13) t) ||| (1 <<< ((nI t) &&& 31)))) (ws' := fl [gb x q w r (nN u, (btF (fun t => soB v (bed u L t) 13) t) ||| (1 <<< ((nI t) &&& 31))), rowsB x r (up2 B t (mix 13 (bed u L t) (B t))), nb x w w8, sb x s v, nb x o u]) 0 dX0_make_61 fX0_27 rfl rfl rfl (Nat.le_of_ble_eq_true rfl) rfl ?_
        refine j_iinc (v := nI (t + 1)) (lv' := [(4, .int (nI (t + 1))), (0, .ref (q 0)), (1, .ref (o 0)), (2, .ref (s 0)), (3, .int (nI L))]) 4 dX0_make_64 rfl (nI_1 t) (by decide) rfl ?_
        refine j_goto (tgt := 16) dX0_make_67 (by decide) ?_
        refine j_lv [1, 2, 3, 4, 0] (lv' := [(0, .ref (q 0)), (1, .ref (o 0)), (2, .ref (s 0)), (3, .int (nI L)), (4, .int (nI (t + 1)))]) rfl ?_
        refine j_perm (fl [gb x q w r (nN u, (btF (fun t => soB v (bed u L t) 13) t) ||| (1 <<< ((nI t) &&& 31))), rowsB x r (up2 B t (mix 13 (bed u L t) (B t))), nb x w w8, nb x o u, sb x s v]) (pm_b [0, 1, 2, 4, 3] rfl rfl) ?_
        refine j_ws (ws' := fl [gb x q w r (nN u, btF (fun t => soB v (bed u L t) 13) (t + 1)), rowsB x r (up2 B t (mix 13 (bed u L t) (B t))), nb x w w8, nb x o u, sb x s v]) (by first | (rw [show btF (fun t => soB v (bed u L t) 13) (t + 1) = _ from if_pos h48]; done) | (rw [show btF (fun t => soB v (bed u L t) 13) (t + 1) = _ from if_neg (show ¬ soB v (bed u L t) 13 = true by rw [h48]; decide)]; done)) ?_
        refine ih (t + 1) _ _ (by omega) (fun i hi k hk => ?_) hw8 (by omega)
        by_cases e : i = t
        · subst e; rw [up2_s, mix_in hk]
        · rw [up2_n e]; exact hc1 i (by omega) k hk
set_option maxHeartbeats 4000000 in
set_option maxRecDepth 100000 in
theorem tX0_make (l : Launch) (x : Cx) (q w r s o : Nat → Nat) (u : NS) (hu : nN u ≤ 5) (v : SS) (hv : v.2.2 ≤ 6) (L : Nat) (hL : L < nN u) (n : Nat) (bits : Int32) (B : Nat → Nat → Int32) (wu : NS) (hw : nN wu ≤ 5) : MC l x 4 0 0 yX0_make cX0_make 5 none [.ref (q 0), .ref (o 0), .ref (s 0), .int (nI L)] (fl [gb x q w r (n, bits), rowsB x r B, nb x w wu, nb x o u, sb x s v]) (fun v9 ws => v9 = none ∧ ∃ (B : Nat → Nat → Int32) (w' : NS), (∀ t, t < 10 → ∀ k, k < 13 → B t k = bed u L t k) ∧ nN w' ≤ 5 ∧ ws = fl [gb x q w r (nN u, bitsU u v L), rowsB x r B, nb x w w', nb x o u, sb x s v]) := by
  refine MC.of (by decide) (Nat.le_of_ble_eq_true rfl) (fun v ws h => Or.inl ⟨rfl, h.1⟩) (fun M => ?_)
  show J M l x cX0_make 5 yX0_make 4 (fun v9 ws => v9 = none ∧ ∃ (B : Nat → Nat → Int32) (w' : NS), (∀ t, t < 10 → ∀ k, k < 13 → B t k = bed u L t k) ∧ nN w' ≤ 5 ∧ ws = fl [gb x q w r (nN u, bitsU u v L), rowsB x r B, nb x w w', nb x o u, sb x s v]) 0 0 0 [(0, .ref (q 0)), (1, .ref (o 0)), (2, .ref (s 0)), (3, .int (nI L))] [] (fl [gb x q w r (n, bits), rowsB x r B, nb x w wu, nb x o u, sb x s v])
  refine j_aload_n 0 dX0_make_0 rfl rfl ?_
  refine j_aload_n 1 dX0_make_1 rfl rfl ?_
  refine j_cVi (As := []) (rest := [.ref (q 0)]) (wr := fl [gb x q w r (n, bits), rowsB x r B, nb x w wu, sb x s v]) (ws' := fl [nb x o u, gb x q w r (n, bits), rowsB x r B, nb x w wu, sb x s v]) (uX2_lodgers l x o u ) kX2_lodgers 0 rfl rfl rfl vX0_30 dX0_make_2 (by decide) rfl rfl (Nat.le_of_ble_eq_true rfl) (pm_1 3 [0, 1, 2, 4] rfl rfl rfl) rfl ?_
  refine j_put (v := .int (nI (nN u))) (ws' := fl [nb x o u, gb x q w r (nN u, bits), rowsB x r B, nb x w wu, sb x s v]) 5 dX0_make_5 fX0_23 rfl rfl rfl (Nat.le_of_ble_eq_true rfl) rfl ?_
  refine j_aload_n 0 dX0_make_8 rfl rfl ?_
  refine j_iconst (v := 0) dX0_make_9 (by decide) ?_
  refine j_put (v := .int 0) (ws' := fl [nb x o u, gb x q w r (nN u, 0), rowsB x r B, nb x w wu, sb x s v]) 5 dX0_make_10 fX0_27 rfl rfl rfl (Nat.le_of_ble_eq_true rfl) rfl ?_
  refine j_iconst (v := nI 0) dX0_make_13 (by decide) ?_
  refine j_istore (lv' := [(4, .int (nI 0)), (0, .ref (q 0)), (1, .ref (o 0)), (2, .ref (s 0)), (3, .int (nI L))]) dX0_make_14 (by decide) rfl ?_
  refine j_lv [1, 2, 3, 4, 0] (lv' := [(0, .ref (q 0)), (1, .ref (o 0)), (2, .ref (s 0)), (3, .int (nI L)), (4, .int (nI 0))]) rfl ?_
  refine j_perm (fl [gb x q w r (nN u, 0), rowsB x r B, nb x w wu, nb x o u, sb x s v]) (pm_b [1, 2, 3, 0, 4] rfl rfl) ?_
  exact lp_make l x q w r s o u hu v hv L hL 11 0 B wu (by omega) (fun i hi => absurd hi (Nat.not_lt_zero i)) hw (by omega)
set_option maxHeartbeats 4000000 in
set_option maxRecDepth 100000 in
theorem tX0_possible (l : Launch) (x : Cx) (q w r : Nat → Nat) (n : Nat) (bits : Int32) : MC l x 0 0 0 yX0_possible cX0_possible 1 (some .int) [.ref (q 0)] (gb x q w r (n, bits)) (eI bits (gb x q w r (n, bits))) := by
  refine MC.of (by decide) (Nat.le_of_ble_eq_true rfl) eI_fit (fun M => ?_)
  show J M l x cX0_possible 1 yX0_possible 0 (eI bits (gb x q w r (n, bits))) 0 0 0 [(0, .ref (q 0))] [] (gb x q w r (n, bits))
  refine j_aload_n 0 dX0_possible_0 rfl rfl ?_
  refine j_get (v := .int bits) 0 dX0_possible_1 fX0_27 rfl rfl ?_
  exact j_iret _ dX0_possible_4 (List.Perm.refl _) ⟨by rfl, by rfl⟩
set_option maxHeartbeats 4000000 in
set_option maxRecDepth 100000 in
theorem lp_leftBy {M : Mx} (l : Launch) (x : Cx) (q w r : Nat → Nat) (n : Nat) (hn : n ≤ 5) (bits : Int32) (B : Nat → Nat → Int32) (k : Nat) (hk : k < 13) (b : Int32) {k0 n0 : Nat}  : ∀ (m : Nat) (t : Nat), t ≤ 10 → 10 - t < m → J M l x cX0_leftBy 6 yX0_leftBy 0 (eI (nI (lefB bits (fun t => B t k) b 10)) (fl [gb x q w r (n, bits), rowsB x r B])) k0 n0 5 [(0, .ref (q 0)), (1, .int (nI k)), (2, .int b), (3, .int (nI (lefB bits (fun t => B t k) b t))), (4, .int (nI t))] [] (fl [gb x q w r (n, bits), rowsB x r B]) := by
  intro m; induction m with
  | zero => intro t hc0 hm; exact absurd hm (Nat.not_lt_zero _)
  | succ m ih =>
    intro t hc0 hm
    refine j_iload 4 dX0_leftBy_5 rfl ?_
    refine j_bipush (v := 10) dX0_leftBy_7 (by decide) ?_
    refine j_icmpN_ge (a := t) (b := 10) (by omega) (by omega) (tgt := 64) dX0_leftBy_9 (by decide) (fun h9 => ?_) (fun h9 => ?_)
    · skip
      refine j_iload_n 3 dX0_leftBy_64 rfl rfl ?_
      exact j_iret _ dX0_leftBy_65 (List.Perm.refl _) ⟨by rw [show t = 10 by omega], rfl⟩
    · skip
      refine j_aload_n 0 dX0_leftBy_12 rfl rfl ?_
      refine j_get (v := .int bits) 0 dX0_leftBy_13 fX0_27 rfl rfl ?_
      refine j_iload 4 dX0_leftBy_16 rfl ?_
      refine j_ishr dX0_leftBy_18 ?_
      refine j_iconst (v := 1) dX0_leftBy_19 (by decide) ?_
      refine j_iand dX0_leftBy_20 ?_
      refine j_iconst (v := 1) dX0_leftBy_21 (by decide) ?_
      refine j_icmp_ne (tgt := 29) dX0_leftBy_22 (by decide) (fun h22 => ?_) (fun h22 => ?_)
      · skip
        refine j_iconst (v := bI false) dX0_leftBy_29 (by decide) ?_
        refine j_istore (lv' := [(5, .int (bI false)), (0, .ref (q 0)), (1, .int (nI k)), (2, .int b), (3, .int (nI (lefB bits (fun t => B t k) b t))), (4, .int (nI t))]) dX0_leftBy_30 (by decide) rfl ?_
        refine j_iload_n 4 dX0_leftBy_32 rfl rfl ?_
        refine j_iload 0 dX0_leftBy_33 rfl ?_
        refine j_ifb_eq (b := false) (tgt := 55) dX0_leftBy_35 (by decide) (fun h35 => ?_) (fun h35 => absurd h35 (by decide))
        refine j_iconst (v := 0) dX0_leftBy_55 (by decide) ?_
        refine j_iadd dX0_leftBy_56 ?_
        refine j_topi (b := nI (lefB bits (fun t => B t k) b (t + 1))) (by first | (rw [lefB, if_pos ⟨h22, h48⟩]; exact nI_add _ 1) | (rw [lefB, if_neg (fun e => h48 e.2)]; exact nI_add _ 0) | (rw [lefB, if_neg (fun e => h22 e.1)]; exact nI_add _ 0)) ?_
        refine j_istore_n (lv' := [(3, .int (nI (lefB bits (fun t => B t k) b (t + 1)))), (5, .int (bI false)), (0, .ref (q 0)), (1, .int (nI k)), (2, .int b), (4, .int (nI t))]) dX0_leftBy_57 rfl (by decide) rfl ?_
        refine j_iinc (v := nI (t + 1)) (lv' := [(4, .int (nI (t + 1))), (3, .int (nI (lefB bits (fun t => B t k) b (t + 1)))), (5, .int (bI false)), (0, .ref (q 0)), (1, .int (nI k)), (2, .int b)]) 5 dX0_leftBy_58 rfl (nI_1 t) (by decide) rfl ?_
        refine j_goto (tgt := 5) dX0_leftBy_61 (by decide) ?_
        refine j_lv [3, 4, 5, 1, 0] (lv' := [(0, .ref (q 0)), (1, .int (nI k)), (2, .int b), (3, .int (nI (lefB bits (fun t => B t k) b (t + 1)))), (4, .int (nI (t + 1)))]) rfl ?_
        exact ih (t + 1) (by omega) (by omega)
      · skip
        refine j_iconst (v := bI true) dX0_leftBy_25 (by decide) ?_
        refine j_goto (tgt := 30) dX0_leftBy_26 (by decide) ?_
        refine j_istore (lv' := [(5, .int (bI true)), (0, .ref (q 0)), (1, .int (nI k)), (2, .int b), (3, .int (nI (lefB bits (fun t => B t k) b t))), (4, .int (nI t))]) dX0_leftBy_30 (by decide) rfl ?_
        refine j_iload_n 4 dX0_leftBy_32 rfl rfl ?_
        refine j_iload 0 dX0_leftBy_33 rfl ?_
        refine j_ifb_eq (b := true) (tgt := 55) dX0_leftBy_35 (by decide) (fun h35 => absurd h35 (by decide)) (fun h35 => ?_)
        refine j_aload_n 1 dX0_leftBy_38 rfl rfl ?_
        refine j_get (v := .ref (q 1)) 0 dX0_leftBy_39 fX0_20 rfl rfl ?_
        refine j_iload 5 dX0_leftBy_42 rfl ?_
        refine j_mald (b := r t) (f := fun i => if i < 10 then some (r i) else none) 1 dX0_leftBy_44 rfl (vp_in_nI (show t < 10 by omega) (by decide)) (by rw [nI_clamp (by omega)]; exact if_pos (show t < 10 by omega)) ?_
        refine j_iload_n 2 dX0_leftBy_45 rfl rfl ?_
        refine j_ialdN (i := k) (f := B t) (t + 2) dX0_leftBy_46 (fr_get (by omega)) (by omega) (by decide) ?_
        refine j_iload_n 3 dX0_leftBy_47 rfl rfl ?_
        refine j_icmp_ne (tgt := 55) dX0_leftBy_48 (by decide) (fun h48 => ?_) (fun h48 => ?_)
        · skip
          refine j_iconst (v := 0) dX0_leftBy_55 (by decide) ?_
          refine j_iadd dX0_leftBy_56 ?_
          refine j_topi (b := nI (lefB bits (fun t => B t k) b (t + 1))) (by first | (rw [lefB, if_pos ⟨h22, h48⟩]; exact nI_add _ 1) | (rw [lefB, if_neg (fun e => h48 e.2)]; exact nI_add _ 0) | (rw [lefB, if_neg (fun e => h22 e.1)]; exact nI_add _ 0)) ?_
          refine j_istore_n (lv' := [(3, .int (nI (lefB bits (fun t => B t k) b (t + 1)))), (5, .int (bI true)), (0, .ref (q 0)), (1, .int (nI k)), (2, .int b), (4, .int (nI t))]) dX0_leftBy_57 rfl (by decide) rfl ?_
          refine j_iinc (v := nI (t + 1)) (lv' := [(4, .int (nI (t + 1))), (3, .int (nI (lefB bits (fun t => B t k) b (t + 1)))), (5, .int (bI true)), (0, .ref (q 0)), (1, .int (nI k)), (2, .int b)]) 5 dX0_leftBy_58 rfl (nI_1 t) (by decide) rfl ?_
          refine j_goto (tgt := 5) dX0_leftBy_61 (by decide) ?_
          refine j_lv [3, 4, 5, 1, 0] (lv' := [(0, .ref (q 0)), (1, .int (nI k)), (2, .int b), (3, .int (nI (lefB bits (fun t => B t k) b (t + 1)))), (4, .int (nI (t + 1)))]) rfl ?_
          exact ih (t + 1) (by omega) (by omega)
        · skip
          refine j_iconst (v := 1) dX0_leftBy_51 (by decide) ?_
          refine j_goto (tgt := 56) dX0_leftBy_52 (by decide) ?_
          refine j_iadd dX0_leftBy_56 ?_
          refine j_topi (b := nI (lefB bits (fun t => B t k) b (t + 1))) (by first | (rw [lefB, if_pos ⟨h22, h48⟩]; exact nI_add _ 1) | (rw [lefB, if_neg (fun e => h48 e.2)]; exact nI_add _ 0) | (rw [lefB, if_neg (fun e => h22 e.1)]; exact nI_add _ 0)) ?_
          refine j_istore_n (lv' := [(3, .int (nI (lefB bits (fun t => B t k) b (t + 1)))), (5, .int (bI true)), (0, .ref (q 0)), (1, .int (nI k)), (2, .int b), (4, .int (nI t))]) dX0_leftBy_57 rfl (by decide) rfl ?_
          refine j_iinc (v := nI (t + 1)) (lv' := [(4, .int (nI (t + 1))), (3, .int (nI (lefB bits (fun t => B t k) b (t + 1)))), (5, .int (bI true)), (0, .ref (q 0)), (1, .int (nI k)), (2, .int b)]) 5 dX0_leftBy_58 rfl (nI_1 t) (by decide) rfl ?_
          refine j_goto (tgt := 5) dX0_leftBy_61 (by decide) ?_
          refine j_lv [3, 4, 5, 1, 0] (lv' := [(0, .ref (q 0)), (1, .int (nI k)), (2, .int b), (3, .int (nI (lefB bits (fun t => B t k) b (t + 1)))), (4, .int (nI (t + 1)))]) rfl ?_
          exact ih (t + 1) (by omega) (by omega)
set_option maxHeartbeats 4000000 in
set_option maxRecDepth 100000 in
theorem tX0_leftBy (l : Launch) (x : Cx) (q w r : Nat → Nat) (n : Nat) (hn : n ≤ 5) (bits : Int32) (B : Nat → Nat → Int32) (k : Nat) (hk : k < 13) (b : Int32) : MC l x 0 0 0 yX0_leftBy cX0_leftBy 6 (some .int) [.ref (q 0), .int (nI k), .int b] (fl [gb x q w r (n, bits), rowsB x r B]) (eI (nI (lefB bits (fun t => B t k) b 10)) (fl [gb x q w r (n, bits), rowsB x r B])) := by
  refine MC.of (by decide) (Nat.le_of_ble_eq_true rfl) eI_fit (fun M => ?_)
  show J M l x cX0_leftBy 6 yX0_leftBy 0 (eI (nI (lefB bits (fun t => B t k) b 10)) (fl [gb x q w r (n, bits), rowsB x r B])) 0 0 0 [(0, .ref (q 0)), (1, .int (nI k)), (2, .int b)] [] (fl [gb x q w r (n, bits), rowsB x r B])
  refine j_iconst (v := nI 0) dX0_leftBy_0 (by decide) ?_
  refine j_istore_n (lv' := [(3, .int (nI 0)), (0, .ref (q 0)), (1, .int (nI k)), (2, .int b)]) dX0_leftBy_1 rfl (by decide) rfl ?_
  refine j_iconst (v := nI 0) dX0_leftBy_2 (by decide) ?_
  refine j_istore (lv' := [(4, .int (nI 0)), (3, .int (nI 0)), (0, .ref (q 0)), (1, .int (nI k)), (2, .int b)]) dX0_leftBy_3 (by decide) rfl ?_
  refine j_lv [2, 3, 4, 1, 0] (lv' := [(0, .ref (q 0)), (1, .int (nI k)), (2, .int b), (3, .int (nI 0)), (4, .int (nI 0))]) rfl ?_
  exact lp_leftBy l x q w r n hn bits B k hk b 11 0 (by omega) (by omega)
set_option maxHeartbeats 4000000 in
set_option maxRecDepth 100000 in
theorem lp_leftAtWorst {M : Mx} (l : Launch) (x : Cx) (q w r : Nat → Nat) (n : Nat) (hn : n ≤ 5) (bits : Int32) (B : Nat → Nat → Int32) (k : Nat) (hk : k < 13) {k0 n0 : Nat}  : ∀ (m : Nat) (c : Nat), c ≤ n + 1 → n + 1 - c < m → J M l x cX0_leftAtWorst 4 yX0_leftAtWorst 1 (eI (nI (worB bits (fun t => B t k) (n + 1))) (fl [gb x q w r (n, bits), rowsB x r B])) k0 n0 4 [(0, .ref (q 0)), (1, .int (nI k)), (2, .int (nI (worB bits (fun t => B t k) c))), (3, .int (oI (oc c)))] [] (fl [gb x q w r (n, bits), rowsB x r B]) := by
  intro m; induction m with
  | zero => intro c hc0 hm; exact absurd hm (Nat.not_lt_zero _)
  | succ m ih =>
    intro c hc0 hm
    refine j_iload_n 3 dX0_leftAtWorst_4 rfl rfl ?_
    refine j_aload_n 0 dX0_leftAtWorst_5 rfl rfl ?_
    refine j_get (v := .int (nI n)) 0 dX0_leftAtWorst_6 fX0_23 rfl rfl ?_
    refine j_icmp_ge (tgt := 29) dX0_leftAtWorst_9 (by decide) (fun h9 => ?_) (fun h9 => ?_)
    · skip
      have hge := (oc_ge (by omega) (by omega)).mp h9
      refine j_iload_n 2 dX0_leftAtWorst_29 rfl rfl ?_
      exact j_iret _ dX0_leftAtWorst_30 (List.Perm.refl _) ⟨by rw [show c = n + 1 by omega], by rfl⟩
    · skip
      have hge := mt (oc_ge (n := n) (c := c) (by omega) (by omega)).mpr h9
      refine j_iload_n 2 dX0_leftAtWorst_12 rfl rfl ?_
      refine j_aload_n 0 dX0_leftAtWorst_13 rfl rfl ?_
      refine j_iload_n 1 dX0_leftAtWorst_14 rfl rfl ?_
      refine j_iload_n 3 dX0_leftAtWorst_15 rfl rfl ?_
      refine j_cVi (As := [.int (nI k), .int (oI (oc c))]) (rest := [.int (nI (worB bits (fun t => B t k) c))]) (wr := []) (ws' := fl [gb x q w r (n, bits), rowsB x r B]) (tX0_leftBy l x q w r n hn bits B k (by omega) (oI (oc c))) kX0_leftBy 0 rfl rfl rfl vX0_61 dX0_leftAtWorst_16 (by decide) rfl rfl (Nat.le_of_ble_eq_true rfl) (pm_0 _) (List.append_nil _) ?_
      refine j_mmax dX0_leftAtWorst_19 mX0_65 (by decide) (Nat.le_of_ble_eq_true rfl) ?_
      refine j_topi (b := nI (worB bits (fun t => B t k) (c + 1))) (mmax_nI (by have := worB_le bits (fun t => B t k) c; omega) (by have := lefB_le bits (fun t => B t k) (oI (oc c)) 10; omega)) ?_
      refine j_istore_n (lv' := [(2, .int (nI (worB bits (fun t => B t k) (c + 1)))), (0, .ref (q 0)), (1, .int (nI k)), (3, .int (oI (oc c)))]) dX0_leftAtWorst_22 rfl (by decide) rfl ?_
      refine j_iinc (v := oI (oc (c + 1))) (lv' := [(3, .int (oI (oc (c + 1)))), (2, .int (nI (worB bits (fun t => B t k) (c + 1)))), (0, .ref (q 0)), (1, .int (nI k))]) 3 dX0_leftAtWorst_23 rfl (oc_inc c) (by decide) rfl ?_
      refine j_goto (tgt := 4) dX0_leftAtWorst_26 (by decide) ?_
      refine j_lv [2, 3, 1, 0] (lv' := [(0, .ref (q 0)), (1, .int (nI k)), (2, .int (nI (worB bits (fun t => B t k) (c + 1)))), (3, .int (oI (oc (c + 1))))]) rfl ?_
      exact ih (c + 1) (by omega) (by omega)
set_option maxHeartbeats 4000000 in
set_option maxRecDepth 100000 in
theorem tX0_leftAtWorst (l : Launch) (x : Cx) (q w r : Nat → Nat) (n : Nat) (hn : n ≤ 5) (bits : Int32) (B : Nat → Nat → Int32) (k : Nat) (hk : k < 13) : MC l x 1 0 0 yX0_leftAtWorst cX0_leftAtWorst 4 (some .int) [.ref (q 0), .int (nI k)] (fl [gb x q w r (n, bits), rowsB x r B]) (eI (nI (worB bits (fun t => B t k) (n + 1))) (fl [gb x q w r (n, bits), rowsB x r B])) := by
  refine MC.of (by decide) (Nat.le_of_ble_eq_true rfl) eI_fit (fun M => ?_)
  show J M l x cX0_leftAtWorst 4 yX0_leftAtWorst 1 (eI (nI (worB bits (fun t => B t k) (n + 1))) (fl [gb x q w r (n, bits), rowsB x r B])) 0 0 0 [(0, .ref (q 0)), (1, .int (nI k))] [] (fl [gb x q w r (n, bits), rowsB x r B])
  refine j_iconst (v := nI 0) dX0_leftAtWorst_0 (by decide) ?_
  refine j_istore_n (lv' := [(2, .int (nI 0)), (0, .ref (q 0)), (1, .int (nI k))]) dX0_leftAtWorst_1 rfl (by decide) rfl ?_
  refine j_iconst (v := (-1)) dX0_leftAtWorst_2 (by decide) ?_
  refine j_istore_n (lv' := [(3, .int (-1)), (2, .int (nI 0)), (0, .ref (q 0)), (1, .int (nI k))]) dX0_leftAtWorst_3 rfl (by decide) rfl ?_
  refine j_lv [2, 3, 1, 0] (lv' := [(0, .ref (q 0)), (1, .int (nI k)), (2, .int (nI 0)), (3, .int (-1))]) rfl ?_
  exact lp_leftAtWorst l x q w r n hn bits B k hk (n + 2) 0 (by omega) (by omega)
set_option maxHeartbeats 4000000 in
set_option maxRecDepth 100000 in
theorem lp_bestLook {M : Mx} (l : Launch) (x : Cx) (q w r : Nat → Nat) (n : Nat) (hn : n ≤ 5) (bits : Int32) (B : Nat → Nat → Int32) (rr : Int32) {k0 n0 : Nat}  : ∀ (m : Nat) (k : Nat) (s1 : Int32) (s2 : Nat), k ≤ 13 → (itr (lokS bits B n) (13 - k) k (s1, s2)).1 = rr → s2 ≤ 11 → 13 - k < m → J M l x cX0_bestLook 5 yX0_bestLook 2 (eI rr (fl [gb x q w r (n, bits), rowsB x r B])) k0 n0 16 [(0, .ref (q 0)), (1, .int s1), (2, .int (nI s2)), (3, .int (nI k))] [] (fl [gb x q w r (n, bits), rowsB x r B]) := by
  intro m; induction m with
  | zero => intro k s1 s2 hc0 hc1 hc2 hm; exact absurd hm (Nat.not_lt_zero _)
  | succ m ih =>
    intro k s1 s2 hc0 hc1 hc2 hm
    have hwb := worB_le bits (fun t => B t k) (n + 1)
    refine j_iload_n 3 dX0_bestLook_16 rfl rfl ?_
    refine j_bipush (v := 13) dX0_bestLook_17 (by decide) ?_
    refine j_icmpN_ge (a := k) (b := 13) (by omega) (by omega) (tgt := 46) dX0_bestLook_19 (by decide) (fun h19 => ?_) (fun h19 => ?_)
    · skip
      refine j_iload_n 1 dX0_bestLook_46 rfl rfl ?_
      exact j_iret _ dX0_bestLook_47 (List.Perm.refl _) ⟨by rw [← hc1, itr_end (n := 13) (b := k) (by omega)], rfl⟩
    · skip
      refine j_aload_n 0 dX0_bestLook_22 rfl rfl ?_
      refine j_iload_n 3 dX0_bestLook_23 rfl rfl ?_
      refine j_cVi (As := [.int (nI k)]) (rest := []) (wr := []) (ws' := fl [gb x q w r (n, bits), rowsB x r B]) (tX0_leftAtWorst l x q w r n hn bits B k (by omega)) kX0_leftAtWorst 0 rfl rfl rfl vX0_45 dX0_bestLook_24 (by decide) rfl rfl (Nat.le_of_ble_eq_true rfl) (pm_0 _) (List.append_nil _) ?_
      refine j_istore (lv' := [(4, .int (nI (worB bits (fun t => B t k) (n + 1)))), (0, .ref (q 0)), (1, .int s1), (2, .int (nI s2)), (3, .int (nI k))]) dX0_bestLook_27 (by decide) rfl ?_
      refine j_iload 0 dX0_bestLook_29 rfl ?_
      refine j_iload_n 3 dX0_bestLook_31 rfl rfl ?_
      refine j_icmpN_ge (a := worB bits (fun t => B t k) (n + 1)) (b := s2) (by omega) (by omega) (tgt := 40) dX0_bestLook_32 (by decide) (fun h32 => ?_) (fun h32 => ?_)
      · skip
        refine j_iinc (v := nI (k + 1)) (lv' := [(3, .int (nI (k + 1))), (4, .int (nI (worB bits (fun t => B t k) (n + 1)))), (0, .ref (q 0)), (1, .int s1), (2, .int (nI s2))]) 4 dX0_bestLook_40 rfl (nI_1 k) (by decide) rfl ?_
        refine j_goto (tgt := 16) dX0_bestLook_43 (by decide) ?_
        refine j_lv [2, 3, 4, 0] (lv' := [(0, .ref (q 0)), (1, .int s1), (2, .int (nI s2)), (3, .int (nI (k + 1)))]) rfl ?_
        refine ih (k + 1) _ _ (by omega) ?_ (by omega) (by omega)
        rw [← hc1, itr_go (n := 13) (b := k) (by omega)]; exact congrArg (fun z => (itr (lokS bits B n) (13 - (k + 1)) (k + 1) z).1) (by first | (rw [lokS, if_pos h32]; done) | (rw [lokS, if_neg (by show ¬ _ < _; omega)]; done))
      · skip
        refine j_iload_n 4 dX0_bestLook_35 rfl rfl ?_
        refine j_istore_n (lv' := [(1, .int (nI k)), (4, .int (nI (worB bits (fun t => B t k) (n + 1)))), (0, .ref (q 0)), (2, .int (nI s2)), (3, .int (nI k))]) dX0_bestLook_36 rfl (by decide) rfl ?_
        refine j_iload 1 dX0_bestLook_37 rfl ?_
        refine j_istore_n (lv' := [(2, .int (nI (worB bits (fun t => B t k) (n + 1)))), (1, .int (nI k)), (4, .int (nI (worB bits (fun t => B t k) (n + 1)))), (0, .ref (q 0)), (3, .int (nI k))]) dX0_bestLook_39 rfl (by decide) rfl ?_
        refine j_iinc (v := nI (k + 1)) (lv' := [(3, .int (nI (k + 1))), (2, .int (nI (worB bits (fun t => B t k) (n + 1)))), (1, .int (nI k)), (4, .int (nI (worB bits (fun t => B t k) (n + 1)))), (0, .ref (q 0))]) 4 dX0_bestLook_40 rfl (nI_1 k) (by decide) rfl ?_
        refine j_goto (tgt := 16) dX0_bestLook_43 (by decide) ?_
        refine j_lv [4, 2, 1, 0] (lv' := [(0, .ref (q 0)), (1, .int (nI k)), (2, .int (nI (worB bits (fun t => B t k) (n + 1)))), (3, .int (nI (k + 1)))]) rfl ?_
        refine ih (k + 1) _ _ (by omega) ?_ (by omega) (by omega)
        rw [← hc1, itr_go (n := 13) (b := k) (by omega)]; exact congrArg (fun z => (itr (lokS bits B n) (13 - (k + 1)) (k + 1) z).1) (by first | (rw [lokS, if_pos h32]; done) | (rw [lokS, if_neg (by show ¬ _ < _; omega)]; done))
set_option maxHeartbeats 4000000 in
set_option maxRecDepth 100000 in
theorem tX0_bestLook (l : Launch) (x : Cx) (q w r : Nat → Nat) (n : Nat) (hn : n ≤ 5) (bits : Int32) (B : Nat → Nat → Int32) : MC l x 2 0 0 yX0_bestLook cX0_bestLook 5 (some .int) [.ref (q 0)] (fl [gb x q w r (n, bits), rowsB x r B]) (eI (lokB bits B n) (fl [gb x q w r (n, bits), rowsB x r B])) := by
  refine MC.of (by decide) (Nat.le_of_ble_eq_true rfl) eI_fit (fun M => ?_)
  show J M l x cX0_bestLook 5 yX0_bestLook 2 (eI (lokB bits B n) (fl [gb x q w r (n, bits), rowsB x r B])) 0 0 0 [(0, .ref (q 0))] [] (fl [gb x q w r (n, bits), rowsB x r B])
  refine j_aload_n 0 dX0_bestLook_0 rfl rfl ?_
  refine j_get (v := .int bits) 0 dX0_bestLook_1 fX0_27 rfl rfl ?_
  refine j_if_ne (tgt := 9) dX0_bestLook_4 (by decide) (fun h4 => ?_) (fun h4 => ?_)
  · skip
    refine j_iconst (v := (-1)) dX0_bestLook_9 (by decide) ?_
    refine j_istore_n (lv' := [(1, .int (-1)), (0, .ref (q 0))]) dX0_bestLook_10 rfl (by decide) rfl ?_
    refine j_bipush (v := nI 11) dX0_bestLook_11 (by decide) ?_
    refine j_istore_n (lv' := [(2, .int (nI 11)), (1, .int (-1)), (0, .ref (q 0))]) dX0_bestLook_13 rfl (by decide) rfl ?_
    refine j_iconst (v := nI 0) dX0_bestLook_14 (by decide) ?_
    refine j_istore_n (lv' := [(3, .int (nI 0)), (2, .int (nI 11)), (1, .int (-1)), (0, .ref (q 0))]) dX0_bestLook_15 rfl (by decide) rfl ?_
    refine j_lv [3, 2, 1, 0] (lv' := [(0, .ref (q 0)), (1, .int (-1)), (2, .int (nI 11)), (3, .int (nI 0))]) rfl ?_
    exact lp_bestLook l x q w r n hn bits B _ 14 0 (-1) 11 (by omega) (by rw [lokB, if_neg h4]) (by omega) (by omega)
  · skip
    refine j_iconst (v := (-1)) dX0_bestLook_7 (by decide) ?_
    exact j_iret _ dX0_bestLook_8 (List.Perm.refl _) ⟨by rw [lokB, if_pos h4], by rfl⟩
end
section
set_option maxHeartbeats 4000000 in
set_option maxRecDepth 100000 in
theorem tX1_hoursInBed (l : Launch) (x : Cx) (q : Nat → Nat) (a : Nat → Nat → Nat) (hib fh : Int32) : MC l x 0 0 0 yX1_hoursInBed cX1_hoursInBed 1 (some .int) [.ref (q 0)] (lb x q a (hib, fh)) (eI hib (lb x q a (hib, fh))) := by
  refine MC.of (by decide) (Nat.le_of_ble_eq_true rfl) eI_fit (fun M => ?_)
  show J M l x cX1_hoursInBed 1 yX1_hoursInBed 0 (eI hib (lb x q a (hib, fh))) 0 0 0 [(0, .ref (q 0))] [] (lb x q a (hib, fh))
  refine j_aload_n 0 dX1_hoursInBed_0 rfl rfl ?_
  refine j_get (v := .int hib) 0 dX1_hoursInBed_1 fX1_18 rfl rfl ?_
  exact j_iret _ dX1_hoursInBed_4 (List.Perm.refl _) ⟨by rfl, by rfl⟩
set_option maxHeartbeats 4000000 in
set_option maxRecDepth 100000 in
theorem tX1_firstHearer (l : Launch) (x : Cx) (q : Nat → Nat) (a : Nat → Nat → Nat) (hib fh : Int32) : MC l x 0 0 0 yX1_firstHearer cX1_firstHearer 1 (some .int) [.ref (q 0)] (lb x q a (hib, fh)) (eI fh (lb x q a (hib, fh))) := by
  refine MC.of (by decide) (Nat.le_of_ble_eq_true rfl) eI_fit (fun M => ?_)
  show J M l x cX1_firstHearer 1 yX1_firstHearer 0 (eI fh (lb x q a (hib, fh))) 0 0 0 [(0, .ref (q 0))] [] (lb x q a (hib, fh))
  refine j_aload_n 0 dX1_firstHearer_0 rfl rfl ?_
  refine j_get (v := .int fh) 0 dX1_firstHearer_1 fX1_22 rfl rfl ?_
  exact j_iret _ dX1_firstHearer_4 (List.Perm.refl _) ⟨by rfl, by rfl⟩
set_option maxHeartbeats 4000000 in
set_option maxRecDepth 100000 in
theorem tmost3 (l : Launch) (x : Cx) (q : Nat → Nat) (a : Nat → Nat → Nat) (f : Nat → Nat) (u : NS) (hu : nN u ≤ 5) (L : Nat) (hL : L < nN u) (H : Nat) (hH : H ≤ 3) (hib fh : Int32) : MC l x 4 0 0 yX1_most cX1_most 9 (some .int) [.ref (q 0), .ref (f 0), .int (nI L), .int (nI 3), .int (nI H)] (fl [lb x q a (hib, fh), nb x f u]) (eX (mst (H - 3) u L).1 (fun ws => ws = fl [lb x q a (hib, fh), nb x f u])) := by
  refine MC.of (by decide) (Nat.le_of_ble_eq_true rfl) eXI_fit (fun M => ?_)
  show J M l x cX1_most 9 yX1_most 4 (eX (mst (H - 3) u L).1 (fun ws => ws = fl [lb x q a (hib, fh), nb x f u])) 0 0 0 [(0, .ref (q 0)), (1, .ref (f 0)), (2, .int (nI L)), (3, .int (nI 3)), (4, .int (nI H))] [] (fl [lb x q a (hib, fh), nb x f u])
  refine j_iload_n 3 dX1_most_0 rfl rfl ?_
  refine j_iload 4 dX1_most_1 rfl ?_
  refine j_icmpN_ge (a := 3) (b := H) (by omega) (by omega) (tgt := 15) dX1_most_3 (by decide) (fun h3 => ?_) (fun h3 => by omega)
  refine j_iconst (v := 0) dX1_most_15 (by decide) ?_
  exact j_iret _ dX1_most_16 (List.Perm.refl _) ⟨by rw [show H - 3 = 0 by omega]; rfl, rfl⟩
set_option maxHeartbeats 4000000 in
set_option maxRecDepth 100000 in
theorem lp_most2 {M : Mx} (l : Launch) (x : Cx) (q : Nat → Nat) (a : Nat → Nat → Nat) (f : Nat → Nat) (u : NS) (hu : nN u ≤ 5) (L : Nat) (hL : L < nN u) (H : Nat) (hH : H ≤ 3) (hib r1 r2 : Int32) (fh : Int32) (hA : 2 < H) {k0 n0 : Nat}  : ∀ (m : Nat) (c : Nat) (s1 s2 : Int32) (w2 : NS), c ≤ nN u + 1 → itr (lvS (fun o => bI (wbU (lec u o) == some L) + (mst (H - 3) (ph (lec u o)) L).1) L) (nN u + 1 - c) c (s1, s2) = (r1, r2) → nN w2 ≤ 5 → nN u + 1 - c < m → J M l x cX1_most 9 yX1_most 5 (eX r1 (fun ws => ∃ w2' : NS, nN w2' ≤ 5 ∧ ws = fl [lb x q a (hib, fh), nb x f u, nb x (a 2) w2'])) k0 n0 31 [(0, .ref (q 0)), (1, .ref (f 0)), (2, .int (nI L)), (3, .int (nI 2)), (4, .int (nI H)), (5, .ref ((a 2) 0)), (6, .int s1), (7, .int (oI (oc c)))] [] (fl [lb x q a (hib, fh), nb x f u, nb x (a 2) w2]) := by
  intro m; induction m with
  | zero => intro c s1 s2 w2 hc0 hc1 hc2 hm; exact absurd hm (Nat.not_lt_zero _)
  | succ m ih =>
    intro c s1 s2 w2 hc0 hc1 hc2 hm
    have hw2 := hc2
    refine j_iload 7 dX1_most_31 rfl ?_
    refine j_aload_n 1 dX1_most_33 rfl rfl ?_
    refine j_cVi (As := []) (rest := [.int (oI (oc c))]) (wr := fl [lb x q a (hib, fh), nb x (a 2) w2]) (ws' := fl [nb x f u, lb x q a (hib, fh), nb x (a 2) w2]) (uX2_lodgers l x f u ) kX2_lodgers 0 rfl rfl rfl vX1_35 dX1_most_34 (by decide) rfl rfl (Nat.le_of_ble_eq_true rfl) (pm_1 1 [0, 2] rfl rfl rfl) rfl ?_
    refine j_icmp_ge (tgt := 134) dX1_most_37 (by decide) (fun h37 => ?_) (fun h37 => ?_)
    · skip
      have hge := (oc_ge (by omega) (by omega)).mp h37
      refine j_iload 6 dX1_most_134 rfl ?_
      refine j_perm (fl [lb x q a (hib, fh), nb x f u, nb x (a 2) w2]) (pm_b [1, 0, 2] rfl rfl) ?_
      rw [itr_end (n := nN u + 1) (b := c) (by omega)] at hc1; cases hc1
      exact j_iret _ dX1_most_136 (List.Perm.refl _) ⟨rfl, w2, hc2, rfl⟩
    · skip
      have hge := mt (oc_ge (n := nN u) (c := c) (by omega) (by omega)).mpr h37
      refine j_iload 7 dX1_most_40 rfl ?_
      refine j_iload_n 2 dX1_most_42 rfl rfl ?_
      refine j_icmp_ne (tgt := 49) dX1_most_43 (by decide) (fun h43 => ?_) (fun h43 => ?_)
      · skip
        have hcl := mt (oc_eq (c := c) (l := L) (by omega) (by omega)).mpr h43
        refine j_aload 5 dX1_most_49 rfl ?_
        refine j_aload_n 1 dX1_most_51 rfl rfl ?_
        refine j_cVv (As := [.ref (f 0)]) (rest := []) (wr := fl [lb x q a (hib, fh)]) (ws' := fl [nb x (a 2) (cpy u w2), nb x f u, lb x q a (hib, fh)]) (uX2_copyFrom l x (a 2) w2 f u (by (try simp only [nN_ph, nN_lec, nN_cpy, nN_cof, nN_wak, nN_hrs]); omega)) kX2_copyFrom 0 rfl rfl rfl vX1_39 dX1_most_52 (by decide) rfl rfl (Nat.le_of_ble_eq_true rfl) (pm_2 2 0 [1] rfl rfl rfl rfl) (List.append_assoc _ _ _) ?_
        refine j_aload 5 dX1_most_55 rfl ?_
        refine j_iload 7 dX1_most_57 rfl ?_
        refine j_cVv (As := [.int (oI (oc c))]) (rest := []) (wr := fl [nb x f u, lb x q a (hib, fh)]) (ws' := fl [nb x (a 2) (lec (cpy u w2) (oc c)), nb x f u, lb x q a (hib, fh)]) (uX2_giveLecture l x (a 2) (cpy u w2) (by (try simp only [nN_ph, nN_lec, nN_cpy, nN_cof, nN_wak, nN_hrs]); omega) (oc c) (fun j e => by rw [nN_cpy]; exact oc_lt (by omega) e)) kX2_giveLecture 0 rfl rfl rfl vX1_43 dX1_most_59 (by decide) rfl rfl (Nat.le_of_ble_eq_true rfl) (pm_1 0 [1, 2] rfl rfl rfl) rfl ?_
        refine j_aload 5 dX1_most_62 rfl ?_
        refine j_cVi (As := []) (rest := []) (wr := fl [nb x f u, lb x q a (hib, fh)]) (ws' := fl [nb x (a 2) (lec (cpy u w2) (oc c)), nb x f u, lb x q a (hib, fh)]) (uX2_whoseBed l x (a 2) (lec (cpy u w2) (oc c)) (by (try simp only [nN_ph, nN_lec, nN_cpy, nN_cof, nN_wak, nN_hrs]); omega)) kX2_whoseBed 0 rfl rfl rfl vX1_47 dX1_most_64 (by decide) rfl rfl (Nat.le_of_ble_eq_true rfl) (pm_1 0 [1, 2] rfl rfl rfl) rfl ?_
        refine j_iload_n 2 dX1_most_67 rfl rfl ?_
        refine j_icmp_ne (tgt := 75) dX1_most_68 (by decide) (fun h68 => ?_) (fun h68 => ?_)
        · skip
          have hx : nN (lec (cpy u w2) (oc c)) = nN u := by rw [nN_lec, nN_cpy]
          have hb : (wbU (lec (cpy u w2) (oc c)) == some L) = false := by
            have : ¬ wbU (lec (cpy u w2) (oc c)) = some L := fun e => h68 ((oI_eq (by omega) (fun j e => by have := wbU_lt e; omega)).mpr e).symm
            simp [this]
          refine j_iconst (v := bI false) dX1_most_75 (by decide) ?_
          refine j_istore (lv' := [(8, .int (bI false)), (0, .ref (q 0)), (1, .ref (f 0)), (2, .int (nI L)), (3, .int (nI 2)), (4, .int (nI H)), (5, .ref ((a 2) 0)), (6, .int s1), (7, .int (oI (oc c)))]) dX1_most_76 (by decide) rfl ?_
          refine j_aload 6 dX1_most_78 rfl ?_
          refine j_cVv (As := []) (rest := []) (wr := fl [nb x f u, lb x q a (hib, fh)]) (ws' := fl [nb x (a 2) (ph (lec (cpy u w2) (oc c))), nb x f u, lb x q a (hib, fh)]) (uX2_passHour l x (a 2) (lec (cpy u w2) (oc c)) (by (try simp only [nN_ph, nN_lec, nN_cpy, nN_cof, nN_wak, nN_hrs]); omega)) kX2_passHour 0 rfl rfl rfl vX1_50 dX1_most_80 (by decide) rfl rfl (Nat.le_of_ble_eq_true rfl) (pm_1 0 [1, 2] rfl rfl rfl) rfl ?_
          refine j_iload 0 dX1_most_83 rfl ?_
          refine j_aload_n 1 dX1_most_85 rfl rfl ?_
          refine j_aload 6 dX1_most_86 rfl ?_
          refine j_iload_n 3 dX1_most_88 rfl rfl ?_
          refine j_iload_n 4 dX1_most_89 rfl rfl ?_
          refine j_iconst (v := 1) dX1_most_90 (by decide) ?_
          refine j_iadd dX1_most_91 ?_
          refine j_topi (b := nI 3) (by decide) ?_
          refine j_iload 5 dX1_most_92 rfl ?_
          refine j_callV (As := [.ref ((a 2) 0), .int (nI L), .int (nI 3), .int (nI H)]) (rest := [.int (bI false)]) (wr := fl [nb x f u]) (tmost3 l x q a (a 2) (ph (lec (cpy u w2) (oc c))) (by (try simp only [nN_ph, nN_lec, nN_cpy, nN_cof, nN_wak, nN_hrs]); omega) L (by (try simp only [nN_ph, nN_lec, nN_cpy, nN_cof, nN_wak, nN_hrs]); omega) H hH hib fh) kX1_most vX1_31 0 rfl rfl rfl dX1_most_94 (by decide) (Nat.le_of_eq (Nat.zero_add _)) (Nat.le_of_eq (Nat.zero_add _)) rfl rfl (Nat.le_of_ble_eq_true rfl) (pm_c [2, 0] [1] rfl rfl rfl) (fun v9 w9 hv9 => ?_)
          obtain ⟨rfl, rfl⟩ := hv9
          refine j_eq (lv' := [(8, .int (bI false)), (0, .ref (q 0)), (1, .ref (f 0)), (2, .int (nI L)), (3, .int (nI 2)), (4, .int (nI H)), (5, .ref ((a 2) 0)), (6, .int s1), (7, .int (oI (oc c)))]) (st' := [.int ((mst (H - 3) (ph (lec (cpy u w2) (oc c))) L).1), .int (bI false)]) (ws' := fl [lb x q a (hib, fh), nb x (a 2) (ph (lec (cpy u w2) (oc c))), nb x f u]) rfl rfl (fl_app _ _) ?_
          refine j_iadd dX1_most_97 ?_
          refine j_topi (b := (fun o => bI (wbU (lec u o) == some L) + (mst (H - 3) (ph (lec u o)) L).1) (oc c)) (val_eq (H - 3) u w2 (oc c) L (fun j e => oc_lt (by omega) e) hb) ?_
          refine j_istore (lv' := [(8, .int ((fun o => bI (wbU (lec u o) == some L) + (mst (H - 3) (ph (lec u o)) L).1) (oc c))), (0, .ref (q 0)), (1, .ref (f 0)), (2, .int (nI L)), (3, .int (nI 2)), (4, .int (nI H)), (5, .ref ((a 2) 0)), (6, .int s1), (7, .int (oI (oc c)))]) dX1_most_98 (by decide) rfl ?_
          refine j_iload 0 dX1_most_100 rfl ?_
          refine j_iload 7 dX1_most_102 rfl ?_
          refine j_icmp_le (tgt := 128) dX1_most_104 (by decide) (fun h104 => ?_) (fun h104 => ?_)
          · skip
            refine j_iinc (v := oI (oc (c + 1))) (lv' := [(7, .int (oI (oc (c + 1)))), (8, .int ((fun o => bI (wbU (lec u o) == some L) + (mst (H - 3) (ph (lec u o)) L).1) (oc c))), (0, .ref (q 0)), (1, .ref (f 0)), (2, .int (nI L)), (3, .int (nI 2)), (4, .int (nI H)), (5, .ref ((a 2) 0)), (6, .int s1)]) 8 dX1_most_128 rfl (oc_inc c) (by decide) rfl ?_
            refine j_goto (tgt := 31) dX1_most_131 (by decide) ?_
            refine j_lv [2, 3, 4, 5, 6, 7, 8, 0] (lv' := [(0, .ref (q 0)), (1, .ref (f 0)), (2, .int (nI L)), (3, .int (nI 2)), (4, .int (nI H)), (5, .ref ((a 2) 0)), (6, .int s1), (7, .int (oI (oc (c + 1))))]) rfl ?_
            refine j_perm (fl [lb x q a (hib, fh), nb x f u, nb x (a 2) (ph (lec (cpy u w2) (oc c)))]) (pm_b [0, 2, 1] rfl rfl) ?_
            refine ih (c + 1) _ s2 _ (by omega) ?_ (by (try simp only [nN_ph, nN_lec, nN_cpy, nN_cof, nN_wak, nN_hrs]); omega) (by omega)
            rw [← hc1, itr_go (n := nN u + 1) (b := c) (by omega)]; exact congrArg (itr (lvS (fun o => bI (wbU (lec u o) == some L) + (mst (H - 3) (ph (lec u o)) L).1) L) (nN u + 1 - (c + 1)) (c + 1)) (by first | (rw [lvS, if_pos hcl]; done) | (rw [lvS, if_neg hcl, if_pos h104]; done) | (rw [lvS, if_neg hcl, if_neg h104]; done))
          · skip
            refine j_iload 0 dX1_most_107 rfl ?_
            refine j_istore (lv' := [(6, .int ((fun o => bI (wbU (lec u o) == some L) + (mst (H - 3) (ph (lec u o)) L).1) (oc c))), (8, .int ((fun o => bI (wbU (lec u o) == some L) + (mst (H - 3) (ph (lec u o)) L).1) (oc c))), (0, .ref (q 0)), (1, .ref (f 0)), (2, .int (nI L)), (3, .int (nI 2)), (4, .int (nI H)), (5, .ref ((a 2) 0)), (7, .int (oI (oc c)))]) dX1_most_109 (by decide) rfl ?_
            refine j_aload_n 2 dX1_most_111 rfl rfl ?_
            refine j_iload_n 5 dX1_most_112 rfl rfl ?_
            refine j_if_ne (tgt := 121) dX1_most_113 (by decide) (fun h113 => ?_) (fun h113 => absurd h113 (show ¬ (nI 2 : Int32) = 0 by decide))
            refine j_aload_n 2 dX1_most_121 rfl rfl ?_
            refine j_get (v := .int fh) 0 dX1_most_122 fX1_22 rfl rfl ?_
            refine j_put (v := .int fh) (ws' := fl [lb x q a (hib, fh), nb x (a 2) (ph (lec (cpy u w2) (oc c))), nb x f u]) 0 dX1_most_125 fX1_22 rfl rfl rfl (Nat.le_of_ble_eq_true rfl) rfl ?_
            refine j_iinc (v := oI (oc (c + 1))) (lv' := [(7, .int (oI (oc (c + 1)))), (6, .int ((fun o => bI (wbU (lec u o) == some L) + (mst (H - 3) (ph (lec u o)) L).1) (oc c))), (8, .int ((fun o => bI (wbU (lec u o) == some L) + (mst (H - 3) (ph (lec u o)) L).1) (oc c))), (0, .ref (q 0)), (1, .ref (f 0)), (2, .int (nI L)), (3, .int (nI 2)), (4, .int (nI H)), (5, .ref ((a 2) 0))]) 8 dX1_most_128 rfl (oc_inc c) (by decide) rfl ?_
            refine j_goto (tgt := 31) dX1_most_131 (by decide) ?_
            refine j_lv [3, 4, 5, 6, 7, 8, 1, 0] (lv' := [(0, .ref (q 0)), (1, .ref (f 0)), (2, .int (nI L)), (3, .int (nI 2)), (4, .int (nI H)), (5, .ref ((a 2) 0)), (6, .int ((fun o => bI (wbU (lec u o) == some L) + (mst (H - 3) (ph (lec u o)) L).1) (oc c))), (7, .int (oI (oc (c + 1))))]) rfl ?_
            refine j_perm (fl [lb x q a (hib, fh), nb x f u, nb x (a 2) (ph (lec (cpy u w2) (oc c)))]) (pm_b [0, 2, 1] rfl rfl) ?_
            refine ih (c + 1) _ (oI (oc c)) _ (by omega) ?_ (by (try simp only [nN_ph, nN_lec, nN_cpy, nN_cof, nN_wak, nN_hrs]); omega) (by omega)
            rw [← hc1, itr_go (n := nN u + 1) (b := c) (by omega)]; exact congrArg (itr (lvS (fun o => bI (wbU (lec u o) == some L) + (mst (H - 3) (ph (lec u o)) L).1) L) (nN u + 1 - (c + 1)) (c + 1)) (by first | (rw [lvS, if_pos hcl]; done) | (rw [lvS, if_neg hcl, if_pos h104]; done) | (rw [lvS, if_neg hcl, if_neg h104]; done))
        · skip
          have hx : nN (lec (cpy u w2) (oc c)) = nN u := by rw [nN_lec, nN_cpy]
          have hb : (wbU (lec (cpy u w2) (oc c)) == some L) = true := by
            have : wbU (lec (cpy u w2) (oc c)) = some L := (oI_eq (by omega) (fun j e => by have := wbU_lt e; omega)).mp h68.symm
            simp [this]
          refine j_iconst (v := bI true) dX1_most_71 (by decide) ?_
          refine j_goto (tgt := 76) dX1_most_72 (by decide) ?_
          refine j_istore (lv' := [(8, .int (bI true)), (0, .ref (q 0)), (1, .ref (f 0)), (2, .int (nI L)), (3, .int (nI 2)), (4, .int (nI H)), (5, .ref ((a 2) 0)), (6, .int s1), (7, .int (oI (oc c)))]) dX1_most_76 (by decide) rfl ?_
          refine j_aload 6 dX1_most_78 rfl ?_
          refine j_cVv (As := []) (rest := []) (wr := fl [nb x f u, lb x q a (hib, fh)]) (ws' := fl [nb x (a 2) (ph (lec (cpy u w2) (oc c))), nb x f u, lb x q a (hib, fh)]) (uX2_passHour l x (a 2) (lec (cpy u w2) (oc c)) (by (try simp only [nN_ph, nN_lec, nN_cpy, nN_cof, nN_wak, nN_hrs]); omega)) kX2_passHour 0 rfl rfl rfl vX1_50 dX1_most_80 (by decide) rfl rfl (Nat.le_of_ble_eq_true rfl) (pm_1 0 [1, 2] rfl rfl rfl) rfl ?_
          refine j_iload 0 dX1_most_83 rfl ?_
          refine j_aload_n 1 dX1_most_85 rfl rfl ?_
          refine j_aload 6 dX1_most_86 rfl ?_
          refine j_iload_n 3 dX1_most_88 rfl rfl ?_
          refine j_iload_n 4 dX1_most_89 rfl rfl ?_
          refine j_iconst (v := 1) dX1_most_90 (by decide) ?_
          refine j_iadd dX1_most_91 ?_
          refine j_topi (b := nI 3) (by decide) ?_
          refine j_iload 5 dX1_most_92 rfl ?_
          refine j_callV (As := [.ref ((a 2) 0), .int (nI L), .int (nI 3), .int (nI H)]) (rest := [.int (bI true)]) (wr := fl [nb x f u]) (tmost3 l x q a (a 2) (ph (lec (cpy u w2) (oc c))) (by (try simp only [nN_ph, nN_lec, nN_cpy, nN_cof, nN_wak, nN_hrs]); omega) L (by (try simp only [nN_ph, nN_lec, nN_cpy, nN_cof, nN_wak, nN_hrs]); omega) H hH hib fh) kX1_most vX1_31 0 rfl rfl rfl dX1_most_94 (by decide) (Nat.le_of_eq (Nat.zero_add _)) (Nat.le_of_eq (Nat.zero_add _)) rfl rfl (Nat.le_of_ble_eq_true rfl) (pm_c [2, 0] [1] rfl rfl rfl) (fun v9 w9 hv9 => ?_)
          obtain ⟨rfl, rfl⟩ := hv9
          refine j_eq (lv' := [(8, .int (bI true)), (0, .ref (q 0)), (1, .ref (f 0)), (2, .int (nI L)), (3, .int (nI 2)), (4, .int (nI H)), (5, .ref ((a 2) 0)), (6, .int s1), (7, .int (oI (oc c)))]) (st' := [.int ((mst (H - 3) (ph (lec (cpy u w2) (oc c))) L).1), .int (bI true)]) (ws' := fl [lb x q a (hib, fh), nb x (a 2) (ph (lec (cpy u w2) (oc c))), nb x f u]) rfl rfl (fl_app _ _) ?_
          refine j_iadd dX1_most_97 ?_
          refine j_topi (b := (fun o => bI (wbU (lec u o) == some L) + (mst (H - 3) (ph (lec u o)) L).1) (oc c)) (val_eq (H - 3) u w2 (oc c) L (fun j e => oc_lt (by omega) e) hb) ?_
          refine j_istore (lv' := [(8, .int ((fun o => bI (wbU (lec u o) == some L) + (mst (H - 3) (ph (lec u o)) L).1) (oc c))), (0, .ref (q 0)), (1, .ref (f 0)), (2, .int (nI L)), (3, .int (nI 2)), (4, .int (nI H)), (5, .ref ((a 2) 0)), (6, .int s1), (7, .int (oI (oc c)))]) dX1_most_98 (by decide) rfl ?_
          refine j_iload 0 dX1_most_100 rfl ?_
          refine j_iload 7 dX1_most_102 rfl ?_
          refine j_icmp_le (tgt := 128) dX1_most_104 (by decide) (fun h104 => ?_) (fun h104 => ?_)
          · skip
            refine j_iinc (v := oI (oc (c + 1))) (lv' := [(7, .int (oI (oc (c + 1)))), (8, .int ((fun o => bI (wbU (lec u o) == some L) + (mst (H - 3) (ph (lec u o)) L).1) (oc c))), (0, .ref (q 0)), (1, .ref (f 0)), (2, .int (nI L)), (3, .int (nI 2)), (4, .int (nI H)), (5, .ref ((a 2) 0)), (6, .int s1)]) 8 dX1_most_128 rfl (oc_inc c) (by decide) rfl ?_
            refine j_goto (tgt := 31) dX1_most_131 (by decide) ?_
            refine j_lv [2, 3, 4, 5, 6, 7, 8, 0] (lv' := [(0, .ref (q 0)), (1, .ref (f 0)), (2, .int (nI L)), (3, .int (nI 2)), (4, .int (nI H)), (5, .ref ((a 2) 0)), (6, .int s1), (7, .int (oI (oc (c + 1))))]) rfl ?_
            refine j_perm (fl [lb x q a (hib, fh), nb x f u, nb x (a 2) (ph (lec (cpy u w2) (oc c)))]) (pm_b [0, 2, 1] rfl rfl) ?_
            refine ih (c + 1) _ s2 _ (by omega) ?_ (by (try simp only [nN_ph, nN_lec, nN_cpy, nN_cof, nN_wak, nN_hrs]); omega) (by omega)
            rw [← hc1, itr_go (n := nN u + 1) (b := c) (by omega)]; exact congrArg (itr (lvS (fun o => bI (wbU (lec u o) == some L) + (mst (H - 3) (ph (lec u o)) L).1) L) (nN u + 1 - (c + 1)) (c + 1)) (by first | (rw [lvS, if_pos hcl]; done) | (rw [lvS, if_neg hcl, if_pos h104]; done) | (rw [lvS, if_neg hcl, if_neg h104]; done))
          · skip
            refine j_iload 0 dX1_most_107 rfl ?_
            refine j_istore (lv' := [(6, .int ((fun o => bI (wbU (lec u o) == some L) + (mst (H - 3) (ph (lec u o)) L).1) (oc c))), (8, .int ((fun o => bI (wbU (lec u o) == some L) + (mst (H - 3) (ph (lec u o)) L).1) (oc c))), (0, .ref (q 0)), (1, .ref (f 0)), (2, .int (nI L)), (3, .int (nI 2)), (4, .int (nI H)), (5, .ref ((a 2) 0)), (7, .int (oI (oc c)))]) dX1_most_109 (by decide) rfl ?_
            refine j_aload_n 2 dX1_most_111 rfl rfl ?_
            refine j_iload_n 5 dX1_most_112 rfl rfl ?_
            refine j_if_ne (tgt := 121) dX1_most_113 (by decide) (fun h113 => ?_) (fun h113 => absurd h113 (show ¬ (nI 2 : Int32) = 0 by decide))
            refine j_aload_n 2 dX1_most_121 rfl rfl ?_
            refine j_get (v := .int fh) 0 dX1_most_122 fX1_22 rfl rfl ?_
            refine j_put (v := .int fh) (ws' := fl [lb x q a (hib, fh), nb x (a 2) (ph (lec (cpy u w2) (oc c))), nb x f u]) 0 dX1_most_125 fX1_22 rfl rfl rfl (Nat.le_of_ble_eq_true rfl) rfl ?_
            refine j_iinc (v := oI (oc (c + 1))) (lv' := [(7, .int (oI (oc (c + 1)))), (6, .int ((fun o => bI (wbU (lec u o) == some L) + (mst (H - 3) (ph (lec u o)) L).1) (oc c))), (8, .int ((fun o => bI (wbU (lec u o) == some L) + (mst (H - 3) (ph (lec u o)) L).1) (oc c))), (0, .ref (q 0)), (1, .ref (f 0)), (2, .int (nI L)), (3, .int (nI 2)), (4, .int (nI H)), (5, .ref ((a 2) 0))]) 8 dX1_most_128 rfl (oc_inc c) (by decide) rfl ?_
            refine j_goto (tgt := 31) dX1_most_131 (by decide) ?_
            refine j_lv [3, 4, 5, 6, 7, 8, 1, 0] (lv' := [(0, .ref (q 0)), (1, .ref (f 0)), (2, .int (nI L)), (3, .int (nI 2)), (4, .int (nI H)), (5, .ref ((a 2) 0)), (6, .int ((fun o => bI (wbU (lec u o) == some L) + (mst (H - 3) (ph (lec u o)) L).1) (oc c))), (7, .int (oI (oc (c + 1))))]) rfl ?_
            refine j_perm (fl [lb x q a (hib, fh), nb x f u, nb x (a 2) (ph (lec (cpy u w2) (oc c)))]) (pm_b [0, 2, 1] rfl rfl) ?_
            refine ih (c + 1) _ (oI (oc c)) _ (by omega) ?_ (by (try simp only [nN_ph, nN_lec, nN_cpy, nN_cof, nN_wak, nN_hrs]); omega) (by omega)
            rw [← hc1, itr_go (n := nN u + 1) (b := c) (by omega)]; exact congrArg (itr (lvS (fun o => bI (wbU (lec u o) == some L) + (mst (H - 3) (ph (lec u o)) L).1) L) (nN u + 1 - (c + 1)) (c + 1)) (by first | (rw [lvS, if_pos hcl]; done) | (rw [lvS, if_neg hcl, if_pos h104]; done) | (rw [lvS, if_neg hcl, if_neg h104]; done))
      · skip
        have hcl := (oc_eq (c := c) (l := L) (by omega) (by omega)).mp h43
        refine j_goto (tgt := 128) dX1_most_46 (by decide) ?_
        refine j_iinc (v := oI (oc (c + 1))) (lv' := [(7, .int (oI (oc (c + 1)))), (0, .ref (q 0)), (1, .ref (f 0)), (2, .int (nI L)), (3, .int (nI 2)), (4, .int (nI H)), (5, .ref ((a 2) 0)), (6, .int s1)]) 7 dX1_most_128 rfl (oc_inc c) (by decide) rfl ?_
        refine j_goto (tgt := 31) dX1_most_131 (by decide) ?_
        refine j_lv [1, 2, 3, 4, 5, 6, 7, 0] (lv' := [(0, .ref (q 0)), (1, .ref (f 0)), (2, .int (nI L)), (3, .int (nI 2)), (4, .int (nI H)), (5, .ref ((a 2) 0)), (6, .int s1), (7, .int (oI (oc (c + 1))))]) rfl ?_
        refine j_perm (fl [lb x q a (hib, fh), nb x f u, nb x (a 2) w2]) (pm_b [1, 0, 2] rfl rfl) ?_
        refine ih (c + 1) _ s2 _ (by omega) ?_ hc2 (by omega)
        rw [← hc1, itr_go (n := nN u + 1) (b := c) (by omega)]; exact congrArg (itr (lvS (fun o => bI (wbU (lec u o) == some L) + (mst (H - 3) (ph (lec u o)) L).1) L) (nN u + 1 - (c + 1)) (c + 1)) (by first | (rw [lvS, if_pos hcl]; done) | (rw [lvS, if_neg hcl, if_pos h104]; done) | (rw [lvS, if_neg hcl, if_neg h104]; done))
set_option maxHeartbeats 4000000 in
set_option maxRecDepth 100000 in
theorem tmost2 (l : Launch) (x : Cx) (q : Nat → Nat) (a : Nat → Nat → Nat) (f : Nat → Nat) (u : NS) (hu : nN u ≤ 5) (L : Nat) (hL : L < nN u) (H : Nat) (hH : H ≤ 3) (hib fh : Int32) (w2 : NS) (hw2 : nN w2 ≤ 5) : MC l x 5 0 0 yX1_most cX1_most 9 (some .int) [.ref (q 0), .ref (f 0), .int (nI L), .int (nI 2), .int (nI H)] (fl [lb x q a (hib, fh), nb x f u, nb x (a 2) w2]) (eX (mst (H - 2) u L).1 (fun ws => ∃ w2' : NS, nN w2' ≤ 5 ∧ ws = fl [lb x q a (hib, fh), nb x f u, nb x (a 2) w2'])) := by
  refine MC.of (by decide) (Nat.le_of_ble_eq_true rfl) eXI_fit (fun M => ?_)
  show J M l x cX1_most 9 yX1_most 5 (eX (mst (H - 2) u L).1 (fun ws => ∃ w2' : NS, nN w2' ≤ 5 ∧ ws = fl [lb x q a (hib, fh), nb x f u, nb x (a 2) w2'])) 0 0 0 [(0, .ref (q 0)), (1, .ref (f 0)), (2, .int (nI L)), (3, .int (nI 2)), (4, .int (nI H))] [] (fl [lb x q a (hib, fh), nb x f u, nb x (a 2) w2])
  by_cases hA : 2 < H
  · skip
    refine j_iload_n 3 dX1_most_0 rfl rfl ?_
    refine j_iload 4 dX1_most_1 rfl ?_
    refine j_icmpN_ge (a := 2) (b := H) (by omega) (by omega) (tgt := 15) dX1_most_3 (by decide) (fun h3 => by omega) (fun h3 => ?_)
    refine j_iload_n 3 dX1_most_6 rfl rfl ?_
    refine j_aload_n 0 dX1_most_7 rfl rfl ?_
    refine j_get (v := .ref (q 1)) 0 dX1_most_8 fX1_11 rfl rfl ?_
    refine j_alen (v := nI 3) 1 3 dX1_most_11 rfl rfl rfl ?_
    refine j_icmpN_lt (a := 2) (b := 3) (by omega) (by omega) (tgt := 17) dX1_most_12 (by decide) (fun h12 => ?_) (fun h12 => by omega)
    refine j_aload_n 0 dX1_most_17 rfl rfl ?_
    refine j_get (v := .ref (q 1)) 0 dX1_most_18 fX1_11 rfl rfl ?_
    refine j_iload_n 3 dX1_most_21 rfl rfl ?_
    refine j_aald (b := a 2 0) (f := fun i => if i < 3 then some (a i 0) else none) 1 dX1_most_22 rfl (vp_in_nI (show 2 < 3 by decide) (by decide)) rfl ?_
    refine j_astore (lv' := [(5, .ref ((a 2) 0)), (0, .ref (q 0)), (1, .ref (f 0)), (2, .int (nI L)), (3, .int (nI 2)), (4, .int (nI H))]) dX1_most_23 (by decide) rfl ?_
    refine j_iconst (v := (-1)) dX1_most_25 (by decide) ?_
    refine j_istore (lv' := [(6, .int (-1)), (5, .ref ((a 2) 0)), (0, .ref (q 0)), (1, .ref (f 0)), (2, .int (nI L)), (3, .int (nI 2)), (4, .int (nI H))]) dX1_most_26 (by decide) rfl ?_
    refine j_iconst (v := (-1)) dX1_most_28 (by decide) ?_
    refine j_istore (lv' := [(7, .int (-1)), (6, .int (-1)), (5, .ref ((a 2) 0)), (0, .ref (q 0)), (1, .ref (f 0)), (2, .int (nI L)), (3, .int (nI 2)), (4, .int (nI H))]) dX1_most_29 (by decide) rfl ?_
    refine j_lv [3, 4, 5, 6, 7, 2, 1, 0] (lv' := [(0, .ref (q 0)), (1, .ref (f 0)), (2, .int (nI L)), (3, .int (nI 2)), (4, .int (nI H)), (5, .ref ((a 2) 0)), (6, .int (-1)), (7, .int (-1))]) rfl ?_
    have e : mst (H - 2) u L = itr (lvS (fun o => bI (wbU (lec u o) == some L) + (mst (H - 3) (ph (lec u o)) L).1) L) (nN u + 1) 0 (-1, -1) := by rw [show H - 2 = (H - 3) + 1 by omega, mst]
    have hl := lp_most2 (M := M) (k0 := 0) (n0 := 0) l x q a f u hu L hL H hH hib (mst (H - 2) u L).1 (mst (H - 2) u L).2 fh hA (nN u + 2) 0 (-1) (-1) w2 (by omega) (by rw [e]; rfl) hw2 (by omega)
    exact hl
  · skip
    refine j_iload_n 3 dX1_most_0 rfl rfl ?_
    refine j_iload 4 dX1_most_1 rfl ?_
    refine j_icmpN_ge (a := 2) (b := H) (by omega) (by omega) (tgt := 15) dX1_most_3 (by decide) (fun h3 => ?_) (fun h3 => by omega)
    refine j_iconst (v := 0) dX1_most_15 (by decide) ?_
    exact j_iret _ dX1_most_16 (List.Perm.refl _) ⟨by rw [show H - 2 = 0 by omega]; rfl, w2, hw2, rfl⟩
set_option maxHeartbeats 4000000 in
set_option maxRecDepth 100000 in
theorem lp_most1 {M : Mx} (l : Launch) (x : Cx) (q : Nat → Nat) (a : Nat → Nat → Nat) (f : Nat → Nat) (u : NS) (hu : nN u ≤ 5) (L : Nat) (hL : L < nN u) (H : Nat) (hH : H ≤ 3) (hib r1 r2 : Int32) (fh : Int32) (hA : 1 < H) {k0 n0 : Nat}  : ∀ (m : Nat) (c : Nat) (s1 s2 : Int32) (w1 : NS) (w2 : NS), c ≤ nN u + 1 → itr (lvS (fun o => bI (wbU (lec u o) == some L) + (mst (H - 2) (ph (lec u o)) L).1) L) (nN u + 1 - c) c (s1, s2) = (r1, r2) → nN w1 ≤ 5 → nN w2 ≤ 5 → nN u + 1 - c < m → J M l x cX1_most 9 yX1_most 6 (eX r1 (fun ws => ∃ w1' : NS, nN w1' ≤ 5 ∧ ∃ w2' : NS, nN w2' ≤ 5 ∧ ws = fl [lb x q a (hib, fh), nb x f u, nb x (a 1) w1', nb x (a 2) w2'])) k0 n0 31 [(0, .ref (q 0)), (1, .ref (f 0)), (2, .int (nI L)), (3, .int (nI 1)), (4, .int (nI H)), (5, .ref ((a 1) 0)), (6, .int s1), (7, .int (oI (oc c)))] [] (fl [lb x q a (hib, fh), nb x f u, nb x (a 1) w1, nb x (a 2) w2]) := by
  intro m; induction m with
  | zero => intro c s1 s2 w1 w2 hc0 hc1 hc2 hc3 hm; exact absurd hm (Nat.not_lt_zero _)
  | succ m ih =>
    intro c s1 s2 w1 w2 hc0 hc1 hc2 hc3 hm
    have hw1 := hc2
    have hw2 := hc3
    refine j_iload 7 dX1_most_31 rfl ?_
    refine j_aload_n 1 dX1_most_33 rfl rfl ?_
    refine j_cVi (As := []) (rest := [.int (oI (oc c))]) (wr := fl [lb x q a (hib, fh), nb x (a 1) w1, nb x (a 2) w2]) (ws' := fl [nb x f u, lb x q a (hib, fh), nb x (a 1) w1, nb x (a 2) w2]) (uX2_lodgers l x f u ) kX2_lodgers 0 rfl rfl rfl vX1_35 dX1_most_34 (by decide) rfl rfl (Nat.le_of_ble_eq_true rfl) (pm_1 1 [0, 2, 3] rfl rfl rfl) rfl ?_
    refine j_icmp_ge (tgt := 134) dX1_most_37 (by decide) (fun h37 => ?_) (fun h37 => ?_)
    · skip
      have hge := (oc_ge (by omega) (by omega)).mp h37
      refine j_iload 6 dX1_most_134 rfl ?_
      refine j_perm (fl [lb x q a (hib, fh), nb x f u, nb x (a 1) w1, nb x (a 2) w2]) (pm_b [1, 0, 2, 3] rfl rfl) ?_
      rw [itr_end (n := nN u + 1) (b := c) (by omega)] at hc1; cases hc1
      exact j_iret _ dX1_most_136 (List.Perm.refl _) ⟨rfl, w1, hc2, w2, hc3, rfl⟩
    · skip
      have hge := mt (oc_ge (n := nN u) (c := c) (by omega) (by omega)).mpr h37
      refine j_iload 7 dX1_most_40 rfl ?_
      refine j_iload_n 2 dX1_most_42 rfl rfl ?_
      refine j_icmp_ne (tgt := 49) dX1_most_43 (by decide) (fun h43 => ?_) (fun h43 => ?_)
      · skip
        have hcl := mt (oc_eq (c := c) (l := L) (by omega) (by omega)).mpr h43
        refine j_aload 5 dX1_most_49 rfl ?_
        refine j_aload_n 1 dX1_most_51 rfl rfl ?_
        refine j_cVv (As := [.ref (f 0)]) (rest := []) (wr := fl [lb x q a (hib, fh), nb x (a 2) w2]) (ws' := fl [nb x (a 1) (cpy u w1), nb x f u, lb x q a (hib, fh), nb x (a 2) w2]) (uX2_copyFrom l x (a 1) w1 f u (by (try simp only [nN_ph, nN_lec, nN_cpy, nN_cof, nN_wak, nN_hrs]); omega)) kX2_copyFrom 0 rfl rfl rfl vX1_39 dX1_most_52 (by decide) rfl rfl (Nat.le_of_ble_eq_true rfl) (pm_2 2 0 [1, 3] rfl rfl rfl rfl) (List.append_assoc _ _ _) ?_
        refine j_aload 5 dX1_most_55 rfl ?_
        refine j_iload 7 dX1_most_57 rfl ?_
        refine j_cVv (As := [.int (oI (oc c))]) (rest := []) (wr := fl [nb x f u, lb x q a (hib, fh), nb x (a 2) w2]) (ws' := fl [nb x (a 1) (lec (cpy u w1) (oc c)), nb x f u, lb x q a (hib, fh), nb x (a 2) w2]) (uX2_giveLecture l x (a 1) (cpy u w1) (by (try simp only [nN_ph, nN_lec, nN_cpy, nN_cof, nN_wak, nN_hrs]); omega) (oc c) (fun j e => by rw [nN_cpy]; exact oc_lt (by omega) e)) kX2_giveLecture 0 rfl rfl rfl vX1_43 dX1_most_59 (by decide) rfl rfl (Nat.le_of_ble_eq_true rfl) (pm_1 0 [1, 2, 3] rfl rfl rfl) rfl ?_
        refine j_aload 5 dX1_most_62 rfl ?_
        refine j_cVi (As := []) (rest := []) (wr := fl [nb x f u, lb x q a (hib, fh), nb x (a 2) w2]) (ws' := fl [nb x (a 1) (lec (cpy u w1) (oc c)), nb x f u, lb x q a (hib, fh), nb x (a 2) w2]) (uX2_whoseBed l x (a 1) (lec (cpy u w1) (oc c)) (by (try simp only [nN_ph, nN_lec, nN_cpy, nN_cof, nN_wak, nN_hrs]); omega)) kX2_whoseBed 0 rfl rfl rfl vX1_47 dX1_most_64 (by decide) rfl rfl (Nat.le_of_ble_eq_true rfl) (pm_1 0 [1, 2, 3] rfl rfl rfl) rfl ?_
        refine j_iload_n 2 dX1_most_67 rfl rfl ?_
        refine j_icmp_ne (tgt := 75) dX1_most_68 (by decide) (fun h68 => ?_) (fun h68 => ?_)
        · skip
          have hx : nN (lec (cpy u w1) (oc c)) = nN u := by rw [nN_lec, nN_cpy]
          have hb : (wbU (lec (cpy u w1) (oc c)) == some L) = false := by
            have : ¬ wbU (lec (cpy u w1) (oc c)) = some L := fun e => h68 ((oI_eq (by omega) (fun j e => by have := wbU_lt e; omega)).mpr e).symm
            simp [this]
          refine j_iconst (v := bI false) dX1_most_75 (by decide) ?_
          refine j_istore (lv' := [(8, .int (bI false)), (0, .ref (q 0)), (1, .ref (f 0)), (2, .int (nI L)), (3, .int (nI 1)), (4, .int (nI H)), (5, .ref ((a 1) 0)), (6, .int s1), (7, .int (oI (oc c)))]) dX1_most_76 (by decide) rfl ?_
          refine j_aload 6 dX1_most_78 rfl ?_
          refine j_cVv (As := []) (rest := []) (wr := fl [nb x f u, lb x q a (hib, fh), nb x (a 2) w2]) (ws' := fl [nb x (a 1) (ph (lec (cpy u w1) (oc c))), nb x f u, lb x q a (hib, fh), nb x (a 2) w2]) (uX2_passHour l x (a 1) (lec (cpy u w1) (oc c)) (by (try simp only [nN_ph, nN_lec, nN_cpy, nN_cof, nN_wak, nN_hrs]); omega)) kX2_passHour 0 rfl rfl rfl vX1_50 dX1_most_80 (by decide) rfl rfl (Nat.le_of_ble_eq_true rfl) (pm_1 0 [1, 2, 3] rfl rfl rfl) rfl ?_
          refine j_iload 0 dX1_most_83 rfl ?_
          refine j_aload_n 1 dX1_most_85 rfl rfl ?_
          refine j_aload 6 dX1_most_86 rfl ?_
          refine j_iload_n 3 dX1_most_88 rfl rfl ?_
          refine j_iload_n 4 dX1_most_89 rfl rfl ?_
          refine j_iconst (v := 1) dX1_most_90 (by decide) ?_
          refine j_iadd dX1_most_91 ?_
          refine j_topi (b := nI 2) (by decide) ?_
          refine j_iload 5 dX1_most_92 rfl ?_
          refine j_callV (As := [.ref ((a 1) 0), .int (nI L), .int (nI 2), .int (nI H)]) (rest := [.int (bI false)]) (wr := fl [nb x f u]) (tmost2 l x q a (a 1) (ph (lec (cpy u w1) (oc c))) (by (try simp only [nN_ph, nN_lec, nN_cpy, nN_cof, nN_wak, nN_hrs]); omega) L (by (try simp only [nN_ph, nN_lec, nN_cpy, nN_cof, nN_wak, nN_hrs]); omega) H hH hib fh w2 hw2) kX1_most vX1_31 0 rfl rfl rfl dX1_most_94 (by decide) (Nat.le_of_eq (Nat.zero_add _)) (Nat.le_of_eq (Nat.zero_add _)) rfl rfl (Nat.le_of_ble_eq_true rfl) (pm_c [2, 0, 3] [1] rfl rfl rfl) (fun v9 w9 hv9 => ?_)
          obtain ⟨rfl, y2, hy2, rfl⟩ := hv9
          refine j_eq (lv' := [(8, .int (bI false)), (0, .ref (q 0)), (1, .ref (f 0)), (2, .int (nI L)), (3, .int (nI 1)), (4, .int (nI H)), (5, .ref ((a 1) 0)), (6, .int s1), (7, .int (oI (oc c)))]) (st' := [.int ((mst (H - 2) (ph (lec (cpy u w1) (oc c))) L).1), .int (bI false)]) (ws' := fl [lb x q a (hib, fh), nb x (a 1) (ph (lec (cpy u w1) (oc c))), nb x (a 2) y2, nb x f u]) rfl rfl (fl_app _ _) ?_
          refine j_iadd dX1_most_97 ?_
          refine j_topi (b := (fun o => bI (wbU (lec u o) == some L) + (mst (H - 2) (ph (lec u o)) L).1) (oc c)) (val_eq (H - 2) u w1 (oc c) L (fun j e => oc_lt (by omega) e) hb) ?_
          refine j_istore (lv' := [(8, .int ((fun o => bI (wbU (lec u o) == some L) + (mst (H - 2) (ph (lec u o)) L).1) (oc c))), (0, .ref (q 0)), (1, .ref (f 0)), (2, .int (nI L)), (3, .int (nI 1)), (4, .int (nI H)), (5, .ref ((a 1) 0)), (6, .int s1), (7, .int (oI (oc c)))]) dX1_most_98 (by decide) rfl ?_
          refine j_iload 0 dX1_most_100 rfl ?_
          refine j_iload 7 dX1_most_102 rfl ?_
          refine j_icmp_le (tgt := 128) dX1_most_104 (by decide) (fun h104 => ?_) (fun h104 => ?_)
          · skip
            refine j_iinc (v := oI (oc (c + 1))) (lv' := [(7, .int (oI (oc (c + 1)))), (8, .int ((fun o => bI (wbU (lec u o) == some L) + (mst (H - 2) (ph (lec u o)) L).1) (oc c))), (0, .ref (q 0)), (1, .ref (f 0)), (2, .int (nI L)), (3, .int (nI 1)), (4, .int (nI H)), (5, .ref ((a 1) 0)), (6, .int s1)]) 8 dX1_most_128 rfl (oc_inc c) (by decide) rfl ?_
            refine j_goto (tgt := 31) dX1_most_131 (by decide) ?_
            refine j_lv [2, 3, 4, 5, 6, 7, 8, 0] (lv' := [(0, .ref (q 0)), (1, .ref (f 0)), (2, .int (nI L)), (3, .int (nI 1)), (4, .int (nI H)), (5, .ref ((a 1) 0)), (6, .int s1), (7, .int (oI (oc (c + 1))))]) rfl ?_
            refine j_perm (fl [lb x q a (hib, fh), nb x f u, nb x (a 1) (ph (lec (cpy u w1) (oc c))), nb x (a 2) y2]) (pm_b [0, 3, 1, 2] rfl rfl) ?_
            refine ih (c + 1) _ s2 _ _ (by omega) ?_ (by (try simp only [nN_ph, nN_lec, nN_cpy, nN_cof, nN_wak, nN_hrs]); omega) hy2 (by omega)
            rw [← hc1, itr_go (n := nN u + 1) (b := c) (by omega)]; exact congrArg (itr (lvS (fun o => bI (wbU (lec u o) == some L) + (mst (H - 2) (ph (lec u o)) L).1) L) (nN u + 1 - (c + 1)) (c + 1)) (by first | (rw [lvS, if_pos hcl]; done) | (rw [lvS, if_neg hcl, if_pos h104]; done) | (rw [lvS, if_neg hcl, if_neg h104]; done))
          · skip
            refine j_iload 0 dX1_most_107 rfl ?_
            refine j_istore (lv' := [(6, .int ((fun o => bI (wbU (lec u o) == some L) + (mst (H - 2) (ph (lec u o)) L).1) (oc c))), (8, .int ((fun o => bI (wbU (lec u o) == some L) + (mst (H - 2) (ph (lec u o)) L).1) (oc c))), (0, .ref (q 0)), (1, .ref (f 0)), (2, .int (nI L)), (3, .int (nI 1)), (4, .int (nI H)), (5, .ref ((a 1) 0)), (7, .int (oI (oc c)))]) dX1_most_109 (by decide) rfl ?_
            refine j_aload_n 2 dX1_most_111 rfl rfl ?_
            refine j_iload_n 5 dX1_most_112 rfl rfl ?_
            refine j_if_ne (tgt := 121) dX1_most_113 (by decide) (fun h113 => ?_) (fun h113 => absurd h113 (show ¬ (nI 1 : Int32) = 0 by decide))
            refine j_aload_n 2 dX1_most_121 rfl rfl ?_
            refine j_get (v := .int fh) 0 dX1_most_122 fX1_22 rfl rfl ?_
            refine j_put (v := .int fh) (ws' := fl [lb x q a (hib, fh), nb x (a 1) (ph (lec (cpy u w1) (oc c))), nb x (a 2) y2, nb x f u]) 0 dX1_most_125 fX1_22 rfl rfl rfl (Nat.le_of_ble_eq_true rfl) rfl ?_
            refine j_iinc (v := oI (oc (c + 1))) (lv' := [(7, .int (oI (oc (c + 1)))), (6, .int ((fun o => bI (wbU (lec u o) == some L) + (mst (H - 2) (ph (lec u o)) L).1) (oc c))), (8, .int ((fun o => bI (wbU (lec u o) == some L) + (mst (H - 2) (ph (lec u o)) L).1) (oc c))), (0, .ref (q 0)), (1, .ref (f 0)), (2, .int (nI L)), (3, .int (nI 1)), (4, .int (nI H)), (5, .ref ((a 1) 0))]) 8 dX1_most_128 rfl (oc_inc c) (by decide) rfl ?_
            refine j_goto (tgt := 31) dX1_most_131 (by decide) ?_
            refine j_lv [3, 4, 5, 6, 7, 8, 1, 0] (lv' := [(0, .ref (q 0)), (1, .ref (f 0)), (2, .int (nI L)), (3, .int (nI 1)), (4, .int (nI H)), (5, .ref ((a 1) 0)), (6, .int ((fun o => bI (wbU (lec u o) == some L) + (mst (H - 2) (ph (lec u o)) L).1) (oc c))), (7, .int (oI (oc (c + 1))))]) rfl ?_
            refine j_perm (fl [lb x q a (hib, fh), nb x f u, nb x (a 1) (ph (lec (cpy u w1) (oc c))), nb x (a 2) y2]) (pm_b [0, 3, 1, 2] rfl rfl) ?_
            refine ih (c + 1) _ (oI (oc c)) _ _ (by omega) ?_ (by (try simp only [nN_ph, nN_lec, nN_cpy, nN_cof, nN_wak, nN_hrs]); omega) hy2 (by omega)
            rw [← hc1, itr_go (n := nN u + 1) (b := c) (by omega)]; exact congrArg (itr (lvS (fun o => bI (wbU (lec u o) == some L) + (mst (H - 2) (ph (lec u o)) L).1) L) (nN u + 1 - (c + 1)) (c + 1)) (by first | (rw [lvS, if_pos hcl]; done) | (rw [lvS, if_neg hcl, if_pos h104]; done) | (rw [lvS, if_neg hcl, if_neg h104]; done))
        · skip
          have hx : nN (lec (cpy u w1) (oc c)) = nN u := by rw [nN_lec, nN_cpy]
          have hb : (wbU (lec (cpy u w1) (oc c)) == some L) = true := by
            have : wbU (lec (cpy u w1) (oc c)) = some L := (oI_eq (by omega) (fun j e => by have := wbU_lt e; omega)).mp h68.symm
            simp [this]
          refine j_iconst (v := bI true) dX1_most_71 (by decide) ?_
          refine j_goto (tgt := 76) dX1_most_72 (by decide) ?_
          refine j_istore (lv' := [(8, .int (bI true)), (0, .ref (q 0)), (1, .ref (f 0)), (2, .int (nI L)), (3, .int (nI 1)), (4, .int (nI H)), (5, .ref ((a 1) 0)), (6, .int s1), (7, .int (oI (oc c)))]) dX1_most_76 (by decide) rfl ?_
          refine j_aload 6 dX1_most_78 rfl ?_
          refine j_cVv (As := []) (rest := []) (wr := fl [nb x f u, lb x q a (hib, fh), nb x (a 2) w2]) (ws' := fl [nb x (a 1) (ph (lec (cpy u w1) (oc c))), nb x f u, lb x q a (hib, fh), nb x (a 2) w2]) (uX2_passHour l x (a 1) (lec (cpy u w1) (oc c)) (by (try simp only [nN_ph, nN_lec, nN_cpy, nN_cof, nN_wak, nN_hrs]); omega)) kX2_passHour 0 rfl rfl rfl vX1_50 dX1_most_80 (by decide) rfl rfl (Nat.le_of_ble_eq_true rfl) (pm_1 0 [1, 2, 3] rfl rfl rfl) rfl ?_
          refine j_iload 0 dX1_most_83 rfl ?_
          refine j_aload_n 1 dX1_most_85 rfl rfl ?_
          refine j_aload 6 dX1_most_86 rfl ?_
          refine j_iload_n 3 dX1_most_88 rfl rfl ?_
          refine j_iload_n 4 dX1_most_89 rfl rfl ?_
          refine j_iconst (v := 1) dX1_most_90 (by decide) ?_
          refine j_iadd dX1_most_91 ?_
          refine j_topi (b := nI 2) (by decide) ?_
          refine j_iload 5 dX1_most_92 rfl ?_
          refine j_callV (As := [.ref ((a 1) 0), .int (nI L), .int (nI 2), .int (nI H)]) (rest := [.int (bI true)]) (wr := fl [nb x f u]) (tmost2 l x q a (a 1) (ph (lec (cpy u w1) (oc c))) (by (try simp only [nN_ph, nN_lec, nN_cpy, nN_cof, nN_wak, nN_hrs]); omega) L (by (try simp only [nN_ph, nN_lec, nN_cpy, nN_cof, nN_wak, nN_hrs]); omega) H hH hib fh w2 hw2) kX1_most vX1_31 0 rfl rfl rfl dX1_most_94 (by decide) (Nat.le_of_eq (Nat.zero_add _)) (Nat.le_of_eq (Nat.zero_add _)) rfl rfl (Nat.le_of_ble_eq_true rfl) (pm_c [2, 0, 3] [1] rfl rfl rfl) (fun v9 w9 hv9 => ?_)
          obtain ⟨rfl, y2, hy2, rfl⟩ := hv9
          refine j_eq (lv' := [(8, .int (bI true)), (0, .ref (q 0)), (1, .ref (f 0)), (2, .int (nI L)), (3, .int (nI 1)), (4, .int (nI H)), (5, .ref ((a 1) 0)), (6, .int s1), (7, .int (oI (oc c)))]) (st' := [.int ((mst (H - 2) (ph (lec (cpy u w1) (oc c))) L).1), .int (bI true)]) (ws' := fl [lb x q a (hib, fh), nb x (a 1) (ph (lec (cpy u w1) (oc c))), nb x (a 2) y2, nb x f u]) rfl rfl (fl_app _ _) ?_
          refine j_iadd dX1_most_97 ?_
          refine j_topi (b := (fun o => bI (wbU (lec u o) == some L) + (mst (H - 2) (ph (lec u o)) L).1) (oc c)) (val_eq (H - 2) u w1 (oc c) L (fun j e => oc_lt (by omega) e) hb) ?_
          refine j_istore (lv' := [(8, .int ((fun o => bI (wbU (lec u o) == some L) + (mst (H - 2) (ph (lec u o)) L).1) (oc c))), (0, .ref (q 0)), (1, .ref (f 0)), (2, .int (nI L)), (3, .int (nI 1)), (4, .int (nI H)), (5, .ref ((a 1) 0)), (6, .int s1), (7, .int (oI (oc c)))]) dX1_most_98 (by decide) rfl ?_
          refine j_iload 0 dX1_most_100 rfl ?_
          refine j_iload 7 dX1_most_102 rfl ?_
          refine j_icmp_le (tgt := 128) dX1_most_104 (by decide) (fun h104 => ?_) (fun h104 => ?_)
          · skip
            refine j_iinc (v := oI (oc (c + 1))) (lv' := [(7, .int (oI (oc (c + 1)))), (8, .int ((fun o => bI (wbU (lec u o) == some L) + (mst (H - 2) (ph (lec u o)) L).1) (oc c))), (0, .ref (q 0)), (1, .ref (f 0)), (2, .int (nI L)), (3, .int (nI 1)), (4, .int (nI H)), (5, .ref ((a 1) 0)), (6, .int s1)]) 8 dX1_most_128 rfl (oc_inc c) (by decide) rfl ?_
            refine j_goto (tgt := 31) dX1_most_131 (by decide) ?_
            refine j_lv [2, 3, 4, 5, 6, 7, 8, 0] (lv' := [(0, .ref (q 0)), (1, .ref (f 0)), (2, .int (nI L)), (3, .int (nI 1)), (4, .int (nI H)), (5, .ref ((a 1) 0)), (6, .int s1), (7, .int (oI (oc (c + 1))))]) rfl ?_
            refine j_perm (fl [lb x q a (hib, fh), nb x f u, nb x (a 1) (ph (lec (cpy u w1) (oc c))), nb x (a 2) y2]) (pm_b [0, 3, 1, 2] rfl rfl) ?_
            refine ih (c + 1) _ s2 _ _ (by omega) ?_ (by (try simp only [nN_ph, nN_lec, nN_cpy, nN_cof, nN_wak, nN_hrs]); omega) hy2 (by omega)
            rw [← hc1, itr_go (n := nN u + 1) (b := c) (by omega)]; exact congrArg (itr (lvS (fun o => bI (wbU (lec u o) == some L) + (mst (H - 2) (ph (lec u o)) L).1) L) (nN u + 1 - (c + 1)) (c + 1)) (by first | (rw [lvS, if_pos hcl]; done) | (rw [lvS, if_neg hcl, if_pos h104]; done) | (rw [lvS, if_neg hcl, if_neg h104]; done))
          · skip
            refine j_iload 0 dX1_most_107 rfl ?_
            refine j_istore (lv' := [(6, .int ((fun o => bI (wbU (lec u o) == some L) + (mst (H - 2) (ph (lec u o)) L).1) (oc c))), (8, .int ((fun o => bI (wbU (lec u o) == some L) + (mst (H - 2) (ph (lec u o)) L).1) (oc c))), (0, .ref (q 0)), (1, .ref (f 0)), (2, .int (nI L)), (3, .int (nI 1)), (4, .int (nI H)), (5, .ref ((a 1) 0)), (7, .int (oI (oc c)))]) dX1_most_109 (by decide) rfl ?_
            refine j_aload_n 2 dX1_most_111 rfl rfl ?_
            refine j_iload_n 5 dX1_most_112 rfl rfl ?_
            refine j_if_ne (tgt := 121) dX1_most_113 (by decide) (fun h113 => ?_) (fun h113 => absurd h113 (show ¬ (nI 1 : Int32) = 0 by decide))
            refine j_aload_n 2 dX1_most_121 rfl rfl ?_
            refine j_get (v := .int fh) 0 dX1_most_122 fX1_22 rfl rfl ?_
            refine j_put (v := .int fh) (ws' := fl [lb x q a (hib, fh), nb x (a 1) (ph (lec (cpy u w1) (oc c))), nb x (a 2) y2, nb x f u]) 0 dX1_most_125 fX1_22 rfl rfl rfl (Nat.le_of_ble_eq_true rfl) rfl ?_
            refine j_iinc (v := oI (oc (c + 1))) (lv' := [(7, .int (oI (oc (c + 1)))), (6, .int ((fun o => bI (wbU (lec u o) == some L) + (mst (H - 2) (ph (lec u o)) L).1) (oc c))), (8, .int ((fun o => bI (wbU (lec u o) == some L) + (mst (H - 2) (ph (lec u o)) L).1) (oc c))), (0, .ref (q 0)), (1, .ref (f 0)), (2, .int (nI L)), (3, .int (nI 1)), (4, .int (nI H)), (5, .ref ((a 1) 0))]) 8 dX1_most_128 rfl (oc_inc c) (by decide) rfl ?_
            refine j_goto (tgt := 31) dX1_most_131 (by decide) ?_
            refine j_lv [3, 4, 5, 6, 7, 8, 1, 0] (lv' := [(0, .ref (q 0)), (1, .ref (f 0)), (2, .int (nI L)), (3, .int (nI 1)), (4, .int (nI H)), (5, .ref ((a 1) 0)), (6, .int ((fun o => bI (wbU (lec u o) == some L) + (mst (H - 2) (ph (lec u o)) L).1) (oc c))), (7, .int (oI (oc (c + 1))))]) rfl ?_
            refine j_perm (fl [lb x q a (hib, fh), nb x f u, nb x (a 1) (ph (lec (cpy u w1) (oc c))), nb x (a 2) y2]) (pm_b [0, 3, 1, 2] rfl rfl) ?_
            refine ih (c + 1) _ (oI (oc c)) _ _ (by omega) ?_ (by (try simp only [nN_ph, nN_lec, nN_cpy, nN_cof, nN_wak, nN_hrs]); omega) hy2 (by omega)
            rw [← hc1, itr_go (n := nN u + 1) (b := c) (by omega)]; exact congrArg (itr (lvS (fun o => bI (wbU (lec u o) == some L) + (mst (H - 2) (ph (lec u o)) L).1) L) (nN u + 1 - (c + 1)) (c + 1)) (by first | (rw [lvS, if_pos hcl]; done) | (rw [lvS, if_neg hcl, if_pos h104]; done) | (rw [lvS, if_neg hcl, if_neg h104]; done))
      · skip
        have hcl := (oc_eq (c := c) (l := L) (by omega) (by omega)).mp h43
        refine j_goto (tgt := 128) dX1_most_46 (by decide) ?_
        refine j_iinc (v := oI (oc (c + 1))) (lv' := [(7, .int (oI (oc (c + 1)))), (0, .ref (q 0)), (1, .ref (f 0)), (2, .int (nI L)), (3, .int (nI 1)), (4, .int (nI H)), (5, .ref ((a 1) 0)), (6, .int s1)]) 7 dX1_most_128 rfl (oc_inc c) (by decide) rfl ?_
        refine j_goto (tgt := 31) dX1_most_131 (by decide) ?_
        refine j_lv [1, 2, 3, 4, 5, 6, 7, 0] (lv' := [(0, .ref (q 0)), (1, .ref (f 0)), (2, .int (nI L)), (3, .int (nI 1)), (4, .int (nI H)), (5, .ref ((a 1) 0)), (6, .int s1), (7, .int (oI (oc (c + 1))))]) rfl ?_
        refine j_perm (fl [lb x q a (hib, fh), nb x f u, nb x (a 1) w1, nb x (a 2) w2]) (pm_b [1, 0, 2, 3] rfl rfl) ?_
        refine ih (c + 1) _ s2 _ _ (by omega) ?_ hc2 hc3 (by omega)
        rw [← hc1, itr_go (n := nN u + 1) (b := c) (by omega)]; exact congrArg (itr (lvS (fun o => bI (wbU (lec u o) == some L) + (mst (H - 2) (ph (lec u o)) L).1) L) (nN u + 1 - (c + 1)) (c + 1)) (by first | (rw [lvS, if_pos hcl]; done) | (rw [lvS, if_neg hcl, if_pos h104]; done) | (rw [lvS, if_neg hcl, if_neg h104]; done))
set_option maxHeartbeats 4000000 in
set_option maxRecDepth 100000 in
theorem tmost1 (l : Launch) (x : Cx) (q : Nat → Nat) (a : Nat → Nat → Nat) (f : Nat → Nat) (u : NS) (hu : nN u ≤ 5) (L : Nat) (hL : L < nN u) (H : Nat) (hH : H ≤ 3) (hib fh : Int32) (w1 : NS) (w2 : NS) (hw1 : nN w1 ≤ 5) (hw2 : nN w2 ≤ 5) : MC l x 6 0 0 yX1_most cX1_most 9 (some .int) [.ref (q 0), .ref (f 0), .int (nI L), .int (nI 1), .int (nI H)] (fl [lb x q a (hib, fh), nb x f u, nb x (a 1) w1, nb x (a 2) w2]) (eX (mst (H - 1) u L).1 (fun ws => ∃ w1' : NS, nN w1' ≤ 5 ∧ ∃ w2' : NS, nN w2' ≤ 5 ∧ ws = fl [lb x q a (hib, fh), nb x f u, nb x (a 1) w1', nb x (a 2) w2'])) := by
  refine MC.of (by decide) (Nat.le_of_ble_eq_true rfl) eXI_fit (fun M => ?_)
  show J M l x cX1_most 9 yX1_most 6 (eX (mst (H - 1) u L).1 (fun ws => ∃ w1' : NS, nN w1' ≤ 5 ∧ ∃ w2' : NS, nN w2' ≤ 5 ∧ ws = fl [lb x q a (hib, fh), nb x f u, nb x (a 1) w1', nb x (a 2) w2'])) 0 0 0 [(0, .ref (q 0)), (1, .ref (f 0)), (2, .int (nI L)), (3, .int (nI 1)), (4, .int (nI H))] [] (fl [lb x q a (hib, fh), nb x f u, nb x (a 1) w1, nb x (a 2) w2])
  by_cases hA : 1 < H
  · skip
    refine j_iload_n 3 dX1_most_0 rfl rfl ?_
    refine j_iload 4 dX1_most_1 rfl ?_
    refine j_icmpN_ge (a := 1) (b := H) (by omega) (by omega) (tgt := 15) dX1_most_3 (by decide) (fun h3 => by omega) (fun h3 => ?_)
    refine j_iload_n 3 dX1_most_6 rfl rfl ?_
    refine j_aload_n 0 dX1_most_7 rfl rfl ?_
    refine j_get (v := .ref (q 1)) 0 dX1_most_8 fX1_11 rfl rfl ?_
    refine j_alen (v := nI 3) 1 3 dX1_most_11 rfl rfl rfl ?_
    refine j_icmpN_lt (a := 1) (b := 3) (by omega) (by omega) (tgt := 17) dX1_most_12 (by decide) (fun h12 => ?_) (fun h12 => by omega)
    refine j_aload_n 0 dX1_most_17 rfl rfl ?_
    refine j_get (v := .ref (q 1)) 0 dX1_most_18 fX1_11 rfl rfl ?_
    refine j_iload_n 3 dX1_most_21 rfl rfl ?_
    refine j_aald (b := a 1 0) (f := fun i => if i < 3 then some (a i 0) else none) 1 dX1_most_22 rfl (vp_in_nI (show 1 < 3 by decide) (by decide)) rfl ?_
    refine j_astore (lv' := [(5, .ref ((a 1) 0)), (0, .ref (q 0)), (1, .ref (f 0)), (2, .int (nI L)), (3, .int (nI 1)), (4, .int (nI H))]) dX1_most_23 (by decide) rfl ?_
    refine j_iconst (v := (-1)) dX1_most_25 (by decide) ?_
    refine j_istore (lv' := [(6, .int (-1)), (5, .ref ((a 1) 0)), (0, .ref (q 0)), (1, .ref (f 0)), (2, .int (nI L)), (3, .int (nI 1)), (4, .int (nI H))]) dX1_most_26 (by decide) rfl ?_
    refine j_iconst (v := (-1)) dX1_most_28 (by decide) ?_
    refine j_istore (lv' := [(7, .int (-1)), (6, .int (-1)), (5, .ref ((a 1) 0)), (0, .ref (q 0)), (1, .ref (f 0)), (2, .int (nI L)), (3, .int (nI 1)), (4, .int (nI H))]) dX1_most_29 (by decide) rfl ?_
    refine j_lv [3, 4, 5, 6, 7, 2, 1, 0] (lv' := [(0, .ref (q 0)), (1, .ref (f 0)), (2, .int (nI L)), (3, .int (nI 1)), (4, .int (nI H)), (5, .ref ((a 1) 0)), (6, .int (-1)), (7, .int (-1))]) rfl ?_
    have e : mst (H - 1) u L = itr (lvS (fun o => bI (wbU (lec u o) == some L) + (mst (H - 2) (ph (lec u o)) L).1) L) (nN u + 1) 0 (-1, -1) := by rw [show H - 1 = (H - 2) + 1 by omega, mst]
    have hl := lp_most1 (M := M) (k0 := 0) (n0 := 0) l x q a f u hu L hL H hH hib (mst (H - 1) u L).1 (mst (H - 1) u L).2 fh hA (nN u + 2) 0 (-1) (-1) w1 w2 (by omega) (by rw [e]; rfl) hw1 hw2 (by omega)
    exact hl
  · skip
    refine j_iload_n 3 dX1_most_0 rfl rfl ?_
    refine j_iload 4 dX1_most_1 rfl ?_
    refine j_icmpN_ge (a := 1) (b := H) (by omega) (by omega) (tgt := 15) dX1_most_3 (by decide) (fun h3 => ?_) (fun h3 => by omega)
    refine j_iconst (v := 0) dX1_most_15 (by decide) ?_
    exact j_iret _ dX1_most_16 (List.Perm.refl _) ⟨by rw [show H - 1 = 0 by omega]; rfl, w1, hw1, w2, hw2, rfl⟩
set_option maxHeartbeats 4000000 in
set_option maxRecDepth 100000 in
theorem lp_most0 {M : Mx} (l : Launch) (x : Cx) (q : Nat → Nat) (a : Nat → Nat → Nat) (f : Nat → Nat) (u : NS) (hu : nN u ≤ 5) (L : Nat) (hL : L < nN u) (H : Nat) (hH : H ≤ 3) (hib r1 r2 : Int32) (hA : 0 < H) {k0 n0 : Nat}  : ∀ (m : Nat) (c : Nat) (s1 s2 : Int32) (w0 : NS) (w1 : NS) (w2 : NS), c ≤ nN u + 1 → itr (lvS (fun o => bI (wbU (lec u o) == some L) + (mst (H - 1) (ph (lec u o)) L).1) L) (nN u + 1 - c) c (s1, s2) = (r1, r2) → nN w0 ≤ 5 → nN w1 ≤ 5 → nN w2 ≤ 5 → nN u + 1 - c < m → J M l x cX1_most 9 yX1_most 7 (eX r1 (fun ws => ∃ w0' : NS, nN w0' ≤ 5 ∧ ∃ w1' : NS, nN w1' ≤ 5 ∧ ∃ w2' : NS, nN w2' ≤ 5 ∧ ws = fl [lb x q a (hib, r2), nb x f u, nb x (a 0) w0', nb x (a 1) w1', nb x (a 2) w2'])) k0 n0 31 [(0, .ref (q 0)), (1, .ref (f 0)), (2, .int (nI L)), (3, .int (nI 0)), (4, .int (nI H)), (5, .ref ((a 0) 0)), (6, .int s1), (7, .int (oI (oc c)))] [] (fl [lb x q a (hib, s2), nb x f u, nb x (a 0) w0, nb x (a 1) w1, nb x (a 2) w2]) := by
  intro m; induction m with
  | zero => intro c s1 s2 w0 w1 w2 hc0 hc1 hc2 hc3 hc4 hm; exact absurd hm (Nat.not_lt_zero _)
  | succ m ih =>
    intro c s1 s2 w0 w1 w2 hc0 hc1 hc2 hc3 hc4 hm
    have hw0 := hc2
    have hw1 := hc3
    have hw2 := hc4
    refine j_iload 7 dX1_most_31 rfl ?_
    refine j_aload_n 1 dX1_most_33 rfl rfl ?_
    refine j_cVi (As := []) (rest := [.int (oI (oc c))]) (wr := fl [lb x q a (hib, s2), nb x (a 0) w0, nb x (a 1) w1, nb x (a 2) w2]) (ws' := fl [nb x f u, lb x q a (hib, s2), nb x (a 0) w0, nb x (a 1) w1, nb x (a 2) w2]) (uX2_lodgers l x f u ) kX2_lodgers 0 rfl rfl rfl vX1_35 dX1_most_34 (by decide) rfl rfl (Nat.le_of_ble_eq_true rfl) (pm_1 1 [0, 2, 3, 4] rfl rfl rfl) rfl ?_
    refine j_icmp_ge (tgt := 134) dX1_most_37 (by decide) (fun h37 => ?_) (fun h37 => ?_)
    · skip
      have hge := (oc_ge (by omega) (by omega)).mp h37
      refine j_iload 6 dX1_most_134 rfl ?_
      refine j_perm (fl [lb x q a (hib, s2), nb x f u, nb x (a 0) w0, nb x (a 1) w1, nb x (a 2) w2]) (pm_b [1, 0, 2, 3, 4] rfl rfl) ?_
      rw [itr_end (n := nN u + 1) (b := c) (by omega)] at hc1; cases hc1
      exact j_iret _ dX1_most_136 (List.Perm.refl _) ⟨rfl, w0, hc2, w1, hc3, w2, hc4, rfl⟩
    · skip
      have hge := mt (oc_ge (n := nN u) (c := c) (by omega) (by omega)).mpr h37
      refine j_iload 7 dX1_most_40 rfl ?_
      refine j_iload_n 2 dX1_most_42 rfl rfl ?_
      refine j_icmp_ne (tgt := 49) dX1_most_43 (by decide) (fun h43 => ?_) (fun h43 => ?_)
      · skip
        have hcl := mt (oc_eq (c := c) (l := L) (by omega) (by omega)).mpr h43
        refine j_aload 5 dX1_most_49 rfl ?_
        refine j_aload_n 1 dX1_most_51 rfl rfl ?_
        refine j_cVv (As := [.ref (f 0)]) (rest := []) (wr := fl [lb x q a (hib, s2), nb x (a 1) w1, nb x (a 2) w2]) (ws' := fl [nb x (a 0) (cpy u w0), nb x f u, lb x q a (hib, s2), nb x (a 1) w1, nb x (a 2) w2]) (uX2_copyFrom l x (a 0) w0 f u (by (try simp only [nN_ph, nN_lec, nN_cpy, nN_cof, nN_wak, nN_hrs]); omega)) kX2_copyFrom 0 rfl rfl rfl vX1_39 dX1_most_52 (by decide) rfl rfl (Nat.le_of_ble_eq_true rfl) (pm_2 2 0 [1, 3, 4] rfl rfl rfl rfl) (List.append_assoc _ _ _) ?_
        refine j_aload 5 dX1_most_55 rfl ?_
        refine j_iload 7 dX1_most_57 rfl ?_
        refine j_cVv (As := [.int (oI (oc c))]) (rest := []) (wr := fl [nb x f u, lb x q a (hib, s2), nb x (a 1) w1, nb x (a 2) w2]) (ws' := fl [nb x (a 0) (lec (cpy u w0) (oc c)), nb x f u, lb x q a (hib, s2), nb x (a 1) w1, nb x (a 2) w2]) (uX2_giveLecture l x (a 0) (cpy u w0) (by (try simp only [nN_ph, nN_lec, nN_cpy, nN_cof, nN_wak, nN_hrs]); omega) (oc c) (fun j e => by rw [nN_cpy]; exact oc_lt (by omega) e)) kX2_giveLecture 0 rfl rfl rfl vX1_43 dX1_most_59 (by decide) rfl rfl (Nat.le_of_ble_eq_true rfl) (pm_1 0 [1, 2, 3, 4] rfl rfl rfl) rfl ?_
        refine j_aload 5 dX1_most_62 rfl ?_
        refine j_cVi (As := []) (rest := []) (wr := fl [nb x f u, lb x q a (hib, s2), nb x (a 1) w1, nb x (a 2) w2]) (ws' := fl [nb x (a 0) (lec (cpy u w0) (oc c)), nb x f u, lb x q a (hib, s2), nb x (a 1) w1, nb x (a 2) w2]) (uX2_whoseBed l x (a 0) (lec (cpy u w0) (oc c)) (by (try simp only [nN_ph, nN_lec, nN_cpy, nN_cof, nN_wak, nN_hrs]); omega)) kX2_whoseBed 0 rfl rfl rfl vX1_47 dX1_most_64 (by decide) rfl rfl (Nat.le_of_ble_eq_true rfl) (pm_1 0 [1, 2, 3, 4] rfl rfl rfl) rfl ?_
        refine j_iload_n 2 dX1_most_67 rfl rfl ?_
        refine j_icmp_ne (tgt := 75) dX1_most_68 (by decide) (fun h68 => ?_) (fun h68 => ?_)
        · skip
          have hx : nN (lec (cpy u w0) (oc c)) = nN u := by rw [nN_lec, nN_cpy]
          have hb : (wbU (lec (cpy u w0) (oc c)) == some L) = false := by
            have : ¬ wbU (lec (cpy u w0) (oc c)) = some L := fun e => h68 ((oI_eq (by omega) (fun j e => by have := wbU_lt e; omega)).mpr e).symm
            simp [this]
          refine j_iconst (v := bI false) dX1_most_75 (by decide) ?_
          refine j_istore (lv' := [(8, .int (bI false)), (0, .ref (q 0)), (1, .ref (f 0)), (2, .int (nI L)), (3, .int (nI 0)), (4, .int (nI H)), (5, .ref ((a 0) 0)), (6, .int s1), (7, .int (oI (oc c)))]) dX1_most_76 (by decide) rfl ?_
          refine j_aload 6 dX1_most_78 rfl ?_
          refine j_cVv (As := []) (rest := []) (wr := fl [nb x f u, lb x q a (hib, s2), nb x (a 1) w1, nb x (a 2) w2]) (ws' := fl [nb x (a 0) (ph (lec (cpy u w0) (oc c))), nb x f u, lb x q a (hib, s2), nb x (a 1) w1, nb x (a 2) w2]) (uX2_passHour l x (a 0) (lec (cpy u w0) (oc c)) (by (try simp only [nN_ph, nN_lec, nN_cpy, nN_cof, nN_wak, nN_hrs]); omega)) kX2_passHour 0 rfl rfl rfl vX1_50 dX1_most_80 (by decide) rfl rfl (Nat.le_of_ble_eq_true rfl) (pm_1 0 [1, 2, 3, 4] rfl rfl rfl) rfl ?_
          refine j_iload 0 dX1_most_83 rfl ?_
          refine j_aload_n 1 dX1_most_85 rfl rfl ?_
          refine j_aload 6 dX1_most_86 rfl ?_
          refine j_iload_n 3 dX1_most_88 rfl rfl ?_
          refine j_iload_n 4 dX1_most_89 rfl rfl ?_
          refine j_iconst (v := 1) dX1_most_90 (by decide) ?_
          refine j_iadd dX1_most_91 ?_
          refine j_topi (b := nI 1) (by decide) ?_
          refine j_iload 5 dX1_most_92 rfl ?_
          refine j_callV (As := [.ref ((a 0) 0), .int (nI L), .int (nI 1), .int (nI H)]) (rest := [.int (bI false)]) (wr := fl [nb x f u]) (tmost1 l x q a (a 0) (ph (lec (cpy u w0) (oc c))) (by (try simp only [nN_ph, nN_lec, nN_cpy, nN_cof, nN_wak, nN_hrs]); omega) L (by (try simp only [nN_ph, nN_lec, nN_cpy, nN_cof, nN_wak, nN_hrs]); omega) H hH hib s2 w1 w2 hw1 hw2) kX1_most vX1_31 0 rfl rfl rfl dX1_most_94 (by decide) (Nat.le_of_eq (Nat.zero_add _)) (Nat.le_of_eq (Nat.zero_add _)) rfl rfl (Nat.le_of_ble_eq_true rfl) (pm_c [2, 0, 3, 4] [1] rfl rfl rfl) (fun v9 w9 hv9 => ?_)
          obtain ⟨rfl, y1, hy1, y2, hy2, rfl⟩ := hv9
          refine j_eq (lv' := [(8, .int (bI false)), (0, .ref (q 0)), (1, .ref (f 0)), (2, .int (nI L)), (3, .int (nI 0)), (4, .int (nI H)), (5, .ref ((a 0) 0)), (6, .int s1), (7, .int (oI (oc c)))]) (st' := [.int ((mst (H - 1) (ph (lec (cpy u w0) (oc c))) L).1), .int (bI false)]) (ws' := fl [lb x q a (hib, s2), nb x (a 0) (ph (lec (cpy u w0) (oc c))), nb x (a 1) y1, nb x (a 2) y2, nb x f u]) rfl rfl (fl_app _ _) ?_
          refine j_iadd dX1_most_97 ?_
          refine j_topi (b := (fun o => bI (wbU (lec u o) == some L) + (mst (H - 1) (ph (lec u o)) L).1) (oc c)) (val_eq (H - 1) u w0 (oc c) L (fun j e => oc_lt (by omega) e) hb) ?_
          refine j_istore (lv' := [(8, .int ((fun o => bI (wbU (lec u o) == some L) + (mst (H - 1) (ph (lec u o)) L).1) (oc c))), (0, .ref (q 0)), (1, .ref (f 0)), (2, .int (nI L)), (3, .int (nI 0)), (4, .int (nI H)), (5, .ref ((a 0) 0)), (6, .int s1), (7, .int (oI (oc c)))]) dX1_most_98 (by decide) rfl ?_
          refine j_iload 0 dX1_most_100 rfl ?_
          refine j_iload 7 dX1_most_102 rfl ?_
          refine j_icmp_le (tgt := 128) dX1_most_104 (by decide) (fun h104 => ?_) (fun h104 => ?_)
          · skip
            refine j_iinc (v := oI (oc (c + 1))) (lv' := [(7, .int (oI (oc (c + 1)))), (8, .int ((fun o => bI (wbU (lec u o) == some L) + (mst (H - 1) (ph (lec u o)) L).1) (oc c))), (0, .ref (q 0)), (1, .ref (f 0)), (2, .int (nI L)), (3, .int (nI 0)), (4, .int (nI H)), (5, .ref ((a 0) 0)), (6, .int s1)]) 8 dX1_most_128 rfl (oc_inc c) (by decide) rfl ?_
            refine j_goto (tgt := 31) dX1_most_131 (by decide) ?_
            refine j_lv [2, 3, 4, 5, 6, 7, 8, 0] (lv' := [(0, .ref (q 0)), (1, .ref (f 0)), (2, .int (nI L)), (3, .int (nI 0)), (4, .int (nI H)), (5, .ref ((a 0) 0)), (6, .int s1), (7, .int (oI (oc (c + 1))))]) rfl ?_
            refine j_perm (fl [lb x q a (hib, s2), nb x f u, nb x (a 0) (ph (lec (cpy u w0) (oc c))), nb x (a 1) y1, nb x (a 2) y2]) (pm_b [0, 4, 1, 2, 3] rfl rfl) ?_
            refine ih (c + 1) _ s2 _ _ _ (by omega) ?_ (by (try simp only [nN_ph, nN_lec, nN_cpy, nN_cof, nN_wak, nN_hrs]); omega) hy1 hy2 (by omega)
            rw [← hc1, itr_go (n := nN u + 1) (b := c) (by omega)]; exact congrArg (itr (lvS (fun o => bI (wbU (lec u o) == some L) + (mst (H - 1) (ph (lec u o)) L).1) L) (nN u + 1 - (c + 1)) (c + 1)) (by first | (rw [lvS, if_pos hcl]; done) | (rw [lvS, if_neg hcl, if_pos h104]; done) | (rw [lvS, if_neg hcl, if_neg h104]; done))
          · skip
            refine j_iload 0 dX1_most_107 rfl ?_
            refine j_istore (lv' := [(6, .int ((fun o => bI (wbU (lec u o) == some L) + (mst (H - 1) (ph (lec u o)) L).1) (oc c))), (8, .int ((fun o => bI (wbU (lec u o) == some L) + (mst (H - 1) (ph (lec u o)) L).1) (oc c))), (0, .ref (q 0)), (1, .ref (f 0)), (2, .int (nI L)), (3, .int (nI 0)), (4, .int (nI H)), (5, .ref ((a 0) 0)), (7, .int (oI (oc c)))]) dX1_most_109 (by decide) rfl ?_
            refine j_aload_n 2 dX1_most_111 rfl rfl ?_
            refine j_iload_n 5 dX1_most_112 rfl rfl ?_
            refine j_if_ne (tgt := 121) dX1_most_113 (by decide) (fun h113 => absurd (show (nI 0 : Int32) = 0 by decide) h113) (fun h113 => ?_)
            refine j_iload 8 dX1_most_116 rfl ?_
            refine j_goto (tgt := 125) dX1_most_118 (by decide) ?_
            refine j_put (v := .int (oI (oc c))) (ws' := fl [lb x q a (hib, oI (oc c)), nb x (a 0) (ph (lec (cpy u w0) (oc c))), nb x (a 1) y1, nb x (a 2) y2, nb x f u]) 0 dX1_most_125 fX1_22 rfl rfl rfl (Nat.le_of_ble_eq_true rfl) rfl ?_
            refine j_iinc (v := oI (oc (c + 1))) (lv' := [(7, .int (oI (oc (c + 1)))), (6, .int ((fun o => bI (wbU (lec u o) == some L) + (mst (H - 1) (ph (lec u o)) L).1) (oc c))), (8, .int ((fun o => bI (wbU (lec u o) == some L) + (mst (H - 1) (ph (lec u o)) L).1) (oc c))), (0, .ref (q 0)), (1, .ref (f 0)), (2, .int (nI L)), (3, .int (nI 0)), (4, .int (nI H)), (5, .ref ((a 0) 0))]) 8 dX1_most_128 rfl (oc_inc c) (by decide) rfl ?_
            refine j_goto (tgt := 31) dX1_most_131 (by decide) ?_
            refine j_lv [3, 4, 5, 6, 7, 8, 1, 0] (lv' := [(0, .ref (q 0)), (1, .ref (f 0)), (2, .int (nI L)), (3, .int (nI 0)), (4, .int (nI H)), (5, .ref ((a 0) 0)), (6, .int ((fun o => bI (wbU (lec u o) == some L) + (mst (H - 1) (ph (lec u o)) L).1) (oc c))), (7, .int (oI (oc (c + 1))))]) rfl ?_
            refine j_perm (fl [lb x q a (hib, oI (oc c)), nb x f u, nb x (a 0) (ph (lec (cpy u w0) (oc c))), nb x (a 1) y1, nb x (a 2) y2]) (pm_b [0, 4, 1, 2, 3] rfl rfl) ?_
            refine ih (c + 1) _ (oI (oc c)) _ _ _ (by omega) ?_ (by (try simp only [nN_ph, nN_lec, nN_cpy, nN_cof, nN_wak, nN_hrs]); omega) hy1 hy2 (by omega)
            rw [← hc1, itr_go (n := nN u + 1) (b := c) (by omega)]; exact congrArg (itr (lvS (fun o => bI (wbU (lec u o) == some L) + (mst (H - 1) (ph (lec u o)) L).1) L) (nN u + 1 - (c + 1)) (c + 1)) (by first | (rw [lvS, if_pos hcl]; done) | (rw [lvS, if_neg hcl, if_pos h104]; done) | (rw [lvS, if_neg hcl, if_neg h104]; done))
        · skip
          have hx : nN (lec (cpy u w0) (oc c)) = nN u := by rw [nN_lec, nN_cpy]
          have hb : (wbU (lec (cpy u w0) (oc c)) == some L) = true := by
            have : wbU (lec (cpy u w0) (oc c)) = some L := (oI_eq (by omega) (fun j e => by have := wbU_lt e; omega)).mp h68.symm
            simp [this]
          refine j_iconst (v := bI true) dX1_most_71 (by decide) ?_
          refine j_goto (tgt := 76) dX1_most_72 (by decide) ?_
          refine j_istore (lv' := [(8, .int (bI true)), (0, .ref (q 0)), (1, .ref (f 0)), (2, .int (nI L)), (3, .int (nI 0)), (4, .int (nI H)), (5, .ref ((a 0) 0)), (6, .int s1), (7, .int (oI (oc c)))]) dX1_most_76 (by decide) rfl ?_
          refine j_aload 6 dX1_most_78 rfl ?_
          refine j_cVv (As := []) (rest := []) (wr := fl [nb x f u, lb x q a (hib, s2), nb x (a 1) w1, nb x (a 2) w2]) (ws' := fl [nb x (a 0) (ph (lec (cpy u w0) (oc c))), nb x f u, lb x q a (hib, s2), nb x (a 1) w1, nb x (a 2) w2]) (uX2_passHour l x (a 0) (lec (cpy u w0) (oc c)) (by (try simp only [nN_ph, nN_lec, nN_cpy, nN_cof, nN_wak, nN_hrs]); omega)) kX2_passHour 0 rfl rfl rfl vX1_50 dX1_most_80 (by decide) rfl rfl (Nat.le_of_ble_eq_true rfl) (pm_1 0 [1, 2, 3, 4] rfl rfl rfl) rfl ?_
          refine j_iload 0 dX1_most_83 rfl ?_
          refine j_aload_n 1 dX1_most_85 rfl rfl ?_
          refine j_aload 6 dX1_most_86 rfl ?_
          refine j_iload_n 3 dX1_most_88 rfl rfl ?_
          refine j_iload_n 4 dX1_most_89 rfl rfl ?_
          refine j_iconst (v := 1) dX1_most_90 (by decide) ?_
          refine j_iadd dX1_most_91 ?_
          refine j_topi (b := nI 1) (by decide) ?_
          refine j_iload 5 dX1_most_92 rfl ?_
          refine j_callV (As := [.ref ((a 0) 0), .int (nI L), .int (nI 1), .int (nI H)]) (rest := [.int (bI true)]) (wr := fl [nb x f u]) (tmost1 l x q a (a 0) (ph (lec (cpy u w0) (oc c))) (by (try simp only [nN_ph, nN_lec, nN_cpy, nN_cof, nN_wak, nN_hrs]); omega) L (by (try simp only [nN_ph, nN_lec, nN_cpy, nN_cof, nN_wak, nN_hrs]); omega) H hH hib s2 w1 w2 hw1 hw2) kX1_most vX1_31 0 rfl rfl rfl dX1_most_94 (by decide) (Nat.le_of_eq (Nat.zero_add _)) (Nat.le_of_eq (Nat.zero_add _)) rfl rfl (Nat.le_of_ble_eq_true rfl) (pm_c [2, 0, 3, 4] [1] rfl rfl rfl) (fun v9 w9 hv9 => ?_)
          obtain ⟨rfl, y1, hy1, y2, hy2, rfl⟩ := hv9
          refine j_eq (lv' := [(8, .int (bI true)), (0, .ref (q 0)), (1, .ref (f 0)), (2, .int (nI L)), (3, .int (nI 0)), (4, .int (nI H)), (5, .ref ((a 0) 0)), (6, .int s1), (7, .int (oI (oc c)))]) (st' := [.int ((mst (H - 1) (ph (lec (cpy u w0) (oc c))) L).1), .int (bI true)]) (ws' := fl [lb x q a (hib, s2), nb x (a 0) (ph (lec (cpy u w0) (oc c))), nb x (a 1) y1, nb x (a 2) y2, nb x f u]) rfl rfl (fl_app _ _) ?_
          refine j_iadd dX1_most_97 ?_
          refine j_topi (b := (fun o => bI (wbU (lec u o) == some L) + (mst (H - 1) (ph (lec u o)) L).1) (oc c)) (val_eq (H - 1) u w0 (oc c) L (fun j e => oc_lt (by omega) e) hb) ?_
          refine j_istore (lv' := [(8, .int ((fun o => bI (wbU (lec u o) == some L) + (mst (H - 1) (ph (lec u o)) L).1) (oc c))), (0, .ref (q 0)), (1, .ref (f 0)), (2, .int (nI L)), (3, .int (nI 0)), (4, .int (nI H)), (5, .ref ((a 0) 0)), (6, .int s1), (7, .int (oI (oc c)))]) dX1_most_98 (by decide) rfl ?_
          refine j_iload 0 dX1_most_100 rfl ?_
          refine j_iload 7 dX1_most_102 rfl ?_
          refine j_icmp_le (tgt := 128) dX1_most_104 (by decide) (fun h104 => ?_) (fun h104 => ?_)
          · skip
            refine j_iinc (v := oI (oc (c + 1))) (lv' := [(7, .int (oI (oc (c + 1)))), (8, .int ((fun o => bI (wbU (lec u o) == some L) + (mst (H - 1) (ph (lec u o)) L).1) (oc c))), (0, .ref (q 0)), (1, .ref (f 0)), (2, .int (nI L)), (3, .int (nI 0)), (4, .int (nI H)), (5, .ref ((a 0) 0)), (6, .int s1)]) 8 dX1_most_128 rfl (oc_inc c) (by decide) rfl ?_
            refine j_goto (tgt := 31) dX1_most_131 (by decide) ?_
            refine j_lv [2, 3, 4, 5, 6, 7, 8, 0] (lv' := [(0, .ref (q 0)), (1, .ref (f 0)), (2, .int (nI L)), (3, .int (nI 0)), (4, .int (nI H)), (5, .ref ((a 0) 0)), (6, .int s1), (7, .int (oI (oc (c + 1))))]) rfl ?_
            refine j_perm (fl [lb x q a (hib, s2), nb x f u, nb x (a 0) (ph (lec (cpy u w0) (oc c))), nb x (a 1) y1, nb x (a 2) y2]) (pm_b [0, 4, 1, 2, 3] rfl rfl) ?_
            refine ih (c + 1) _ s2 _ _ _ (by omega) ?_ (by (try simp only [nN_ph, nN_lec, nN_cpy, nN_cof, nN_wak, nN_hrs]); omega) hy1 hy2 (by omega)
            rw [← hc1, itr_go (n := nN u + 1) (b := c) (by omega)]; exact congrArg (itr (lvS (fun o => bI (wbU (lec u o) == some L) + (mst (H - 1) (ph (lec u o)) L).1) L) (nN u + 1 - (c + 1)) (c + 1)) (by first | (rw [lvS, if_pos hcl]; done) | (rw [lvS, if_neg hcl, if_pos h104]; done) | (rw [lvS, if_neg hcl, if_neg h104]; done))
          · skip
            refine j_iload 0 dX1_most_107 rfl ?_
            refine j_istore (lv' := [(6, .int ((fun o => bI (wbU (lec u o) == some L) + (mst (H - 1) (ph (lec u o)) L).1) (oc c))), (8, .int ((fun o => bI (wbU (lec u o) == some L) + (mst (H - 1) (ph (lec u o)) L).1) (oc c))), (0, .ref (q 0)), (1, .ref (f 0)), (2, .int (nI L)), (3, .int (nI 0)), (4, .int (nI H)), (5, .ref ((a 0) 0)), (7, .int (oI (oc c)))]) dX1_most_109 (by decide) rfl ?_
            refine j_aload_n 2 dX1_most_111 rfl rfl ?_
            refine j_iload_n 5 dX1_most_112 rfl rfl ?_
            refine j_if_ne (tgt := 121) dX1_most_113 (by decide) (fun h113 => absurd (show (nI 0 : Int32) = 0 by decide) h113) (fun h113 => ?_)
            refine j_iload 8 dX1_most_116 rfl ?_
            refine j_goto (tgt := 125) dX1_most_118 (by decide) ?_
            refine j_put (v := .int (oI (oc c))) (ws' := fl [lb x q a (hib, oI (oc c)), nb x (a 0) (ph (lec (cpy u w0) (oc c))), nb x (a 1) y1, nb x (a 2) y2, nb x f u]) 0 dX1_most_125 fX1_22 rfl rfl rfl (Nat.le_of_ble_eq_true rfl) rfl ?_
            refine j_iinc (v := oI (oc (c + 1))) (lv' := [(7, .int (oI (oc (c + 1)))), (6, .int ((fun o => bI (wbU (lec u o) == some L) + (mst (H - 1) (ph (lec u o)) L).1) (oc c))), (8, .int ((fun o => bI (wbU (lec u o) == some L) + (mst (H - 1) (ph (lec u o)) L).1) (oc c))), (0, .ref (q 0)), (1, .ref (f 0)), (2, .int (nI L)), (3, .int (nI 0)), (4, .int (nI H)), (5, .ref ((a 0) 0))]) 8 dX1_most_128 rfl (oc_inc c) (by decide) rfl ?_
            refine j_goto (tgt := 31) dX1_most_131 (by decide) ?_
            refine j_lv [3, 4, 5, 6, 7, 8, 1, 0] (lv' := [(0, .ref (q 0)), (1, .ref (f 0)), (2, .int (nI L)), (3, .int (nI 0)), (4, .int (nI H)), (5, .ref ((a 0) 0)), (6, .int ((fun o => bI (wbU (lec u o) == some L) + (mst (H - 1) (ph (lec u o)) L).1) (oc c))), (7, .int (oI (oc (c + 1))))]) rfl ?_
            refine j_perm (fl [lb x q a (hib, oI (oc c)), nb x f u, nb x (a 0) (ph (lec (cpy u w0) (oc c))), nb x (a 1) y1, nb x (a 2) y2]) (pm_b [0, 4, 1, 2, 3] rfl rfl) ?_
            refine ih (c + 1) _ (oI (oc c)) _ _ _ (by omega) ?_ (by (try simp only [nN_ph, nN_lec, nN_cpy, nN_cof, nN_wak, nN_hrs]); omega) hy1 hy2 (by omega)
            rw [← hc1, itr_go (n := nN u + 1) (b := c) (by omega)]; exact congrArg (itr (lvS (fun o => bI (wbU (lec u o) == some L) + (mst (H - 1) (ph (lec u o)) L).1) L) (nN u + 1 - (c + 1)) (c + 1)) (by first | (rw [lvS, if_pos hcl]; done) | (rw [lvS, if_neg hcl, if_pos h104]; done) | (rw [lvS, if_neg hcl, if_neg h104]; done))
      · skip
        have hcl := (oc_eq (c := c) (l := L) (by omega) (by omega)).mp h43
        refine j_goto (tgt := 128) dX1_most_46 (by decide) ?_
        refine j_iinc (v := oI (oc (c + 1))) (lv' := [(7, .int (oI (oc (c + 1)))), (0, .ref (q 0)), (1, .ref (f 0)), (2, .int (nI L)), (3, .int (nI 0)), (4, .int (nI H)), (5, .ref ((a 0) 0)), (6, .int s1)]) 7 dX1_most_128 rfl (oc_inc c) (by decide) rfl ?_
        refine j_goto (tgt := 31) dX1_most_131 (by decide) ?_
        refine j_lv [1, 2, 3, 4, 5, 6, 7, 0] (lv' := [(0, .ref (q 0)), (1, .ref (f 0)), (2, .int (nI L)), (3, .int (nI 0)), (4, .int (nI H)), (5, .ref ((a 0) 0)), (6, .int s1), (7, .int (oI (oc (c + 1))))]) rfl ?_
        refine j_perm (fl [lb x q a (hib, s2), nb x f u, nb x (a 0) w0, nb x (a 1) w1, nb x (a 2) w2]) (pm_b [1, 0, 2, 3, 4] rfl rfl) ?_
        refine ih (c + 1) _ s2 _ _ _ (by omega) ?_ hc2 hc3 hc4 (by omega)
        rw [← hc1, itr_go (n := nN u + 1) (b := c) (by omega)]; exact congrArg (itr (lvS (fun o => bI (wbU (lec u o) == some L) + (mst (H - 1) (ph (lec u o)) L).1) L) (nN u + 1 - (c + 1)) (c + 1)) (by first | (rw [lvS, if_pos hcl]; done) | (rw [lvS, if_neg hcl, if_pos h104]; done) | (rw [lvS, if_neg hcl, if_neg h104]; done))
set_option maxHeartbeats 4000000 in
set_option maxRecDepth 100000 in
theorem tmost0 (l : Launch) (x : Cx) (q : Nat → Nat) (a : Nat → Nat → Nat) (f : Nat → Nat) (u : NS) (hu : nN u ≤ 5) (L : Nat) (hL : L < nN u) (H : Nat) (hH : H ≤ 3) (hib : Int32) (w0 : NS) (w1 : NS) (w2 : NS) (hw0 : nN w0 ≤ 5) (hw1 : nN w1 ≤ 5) (hw2 : nN w2 ≤ 5) : MC l x 7 0 0 yX1_most cX1_most 9 (some .int) [.ref (q 0), .ref (f 0), .int (nI L), .int (nI 0), .int (nI H)] (fl [lb x q a (hib, (-1)), nb x f u, nb x (a 0) w0, nb x (a 1) w1, nb x (a 2) w2]) (eX (mst H u L).1 (fun ws => ∃ w0' : NS, nN w0' ≤ 5 ∧ ∃ w1' : NS, nN w1' ≤ 5 ∧ ∃ w2' : NS, nN w2' ≤ 5 ∧ ws = fl [lb x q a (hib, (mst H u L).2), nb x f u, nb x (a 0) w0', nb x (a 1) w1', nb x (a 2) w2'])) := by
  refine MC.of (by decide) (Nat.le_of_ble_eq_true rfl) eXI_fit (fun M => ?_)
  show J M l x cX1_most 9 yX1_most 7 (eX (mst H u L).1 (fun ws => ∃ w0' : NS, nN w0' ≤ 5 ∧ ∃ w1' : NS, nN w1' ≤ 5 ∧ ∃ w2' : NS, nN w2' ≤ 5 ∧ ws = fl [lb x q a (hib, (mst H u L).2), nb x f u, nb x (a 0) w0', nb x (a 1) w1', nb x (a 2) w2'])) 0 0 0 [(0, .ref (q 0)), (1, .ref (f 0)), (2, .int (nI L)), (3, .int (nI 0)), (4, .int (nI H))] [] (fl [lb x q a (hib, (-1)), nb x f u, nb x (a 0) w0, nb x (a 1) w1, nb x (a 2) w2])
  by_cases hA : 0 < H
  · skip
    refine j_iload_n 3 dX1_most_0 rfl rfl ?_
    refine j_iload 4 dX1_most_1 rfl ?_
    refine j_icmpN_ge (a := 0) (b := H) (by omega) (by omega) (tgt := 15) dX1_most_3 (by decide) (fun h3 => by omega) (fun h3 => ?_)
    refine j_iload_n 3 dX1_most_6 rfl rfl ?_
    refine j_aload_n 0 dX1_most_7 rfl rfl ?_
    refine j_get (v := .ref (q 1)) 0 dX1_most_8 fX1_11 rfl rfl ?_
    refine j_alen (v := nI 3) 1 3 dX1_most_11 rfl rfl rfl ?_
    refine j_icmpN_lt (a := 0) (b := 3) (by omega) (by omega) (tgt := 17) dX1_most_12 (by decide) (fun h12 => ?_) (fun h12 => by omega)
    refine j_aload_n 0 dX1_most_17 rfl rfl ?_
    refine j_get (v := .ref (q 1)) 0 dX1_most_18 fX1_11 rfl rfl ?_
    refine j_iload_n 3 dX1_most_21 rfl rfl ?_
    refine j_aald (b := a 0 0) (f := fun i => if i < 3 then some (a i 0) else none) 1 dX1_most_22 rfl (vp_in_nI (show 0 < 3 by decide) (by decide)) rfl ?_
    refine j_astore (lv' := [(5, .ref ((a 0) 0)), (0, .ref (q 0)), (1, .ref (f 0)), (2, .int (nI L)), (3, .int (nI 0)), (4, .int (nI H))]) dX1_most_23 (by decide) rfl ?_
    refine j_iconst (v := (-1)) dX1_most_25 (by decide) ?_
    refine j_istore (lv' := [(6, .int (-1)), (5, .ref ((a 0) 0)), (0, .ref (q 0)), (1, .ref (f 0)), (2, .int (nI L)), (3, .int (nI 0)), (4, .int (nI H))]) dX1_most_26 (by decide) rfl ?_
    refine j_iconst (v := (-1)) dX1_most_28 (by decide) ?_
    refine j_istore (lv' := [(7, .int (-1)), (6, .int (-1)), (5, .ref ((a 0) 0)), (0, .ref (q 0)), (1, .ref (f 0)), (2, .int (nI L)), (3, .int (nI 0)), (4, .int (nI H))]) dX1_most_29 (by decide) rfl ?_
    refine j_lv [3, 4, 5, 6, 7, 2, 1, 0] (lv' := [(0, .ref (q 0)), (1, .ref (f 0)), (2, .int (nI L)), (3, .int (nI 0)), (4, .int (nI H)), (5, .ref ((a 0) 0)), (6, .int (-1)), (7, .int (-1))]) rfl ?_
    have e : mst (H - 0) u L = itr (lvS (fun o => bI (wbU (lec u o) == some L) + (mst (H - 1) (ph (lec u o)) L).1) L) (nN u + 1) 0 (-1, -1) := by rw [show H - 0 = (H - 1) + 1 by omega, mst]
    have hl := lp_most0 (M := M) (k0 := 0) (n0 := 0) l x q a f u hu L hL H hH hib (mst (H - 0) u L).1 (mst (H - 0) u L).2 hA (nN u + 2) 0 (-1) (-1) w0 w1 w2 (by omega) (by rw [e]; rfl) hw0 hw1 hw2 (by omega)
    exact hl
  · skip
    refine j_iload_n 3 dX1_most_0 rfl rfl ?_
    refine j_iload 4 dX1_most_1 rfl ?_
    refine j_icmpN_ge (a := 0) (b := H) (by omega) (by omega) (tgt := 15) dX1_most_3 (by decide) (fun h3 => ?_) (fun h3 => by omega)
    refine j_iconst (v := 0) dX1_most_15 (by decide) ?_
    exact j_iret _ dX1_most_16 (List.Perm.refl _) ⟨by rw [show H = 0 by omega]; rfl, w0, hw0, w1, hw1, w2, hw2, by rw [show H = 0 by omega]; rfl⟩
set_option maxHeartbeats 4000000 in
set_option maxRecDepth 100000 in
theorem tX1_make (l : Launch) (x : Cx) (q : Nat → Nat) (a : Nat → Nat → Nat) (f : Nat → Nat) (u : NS) (hu : nN u ≤ 5) (L : Nat) (hL : L < nN u) (H : Nat) (hH : H ≤ 3) (hib fh : Int32) (w0 : NS) (w1 : NS) (w2 : NS) (hw0 : nN w0 ≤ 5) (hw1 : nN w1 ≤ 5) (hw2 : nN w2 ≤ 5) : MC l x 8 0 0 yX1_make cX1_make 4 none [.ref (q 0), .ref (f 0), .int (nI L), .int (nI H)] (fl [lb x q a (hib, fh), nb x f u, nb x (a 0) w0, nb x (a 1) w1, nb x (a 2) w2]) (fun v9 ws => v9 = none ∧ ∃ w0' : NS, nN w0' ≤ 5 ∧ ∃ w1' : NS, nN w1' ≤ 5 ∧ ∃ w2' : NS, nN w2' ≤ 5 ∧ ws = fl [lb x q a ((mst H u L).1, (mst H u L).2), nb x f u, nb x (a 0) w0', nb x (a 1) w1', nb x (a 2) w2']) := by
  refine MC.of (by decide) (Nat.le_of_ble_eq_true rfl) (fun v ws h => Or.inl ⟨rfl, h.1⟩) (fun M => ?_)
  show J M l x cX1_make 4 yX1_make 8 (fun v9 ws => v9 = none ∧ ∃ w0' : NS, nN w0' ≤ 5 ∧ ∃ w1' : NS, nN w1' ≤ 5 ∧ ∃ w2' : NS, nN w2' ≤ 5 ∧ ws = fl [lb x q a ((mst H u L).1, (mst H u L).2), nb x f u, nb x (a 0) w0', nb x (a 1) w1', nb x (a 2) w2']) 0 0 0 [(0, .ref (q 0)), (1, .ref (f 0)), (2, .int (nI L)), (3, .int (nI H))] [] (fl [lb x q a (hib, fh), nb x f u, nb x (a 0) w0, nb x (a 1) w1, nb x (a 2) w2])
  refine j_aload_n 0 dX1_make_0 rfl rfl ?_
  refine j_iconst (v := (-1)) dX1_make_1 (by decide) ?_
  refine j_put (v := .int (-1)) (ws' := fl [lb x q a (hib, (-1)), nb x f u, nb x (a 0) w0, nb x (a 1) w1, nb x (a 2) w2]) 0 dX1_make_2 fX1_22 rfl rfl rfl (Nat.le_of_ble_eq_true rfl) rfl ?_
  refine j_aload_n 0 dX1_make_5 rfl rfl ?_
  refine j_aload_n 0 dX1_make_6 rfl rfl ?_
  refine j_aload_n 1 dX1_make_7 rfl rfl ?_
  refine j_iload_n 2 dX1_make_8 rfl rfl ?_
  refine j_iconst (v := nI 0) dX1_make_9 (by decide) ?_
  refine j_iload_n 3 dX1_make_10 rfl rfl ?_
  refine j_iconst (v := 3) dX1_make_11 (by decide) ?_
  refine j_mmin dX1_make_12 mX1_25 (by decide) (Nat.le_of_ble_eq_true rfl) ?_
  refine j_topi (b := nI H) (by rw [show (3 : Int32) = nI 3 from rfl, mmin_nI (by omega) (by omega), Nat.min_eq_left hH]) ?_
  refine j_callV (As := [.ref (f 0), .int (nI L), .int (nI 0), .int (nI H)]) (rest := [.ref (q 0)]) (wr := fl []) (tmost0 l x q a f u hu L hL H hH hib w0 w1 w2 hw0 hw1 hw2) kX1_most vX1_31 0 rfl rfl rfl dX1_make_15 (by decide) (Nat.le_of_eq (Nat.zero_add _)) (Nat.le_of_eq (Nat.zero_add _)) rfl rfl (Nat.le_of_ble_eq_true rfl) (pm_c [0, 1, 2, 3, 4] [] rfl rfl rfl) (fun v9 w9 hv9 => ?_)
  obtain ⟨rfl, y0, hy0, y1, hy1, y2, hy2, rfl⟩ := hv9
  refine j_eq (lv' := [(0, .ref (q 0)), (1, .ref (f 0)), (2, .int (nI L)), (3, .int (nI H))]) (st' := [.int ((mst H u L).1), .ref (q 0)]) (ws' := fl [lb x q a (hib, (mst H u L).2), nb x f u, nb x (a 0) y0, nb x (a 1) y1, nb x (a 2) y2]) rfl rfl (fl_app _ _) ?_
  refine j_put (v := .int ((mst H u L).1)) (ws' := fl [lb x q a ((mst H u L).1, (mst H u L).2), nb x f u, nb x (a 0) y0, nb x (a 1) y1, nb x (a 2) y2]) 0 dX1_make_18 fX1_18 rfl rfl rfl (Nat.le_of_ble_eq_true rfl) rfl ?_
  exact j_vret _ dX1_make_21 (List.Perm.refl _) ⟨rfl, y0, hy0, y1, hy1, y2, hy2, rfl⟩
end
section
/-! the class as one state: flags and counts, page, house, seen, the image's two; and what it keeps for its own use -/
abbrev CS : Type := (Bool × Nat × Nat) × PG × NS × SS × NS × SS
abbrev ZS : Type := NS × (Int32 × Int32) × NS × NS × NS × (Nat × Int32) × (Nat → Nat → Int32) × NS
def ob (A : Nat → Nat → Nat) (c : Bool × Nat × Nat) : va_W := [(A 0 0, .inr (5, [.ref (A 1 0), .ref (A 2 0), .ref (A 3 0), .ref (A 4 0), .ref (A 5 0), .int (bI c.1), .ref (A 6 0), .ref (A 7 0), .ref (A 11 0), .int (nI c.2.1), .int (nI c.2.2)]))]
def cw (x : Cx) (A a : Nat → Nat → Nat) (r : Nat → Nat) (s : CS) (z : ZS) : va_W := fl [ob A s.1, pb x (A 1) s.2.1, nb x (A 2) s.2.2.1, sb x (A 3) s.2.2.2.1, nb x (A 4) s.2.2.2.2.1, sb x (A 5) s.2.2.2.2.2, nb x (A 6) z.1, lb x (A 7) a z.2.1, nb x (a 0) z.2.2.1, nb x (a 1) z.2.2.2.1, nb x (a 2) z.2.2.2.2.1, gb x (A 11) (A 13) r z.2.2.2.2.2.1, rowsB x r z.2.2.2.2.2.2.1, nb x (A 13) z.2.2.2.2.2.2.2]
def zok (z : ZS) : Prop := nN z.1 ≤ 5 ∧ nN z.2.2.1 ≤ 5 ∧ nN z.2.2.2.1 ≤ 5 ∧ nN z.2.2.2.2.1 ≤ 5 ∧ nN z.2.2.2.2.2.2.2 ≤ 5
def cok (s : CS) : Prop := s.1.2.2 ≤ 40 ∧ s.2.1.2 ≤ 18 ∧ nN s.2.2.1 ≤ 5 ∧ s.2.2.2.1.2.2 ≤ 6 ∧ nN s.2.2.2.2.1 ≤ 5 ∧ s.2.2.2.2.2.2.2 ≤ 6
/-- an answer, and the class' state behind it -/
def pS5 (x : Cx) (A a : Nat → Nat → Nat) (r : Nat → Nat) (R : Int32) (s : CS) : Option Value → va_W → Prop := eX R (fun ws => ∃ z : ZS, zok z ∧ ws = cw x A a r s z)
def pL5 (x : Cx) (A a : Nat → Nat → Nat) (r : Nat → Nat) (R : Int64) (s : CS) : Option Value → va_W → Prop := fun v ws => v = some (.long R) ∧ ∃ z : ZS, zok z ∧ ws = cw x A a r s z
theorem pL5_fit {x : Cx} {A a : Nat → Nat → Nat} {r : Nat → Nat} {R : Int64} {s : CS} : ∀ v ws, pL5 x A a r R s v ws → retFit (some .long) v := fun v ws h => Or.inr (Or.inr ⟨R, rfl, h.1⟩)
def cfs : Nat → NS → Nat → NS
  | 0, u, _ => u
  | k + 1, u, j => cof (cfs k u j) j
theorem nN_cfs (u : NS) (j : Nat) : ∀ k, nN (cfs k u j) = nN u
  | 0 => rfl
  | k + 1 => (nN_cof _ _).trans (nN_cfs u j k)
theorem eqN.fE {u v : NS} (h : eqN u v) {j : Nat} (hj : j < nN u) : ∀ k, eqN (cfs k u j) (cfs k v j)
  | 0 => h
  | k + 1 => (eqN.fE h hj k).cE (by rw [nN_cfs]; exact hj)
def fcr (u : NS) (j hh : Nat) : Nat → Nat → Option Nat
  | 0, _ => none
  | f + 1, c => if kb (hh - 1) (cfs c u j) j = true then some c else fcr u j hh f (c + 1)
def fcU (u : NS) (j hh : Nat) : Option Nat := fcr u j hh 5 0
def abU (u : NS) (v : SS) (j : Nat) (a : Int32) : Int32 := if a = 0 then u.1 j else if a = 1 then u.2.1 j else if a = 2 then bI (u.2.2.1 j) else if a = 3 then bI (wbU u == some j) else if a = 4 then u.2.2.2.1 j else if a = 5 then bitsU u v j else if a = 6 then lokB (bitsU u v j) (bed u j) (nN u) else -102
def kAbout (u : NS) (v : SS) (l a : Int32) : Int32 := if kn (nN u) l = true then abU u v l.toNatClampNeg a else -101
theorem lefB_cong {bits : Int32} {B C : Nat → Int32} {w : Int32} : ∀ {t : Nat}, (∀ i, i < t → B i = C i) → lefB bits B w t = lefB bits C w t
  | 0, _ => rfl
  | t + 1, h => by rw [lefB, lefB, lefB_cong (fun i hi => h i (by omega)), h t (by omega)]
theorem worB_cong {bits : Int32} {B C : Nat → Int32} (h : ∀ i, i < 10 → B i = C i) : ∀ (c : Nat), worB bits B c = worB bits C c
  | 0 => rfl
  | c + 1 => by rw [worB, worB, worB_cong h c, lefB_cong h]
theorem lokB_cong {bits : Int32} {B C : Nat → Nat → Int32} {n : Nat} (h : ∀ t, t < 10 → ∀ k, k < 13 → B t k = C t k) : lokB bits B n = lokB bits C n := by
  rw [lokB, lokB, itr_cong (f := lokS bits B n) (g := lokS bits C n) 13 0 _ (fun i s h1 h2 => by
    rw [lokS, lokS, worB_cong (fun t ht => h t ht i (by omega))])]
def drN (s : Int32) (n : Nat) : Nat := s.toInt.toNat / 65536 % n
theorem nxS_nn (s : Int32) : 0 ≤ nxS s := by
  rw [nxS]
  obtain ⟨j, hj, e⟩ := pk_andE (1103515245 * s + 12345) (m := 2147483647) 31 (by decide)
  rw [e]
  exact nI_pos' hj
theorem drO_eq {s : Int32} (hs : 0 ≤ s) {n : Nat} (h0 : 0 < n) (hn : n < 2 ^ 31) : drO s (nI n) = nI (drN s n) := by
  obtain ⟨j, hj, rfl⟩ := nI_of (x := s) (nlt_of_le hs)
  rw [drO, if_neg (nI_nle h0 hn), drN, nI_toInt hj]
  rw [show (65536 : Int32) = nI 65536 from rfl, pk_div hj (by decide) (by decide), pk_rem (by omega) h0 hn]
  rfl
theorem drN_lt (s : Int32) {n : Nat} (h0 : 0 < n) : drN s n < n := Nat.mod_lt _ h0
def ngS (t : Int32 × NS × Int32) : Int32 × NS × Int32 := match t with
  | (s, u, c) => (nxS (nxS s), ph (lec (cof u (drN (nxS s) (nN u))) (some (drN (nxS (nxS s)) (nN u)))), c + bI (wbU (lec (cof u (drN (nxS s) (nN u))) (some (drN (nxS (nxS s)) (nN u)))) == some 0))
def ngI : Nat → Int32 × NS × Int32 → Int32 × NS × Int32
  | 0, t => t
  | k + 1, t => ngI k (ngS t)
theorem ngS_cong {s c : Int32} {u v : NS} (h : eqN u v) (h0 : 0 < nN u) : (ngS (s, u, c)).1 = (ngS (s, v, c)).1 ∧ eqN (ngS (s, u, c)).2.1 (ngS (s, v, c)).2.1 ∧ (ngS (s, u, c)).2.2 = (ngS (s, v, c)).2.2 ∧ nN (ngS (s, u, c)).2.1 = nN u := by
  have e := h.nE
  have h1 := h.cE (j := drN (nxS s) (nN u)) (drN_lt _ h0)
  have h2 := h1.lE (o := some (drN (nxS (nxS s)) (nN u))) (fun j e => by cases e; rw [nN_cof]; exact drN_lt _ h0)
  refine ⟨rfl, ?_, ?_, ?_⟩
  · show eqN (ph _) (ph _)
    rw [← e]
    exact h2.pE
  · show c + bI _ = c + bI _
    rw [h2.wE, e]
  · exact (nN_ph (lec (cof u (drN (nxS s) (nN u))) (some (drN (nxS (nxS s)) (nN u))))).trans ((nN_lec _ _).trans (nN_cof _ _))
theorem ngI_cong : ∀ (k : Nat) (s c : Int32) (u v : NS), eqN u v → 0 < nN u → (ngI k (s, u, c)).1 = (ngI k (s, v, c)).1 ∧ eqN (ngI k (s, u, c)).2.1 (ngI k (s, v, c)).2.1 ∧ (ngI k (s, u, c)).2.2 = (ngI k (s, v, c)).2.2
  | 0, _, _, _, _, h, _ => ⟨rfl, h, rfl⟩
  | k + 1, s, c, u, v, h, h0 => by
    obtain ⟨a, b, d, e⟩ := ngS_cong (s := s) (c := c) h h0
    have ih := ngI_cong k (ngS (s, u, c)).1 (ngS (s, u, c)).2.2 (ngS (s, u, c)).2.1 (ngS (s, v, c)).2.1 b (by rw [e]; exact h0)
    show (ngI k (ngS (s, u, c))).1 = (ngI k (ngS (s, v, c))).1 ∧ eqN (ngI k (ngS (s, u, c))).2.1 (ngI k (ngS (s, v, c))).2.1 ∧ (ngI k (ngS (s, u, c))).2.2 = (ngI k (ngS (s, v, c))).2.2
    have ev : ngS (s, v, c) = ((ngS (s, u, c)).1, (ngS (s, v, c)).2.1, (ngS (s, u, c)).2.2) := by rw [a, d]
    rw [ev]
    exact ih
theorem cntS_cong {f g : Nat → Bool} : ∀ {n : Nat}, (∀ i, i < n → f i = g i) → cntS f n = cntS g n
  | 0, _ => rfl
  | n + 1, h => by rw [cntS, cntS, cntS_cong (fun i hi => h i (by omega)), h n (by omega)]
theorem eqN.sE {u v : NS} (h : eqN u v) : cntS u.2.2.1 (nN u) = cntS v.2.2.1 (nN v) := by
  rw [← h.nE]
  exact cntS_cong (fun i hi => (h.2 i hi).2.2.1)
def kNights (u : NS) (k : Nat) (s a : Int32) : Int32 := if a = 2 then (ngI k (s, u, 0)).1 else if a = 0 then (ngI k (s, u, 0)).2.2 else nI (cntS (ngI k (s, u, 0)).2.1.2.2.1 (nN (ngI k (s, u, 0)).2.1))
theorem prS_inv {kf tf : Nat → Int32} {sl : Nat → Bool} {h : Int32} {n a b : Nat} {s : Int32 × Int32} (ha : a < n) (hb : b < n) (hs : s = (-1, -1) ∨ ∃ i j, i < n ∧ j < n ∧ s = (nI (10 * i + j), nI (tog kf tf h i j))) : prS kf tf sl h a b s = (-1, -1) ∨ ∃ i j, i < n ∧ j < n ∧ prS kf tf sl h a b s = (nI (10 * i + j), nI (tog kf tf h i j)) := by
  rw [prS]
  split
  · exact Or.inr ⟨a, b, ha, hb, rfl⟩
  · exact hs
theorem itr_inv {σ : Type} {f : Nat → σ → σ} (I : σ → Prop) : ∀ (c b : Nat) (s : σ), I s → (∀ i s, b ≤ i → i < b + c → I s → I (f i s)) → I (itr f c b s)
  | 0, _, _, h, _ => h
  | c + 1, b, s, h, hf => itr_inv I c (b + 1) (f b s) (hf b s (Nat.le_refl _) (by omega) h) (fun i s h1 h2 h3 => hf i s (by omega) (by omega) h3)
theorem prU_inv (u : NS) : prU u = (-1, -1) ∨ ∃ i j, i < nN u ∧ j < nN u ∧ prU u = (nI (10 * i + j), nI (togU u i j)) := by
  obtain ⟨kf, tf, sl, bf, n, d, h⟩ := u
  show (itr (prO kf tf sl n h) n 0 (-1, -1) = _ ∨ _)
  refine itr_inv (fun s => s = (-1, -1) ∨ ∃ i j, i < n ∧ j < n ∧ s = (nI (10 * i + j), nI (tog kf tf h i j))) n 0 _ (Or.inl rfl) (fun a s h1 h2 h3 => ?_)
  refine itr_inv (fun s => s = (-1, -1) ∨ ∃ i j, i < n ∧ j < n ∧ s = (nI (10 * i + j), nI (tog kf tf h i j))) _ _ _ h3 (fun b s h4 h5 h6 => ?_)
  exact prS_inv (by omega) (by omega) h6
def kSunday (u : NS) (a : Int32) : Int32 := if isW a 0 1 = true then (if nN u = 0 then -103 else if a = 0 then (prU u).1 else (prU u).2) else -102
def kCount (c : Bool × Nat × Nat) (g : PG) (u : NS) (v : SS) (a : Int32) : Int32 := if a = 0 then nI (nN u) else if a = 1 then nD u else if a = 2 then nI (cntS u.2.2.1 (nN u)) else if a = 3 then nH u else if a = 4 then sumT u.2.1 (nN u) else if a = 5 then nI v.2.2 else if a = 6 then nI g.2 else if a = 7 then nI c.2.1 else if a = 8 then nI c.2.2 else -102
def mx (h : Int64) (v : Int32) : Int64 := 31 * h + v.toInt64
def dgA (u : NS) (v : SS) (j : Nat) (h : Int64) : Int64 := itr (fun a h => mx h (abU u v j (nI a))) 7 0 h
def dgL (u : NS) (v : SS) (j : Nat) (h : Int64) : Int64 := mx (dgA u v j h) (if u.2.2.1 j = true then 0 else oI (fcU u j 3))
def dgB (u : NS) (h : Int64) : Int64 := if nN u = 0 then h else mx (mx (mx h (oI (wbU u))) (prU u).1) (prU u).2
def dgP (g : PG) (h : Int64) : Int64 := itr (fun p h => mx h (g.1 p)) g.2 0 h
def dgC (c : Bool × Nat × Nat) (g : PG) (u : NS) (v : SS) (h : Int64) : Int64 := itr (fun a h => mx h (kCount c g u v (nI a))) 9 0 h
def kDigest (c : Bool × Nat × Nat) (g : PG) (u : NS) (v : SS) : Int64 := dgC c g u v (dgP g (dgB u (itr (dgL u v) (nN u) 0 953)))
theorem kn_j {n : Nat} {l : Int32} (h : kn n l = true) (hn : n < 2 ^ 31) : ∃ j, j < n ∧ l = nI j ∧ l.toNatClampNeg = j := by
  obtain ⟨j, hj, rfl⟩ := kn_f hn h
  exact ⟨j, hj, rfl, nI_clamp (by omega)⟩
theorem isW_nat {a : Int32} {lo hi : Nat} (hlo : lo < 2 ^ 31) (hhi : hi < 2 ^ 31) (h : isW a (nI lo) (nI hi) = true) : ∃ k, lo ≤ k ∧ k ≤ hi ∧ a = nI k := by
  simp [isW] at h
  obtain ⟨h1, h2⟩ := h
  have h0 : ¬ a < 0 := fun e => by
    rw [Int32.lt_iff_toInt_lt] at e
    rw [Int32.le_iff_toInt_le, nI_toInt hlo] at h1
    have : (0 : Int32).toInt = 0 := by decide
    omega
  obtain ⟨j, hj, rfl⟩ := nI_of h0
  exact ⟨j, (nI_leI hlo hj).mp h1, (nI_leI hj hhi).mp h2, rfl⟩
end
section
/-! the same orders of blocks, their number told: for long lists -/
theorem qm_b {bs bs' : List va_W} (N : Nat) (is : List Nat) (h : is.isPerm (List.range N) = true) (hN : bs.length = N) (e : is.filterMap (fun i => bs[i]?) = bs') : (fl bs).Perm (fl bs') := by subst hN; exact pm_b is h e
theorem qm_c {bs bc br : List va_W} (N : Nat) (is js : List Nat) (h : (is ++ js).isPerm (List.range N) = true) (hN : bs.length = N) (e : is.filterMap (fun i => bs[i]?) = bc) (f : js.filterMap (fun i => bs[i]?) = br) : (fl bs).Perm (fl bc ++ fl br) := by subst hN; exact pm_c is js h e f
theorem qm_1 {bs br : List va_W} {b : va_W} (N i : Nat) (js : List Nat) (h : ([i] ++ js).isPerm (List.range N) = true) (hN : bs.length = N) (e : bs[i]? = some b) (f : js.filterMap (fun i => bs[i]?) = br) : (fl bs).Perm (b ++ fl br) := by subst hN; exact pm_1 i js h e f
theorem qm_2 {bs br : List va_W} {b b2 : va_W} (N i i2 : Nat) (js : List Nat) (h : ([i, i2] ++ js).isPerm (List.range N) = true) (hN : bs.length = N) (e : bs[i]? = some b) (e2 : bs[i2]? = some b2) (f : js.filterMap (fun i => bs[i]?) = br) : (fl bs).Perm ((b ++ b2) ++ fl br) := by subst hN; exact pm_2 i i2 js h e e2 f
/-! what each call of the class answers, and its state behind it -/
section
variable (c : Bool × Nat × Nat) (g : PG) (u : NS) (v : SS) (uk : NS) (vk : SS)
def kLetter (a : Int32) : Int32 × CS := if isW a 32 126 = true then (if g.2 < 18 then (nI (g.2 + 1), (c, (upd g.1 g.2 a, g.2 + 1), u, v, uk, vk)) else (-104, (c, g, u, v, uk, vk))) else (-102, (c, g, u, v, uk, vk))
def kBlank : Int32 × CS := (nI g.2, (c, (g.1, 0), u, v, uk, vk))
def kFault : Int32 × CS := (nI (ffr g.1 g.2 g.2 0), (c, g, u, v, uk, vk))
def kHouse : Int32 × CS := if isHB g.1 g.2 = true then (nI (nN (bgn g u)), ((false, c.2.1 + 1, c.2.2), (g.1, 0), bgn g u, (v.1, v.2.1, 0), uk, vk)) else (-103, (c, g, u, v, uk, vk))
def kAs (l a : Int32) : Int32 := if kn (nN u) l = true then (if isW a 0 4 = true then (if alsoB (u.1 l.toNatClampNeg) a = true then l else -1) else -102) else -101
def kBed : Int32 := if nN u = 0 then -103 else oI (wbU u)
def kCoffee (l : Int32) : Int32 × CS := if kn (nN u) l = true then (if u.2.2.1 l.toNatClampNeg = true then (-103, (c, g, u, v, uk, vk)) else ((cof u l.toNatClampNeg).2.1 l.toNatClampNeg, (c, g, cof u l.toNatClampNeg, v, uk, vk))) else (-101, (c, g, u, v, uk, vk))
def kLecture (l : Int32) : Int32 × CS := if kn (nN u) l = true then (if u.2.2.1 l.toNatClampNeg = true then (-103, (c, g, u, v, uk, vk)) else ((lec u (some l.toNatClampNeg)).2.1 l.toNatClampNeg, (c, g, lec u (some l.toNatClampNeg), v, uk, vk))) else (-101, (c, g, u, v, uk, vk))
def kHour : Int32 × CS := if nN u = 0 then (-103, (c, g, u, v, uk, vk)) else (nI (cntS (ph u).2.2.1 (nN (ph u))), (c, g, ph u, v, uk, vk))
def kCups (l h : Int32) : Int32 := if kn (nN u) l = true then (if isW h 1 6 = true then (if u.2.2.1 l.toNatClampNeg = true then -103 else oI (fcU u l.toNatClampNeg h.toNatClampNeg)) else -102) else -101
def kLectures (l h a : Int32) : Int32 × CS := if kn (nN u) l = true then (if isW h 1 3 = true then (if isW a 0 1 = true then (if c.2.2 < 40 then ((if a = 0 then (mst h.toNatClampNeg u l.toNatClampNeg).1 else (mst h.toNatClampNeg u l.toNatClampNeg).2), ((c.1, c.2.1, c.2.2 + 1), g, u, v, uk, vk)) else (-103, (c, g, u, v, uk, vk))) else (-102, (c, g, u, v, uk, vk))) else (-102, (c, g, u, v, uk, vk))) else (-101, (c, g, u, v, uk, vk))
def kSee (h l : Int32) : Int32 × CS := if isW h 0 12 = true then (if l = -1 ∨ kn (nN u) l = true then (if v.2.2 < 6 then (nI (v.2.2 + 1), (c, g, u, (upd v.1 v.2.2 h, upd v.2.1 v.2.2 l, v.2.2 + 1), uk, vk)) else (-104, (c, g, u, v, uk, vk))) else (-101, (c, g, u, v, uk, vk))) else (-102, (c, g, u, v, uk, vk))
def kForget : Int32 × CS := (nI v.2.2, (c, g, u, (v.1, v.2.1, 0), uk, vk))
def kNightsR (h s a : Int32) : Int32 := if isW h 1 60 = true then (if s < 0 then -102 else if isW a 0 2 = true then (if nN u = 0 then -103 else kNights u h.toNatClampNeg s a) else -102) else -102
def kImage : Int32 × CS := if nN u = 0 then (-103, (c, g, u, v, uk, vk)) else (nH u, ((true, c.2.1, c.2.2), g, u, v, cpy u uk, scp v vk))
def kRestore : Int32 × CS := if c.1 = true then (nH (cpy uk u), (c, g, cpy uk u, scp vk v, uk, vk)) else (-103, (c, g, u, v, uk, vk))
end
end
section
set_option maxHeartbeats 4000000 in
set_option maxRecDepth 100000 in
theorem tX5_hasHouse (l : Launch) (x : Cx) (A : Nat → Nat → Nat) (ik : Bool) (hr ld : Nat) (u : NS) (hu : nN u ≤ 5) : MC l x 1 0 0 yX5_hasHouse cX5_hasHouse 1 (some .boolean) [.ref ((A 0) 0)] (fl [ob A (ik, hr, ld), nb x (A 2) u]) (eI (bI (decide (0 < nN u))) (fl [ob A (ik, hr, ld), nb x (A 2) u])) := by
  refine MC.of (by decide) (Nat.le_of_ble_eq_true rfl) eB_fit (fun M => ?_)
  show J M l x cX5_hasHouse 1 yX5_hasHouse 1 (eI (bI (decide (0 < nN u))) (fl [ob A (ik, hr, ld), nb x (A 2) u])) 0 0 0 [(0, .ref ((A 0) 0))] [] (fl [ob A (ik, hr, ld), nb x (A 2) u])
  refine j_aload_n 0 dX5_hasHouse_0 rfl rfl ?_
  refine j_get (v := .ref ((A 2) 0)) 0 dX5_hasHouse_1 fX5_19 rfl rfl ?_
  refine j_cVi (As := []) (rest := []) (wr := fl [ob A (ik, hr, ld)]) (ws' := fl [nb x (A 2) u, ob A (ik, hr, ld)]) (uX2_lodgers l x (A 2) u ) kX2_lodgers 0 rfl rfl rfl vX5_91 dX5_hasHouse_4 (by decide) rfl rfl (Nat.le_of_ble_eq_true rfl) (pm_1 1 [0] rfl rfl rfl) rfl ?_
  refine j_if_le (tgt := 14) dX5_hasHouse_7 (by decide) (fun h7 => ?_) (fun h7 => ?_)
  · skip
    refine j_iconst (v := bI false) dX5_hasHouse_14 (by decide) ?_
    refine j_perm (fl [ob A (ik, hr, ld), nb x (A 2) u]) (pm_b [1, 0] rfl rfl) ?_
    exact j_iret _ dX5_hasHouse_15 (List.Perm.refl _) ⟨by rw [decide_eq_false (by have := nI_le0 (by omega) h7; omega)], rfl⟩
  · skip
    refine j_iconst (v := bI true) dX5_hasHouse_10 (by decide) ?_
    refine j_goto (tgt := 15) dX5_hasHouse_11 (by decide) ?_
    refine j_perm (fl [ob A (ik, hr, ld), nb x (A 2) u]) (pm_b [1, 0] rfl rfl) ?_
    exact j_iret _ dX5_hasHouse_15 (List.Perm.refl _) ⟨by rw [decide_eq_true (nI_gt0 h7)], rfl⟩
set_option maxHeartbeats 4000000 in
set_option maxRecDepth 100000 in
theorem tX5_letter (l : Launch) (x : Cx) (A a : Nat → Nat → Nat) (r : Nat → Nat) (ik : Bool) (hr ld : Nat) (g : PG) (u : NS) (v : SS) (uk : NS) (vk : SS) (hld : ld ≤ 40) (hg : g.2 ≤ 18) (hu : nN u ≤ 5) (hv : v.2.2 ≤ 6) (huk : nN uk ≤ 5) (hvk : vk.2.2 ≤ 6) (e : Int32) (z : ZS) (hz : zok z) : MC l x 10 0 0 yX5_letter cX5_letter 2 (some .int) [.ref ((A 0) 0), .int e] (cw x A a r ((ik, hr, ld), g, u, v, uk, vk) z) (pS5 x A a r ((kLetter (ik, hr, ld) g u v uk vk e).1) ((kLetter (ik, hr, ld) g u v uk vk e).2)) := by
  have hw : nN z.1 ≤ 5 := hz.1
  have hw0 : nN z.2.2.1 ≤ 5 := hz.2.1
  have hw1 : nN z.2.2.2.1 ≤ 5 := hz.2.2.1
  have hw2 : nN z.2.2.2.2.1 ≤ 5 := hz.2.2.2.1
  have hw3 : nN z.2.2.2.2.2.2.2 ≤ 5 := hz.2.2.2.2
  refine MC.of (by decide) (Nat.le_of_ble_eq_true rfl) eXI_fit (fun M => ?_)
  show J M l x cX5_letter 2 yX5_letter 10 (pS5 x A a r ((kLetter (ik, hr, ld) g u v uk vk e).1) ((kLetter (ik, hr, ld) g u v uk vk e).2)) 0 0 0 [(0, .ref ((A 0) 0)), (1, .int e)] [] (fl [ob A (ik, hr, ld), pb x (A 1) g, nb x (A 2) u, sb x (A 3) v, nb x (A 4) uk, sb x (A 5) vk, nb x (A 6) z.1, lb x (A 7) a z.2.1, nb x (a 0) z.2.2.1, nb x (a 1) z.2.2.2.1, nb x (a 2) z.2.2.2.2.1, gb x (A 11) (A 13) r z.2.2.2.2.2.1, rowsB x r z.2.2.2.2.2.2.1, nb x (A 13) z.2.2.2.2.2.2.2])
  refine j_iload_n 1 dX5_letter_0 rfl rfl ?_
  refine j_bipush (v := 32) dX5_letter_1 (by decide) ?_
  refine j_bipush (v := 126) dX5_letter_3 (by decide) ?_
  refine j_cSi (As := [.int e, .int 32, .int 126]) (rest := []) (wr := fl [ob A (ik, hr, ld), pb x (A 1) g, nb x (A 2) u, sb x (A 3) v, nb x (A 4) uk, sb x (A 5) vk, nb x (A 6) z.1, lb x (A 7) a z.2.1, nb x (a 0) z.2.2.1, nb x (a 1) z.2.2.2.1, nb x (a 2) z.2.2.2.2.1, gb x (A 11) (A 13) r z.2.2.2.2.2.1, rowsB x r z.2.2.2.2.2.2.1, nb x (A 13) z.2.2.2.2.2.2.2]) (ws' := fl [ob A (ik, hr, ld), pb x (A 1) g, nb x (A 2) u, sb x (A 3) v, nb x (A 4) uk, sb x (A 5) vk, nb x (A 6) z.1, lb x (A 7) a z.2.1, nb x (a 0) z.2.2.1, nb x (a 1) z.2.2.2.1, nb x (a 2) z.2.2.2.2.1, gb x (A 11) (A 13) r z.2.2.2.2.2.1, rowsB x r z.2.2.2.2.2.2.1, nb x (A 13) z.2.2.2.2.2.2.2]) (tX5_isWithin l x e 32 126) kX5_isWithin sX5_64 dX5_letter_5 (by decide) rfl rfl (Nat.le_of_ble_eq_true rfl) (List.Perm.refl _) rfl ?_
  refine j_ifb_ne (b := isW e 32 126) (tgt := 14) dX5_letter_8 (by decide) (fun h8 => ?_) (fun h8 => ?_)
  · skip
    refine j_aload_n 0 dX5_letter_14 rfl rfl ?_
    refine j_get (v := .ref ((A 1) 0)) 0 dX5_letter_15 fX5_10 rfl rfl ?_
    refine j_cVi (As := []) (rest := []) (wr := fl [ob A (ik, hr, ld), nb x (A 2) u, sb x (A 3) v, nb x (A 4) uk, sb x (A 5) vk, nb x (A 6) z.1, lb x (A 7) a z.2.1, nb x (a 0) z.2.2.1, nb x (a 1) z.2.2.2.1, nb x (a 2) z.2.2.2.2.1, gb x (A 11) (A 13) r z.2.2.2.2.2.1, rowsB x r z.2.2.2.2.2.2.1, nb x (A 13) z.2.2.2.2.2.2.2]) (ws' := fl [pb x (A 1) g, ob A (ik, hr, ld), nb x (A 2) u, sb x (A 3) v, nb x (A 4) uk, sb x (A 5) vk, nb x (A 6) z.1, lb x (A 7) a z.2.1, nb x (a 0) z.2.2.1, nb x (a 1) z.2.2.2.1, nb x (a 2) z.2.2.2.2.1, gb x (A 11) (A 13) r z.2.2.2.2.2.1, rowsB x r z.2.2.2.2.2.2.1, nb x (A 13) z.2.2.2.2.2.2.2]) (uX3_length l x (A 1) g (by omega)) kX3_length 0 rfl rfl rfl vX5_68 dX5_letter_18 (by decide) rfl rfl (Nat.le_of_ble_eq_true rfl) (qm_1 14 1 [0, 2, 3, 4, 5, 6, 7, 8, 9, 10, 11, 12, 13] (by decide +kernel) rfl rfl rfl) rfl ?_
    refine j_bipush (v := 18) dX5_letter_21 (by decide) ?_
    refine j_icmpN_lt (a := g.2) (b := 18) (by omega) (by omega) (tgt := 29) dX5_letter_23 (by decide) (fun h23 => ?_) (fun h23 => ?_)
    · skip
      refine j_aload_n 0 dX5_letter_29 rfl rfl ?_
      refine j_get (v := .ref ((A 1) 0)) 2 dX5_letter_30 fX5_10 rfl rfl ?_
      refine j_iload_n 1 dX5_letter_33 rfl rfl ?_
      refine j_cVi (As := [.int e]) (rest := []) (wr := fl [ob A (ik, hr, ld), nb x (A 2) u, sb x (A 3) v, nb x (A 4) uk, sb x (A 5) vk, nb x (A 6) z.1, lb x (A 7) a z.2.1, nb x (a 0) z.2.2.1, nb x (a 1) z.2.2.2.1, nb x (a 2) z.2.2.2.2.1, gb x (A 11) (A 13) r z.2.2.2.2.2.1, rowsB x r z.2.2.2.2.2.2.1, nb x (A 13) z.2.2.2.2.2.2.2]) (ws' := fl [pb x (A 1) (upd g.1 g.2 e, g.2 + 1), ob A (ik, hr, ld), nb x (A 2) u, sb x (A 3) v, nb x (A 4) uk, sb x (A 5) vk, nb x (A 6) z.1, lb x (A 7) a z.2.1, nb x (a 0) z.2.2.1, nb x (a 1) z.2.2.2.1, nb x (a 2) z.2.2.2.2.1, gb x (A 11) (A 13) r z.2.2.2.2.2.1, rowsB x r z.2.2.2.2.2.2.1, nb x (A 13) z.2.2.2.2.2.2.2]) (uX3_put l x (A 1) g (by omega) e) kX3_put 0 rfl rfl rfl vX5_72 dX5_letter_34 (by decide) rfl rfl (Nat.le_of_ble_eq_true rfl) (qm_1 14 0 [1, 2, 3, 4, 5, 6, 7, 8, 9, 10, 11, 12, 13] (by decide +kernel) rfl rfl rfl) rfl ?_
      refine j_perm (fl [ob A (ik, hr, ld), pb x (A 1) (upd g.1 g.2 e, g.2 + 1), nb x (A 2) u, sb x (A 3) v, nb x (A 4) uk, sb x (A 5) vk, nb x (A 6) z.1, lb x (A 7) a z.2.1, nb x (a 0) z.2.2.1, nb x (a 1) z.2.2.2.1, nb x (a 2) z.2.2.2.2.1, gb x (A 11) (A 13) r z.2.2.2.2.2.1, rowsB x r z.2.2.2.2.2.2.1, nb x (A 13) z.2.2.2.2.2.2.2]) (qm_b 14 [1, 0, 2, 3, 4, 5, 6, 7, 8, 9, 10, 11, 12, 13] (by decide +kernel) rfl rfl) ?_
      rw [show kLetter (ik, hr, ld) g u v uk vk e = (nI (g.2 + 1), ((ik, hr, ld), (upd g.1 g.2 e, g.2 + 1), u, v, uk, vk)) from by simp [kLetter, h8, h23]]
      exact j_iret _ dX5_letter_37 (List.Perm.refl _) ⟨rfl, (z.1, z.2.1, z.2.2.1, z.2.2.2.1, z.2.2.2.2.1, z.2.2.2.2.2.1, z.2.2.2.2.2.2.1, z.2.2.2.2.2.2.2), ⟨(by (try simp only [nN_ph, nN_lec, nN_cpy, nN_cof, nN_wak, nN_hrs]); omega), (by (try simp only [nN_ph, nN_lec, nN_cpy, nN_cof, nN_wak, nN_hrs]); omega), (by (try simp only [nN_ph, nN_lec, nN_cpy, nN_cof, nN_wak, nN_hrs]); omega), (by (try simp only [nN_ph, nN_lec, nN_cpy, nN_cof, nN_wak, nN_hrs]); omega), (by (try simp only [nN_ph, nN_lec, nN_cpy, nN_cof, nN_wak, nN_hrs]); omega)⟩, rfl⟩
    · skip
      refine j_bipush (v := (-104)) dX5_letter_26 (by decide) ?_
      refine j_perm (fl [ob A (ik, hr, ld), pb x (A 1) g, nb x (A 2) u, sb x (A 3) v, nb x (A 4) uk, sb x (A 5) vk, nb x (A 6) z.1, lb x (A 7) a z.2.1, nb x (a 0) z.2.2.1, nb x (a 1) z.2.2.2.1, nb x (a 2) z.2.2.2.2.1, gb x (A 11) (A 13) r z.2.2.2.2.2.1, rowsB x r z.2.2.2.2.2.2.1, nb x (A 13) z.2.2.2.2.2.2.2]) (qm_b 14 [1, 0, 2, 3, 4, 5, 6, 7, 8, 9, 10, 11, 12, 13] (by decide +kernel) rfl rfl) ?_
      rw [show kLetter (ik, hr, ld) g u v uk vk e = ((-104), ((ik, hr, ld), g, u, v, uk, vk)) from by simp [kLetter, h8, Nat.not_lt.mpr h23]]
      exact j_iret _ dX5_letter_28 (List.Perm.refl _) ⟨rfl, (z.1, z.2.1, z.2.2.1, z.2.2.2.1, z.2.2.2.2.1, z.2.2.2.2.2.1, z.2.2.2.2.2.2.1, z.2.2.2.2.2.2.2), ⟨(by (try simp only [nN_ph, nN_lec, nN_cpy, nN_cof, nN_wak, nN_hrs]); omega), (by (try simp only [nN_ph, nN_lec, nN_cpy, nN_cof, nN_wak, nN_hrs]); omega), (by (try simp only [nN_ph, nN_lec, nN_cpy, nN_cof, nN_wak, nN_hrs]); omega), (by (try simp only [nN_ph, nN_lec, nN_cpy, nN_cof, nN_wak, nN_hrs]); omega), (by (try simp only [nN_ph, nN_lec, nN_cpy, nN_cof, nN_wak, nN_hrs]); omega)⟩, rfl⟩
  · skip
    refine j_bipush (v := (-102)) dX5_letter_11 (by decide) ?_
    rw [show kLetter (ik, hr, ld) g u v uk vk e = ((-102), ((ik, hr, ld), g, u, v, uk, vk)) from by simp [kLetter, h8]]
    exact j_iret _ dX5_letter_13 (List.Perm.refl _) ⟨rfl, (z.1, z.2.1, z.2.2.1, z.2.2.2.1, z.2.2.2.2.1, z.2.2.2.2.2.1, z.2.2.2.2.2.2.1, z.2.2.2.2.2.2.2), ⟨(by (try simp only [nN_ph, nN_lec, nN_cpy, nN_cof, nN_wak, nN_hrs]); omega), (by (try simp only [nN_ph, nN_lec, nN_cpy, nN_cof, nN_wak, nN_hrs]); omega), (by (try simp only [nN_ph, nN_lec, nN_cpy, nN_cof, nN_wak, nN_hrs]); omega), (by (try simp only [nN_ph, nN_lec, nN_cpy, nN_cof, nN_wak, nN_hrs]); omega), (by (try simp only [nN_ph, nN_lec, nN_cpy, nN_cof, nN_wak, nN_hrs]); omega)⟩, rfl⟩
set_option maxHeartbeats 4000000 in
set_option maxRecDepth 100000 in
theorem tX5_blank (l : Launch) (x : Cx) (A a : Nat → Nat → Nat) (r : Nat → Nat) (ik : Bool) (hr ld : Nat) (g : PG) (u : NS) (v : SS) (uk : NS) (vk : SS) (hld : ld ≤ 40) (hg : g.2 ≤ 18) (hu : nN u ≤ 5) (hv : v.2.2 ≤ 6) (huk : nN uk ≤ 5) (hvk : vk.2.2 ≤ 6)  (z : ZS) (hz : zok z) : MC l x 10 0 0 yX5_blank cX5_blank 1 (some .int) [.ref ((A 0) 0)] (cw x A a r ((ik, hr, ld), g, u, v, uk, vk) z) (pS5 x A a r ((kBlank (ik, hr, ld) g u v uk vk).1) ((kBlank (ik, hr, ld) g u v uk vk).2)) := by
  have hw : nN z.1 ≤ 5 := hz.1
  have hw0 : nN z.2.2.1 ≤ 5 := hz.2.1
  have hw1 : nN z.2.2.2.1 ≤ 5 := hz.2.2.1
  have hw2 : nN z.2.2.2.2.1 ≤ 5 := hz.2.2.2.1
  have hw3 : nN z.2.2.2.2.2.2.2 ≤ 5 := hz.2.2.2.2
  refine MC.of (by decide) (Nat.le_of_ble_eq_true rfl) eXI_fit (fun M => ?_)
  show J M l x cX5_blank 1 yX5_blank 10 (pS5 x A a r ((kBlank (ik, hr, ld) g u v uk vk).1) ((kBlank (ik, hr, ld) g u v uk vk).2)) 0 0 0 [(0, .ref ((A 0) 0))] [] (fl [ob A (ik, hr, ld), pb x (A 1) g, nb x (A 2) u, sb x (A 3) v, nb x (A 4) uk, sb x (A 5) vk, nb x (A 6) z.1, lb x (A 7) a z.2.1, nb x (a 0) z.2.2.1, nb x (a 1) z.2.2.2.1, nb x (a 2) z.2.2.2.2.1, gb x (A 11) (A 13) r z.2.2.2.2.2.1, rowsB x r z.2.2.2.2.2.2.1, nb x (A 13) z.2.2.2.2.2.2.2])
  refine j_aload_n 0 dX5_blank_0 rfl rfl ?_
  refine j_get (v := .ref ((A 1) 0)) 0 dX5_blank_1 fX5_10 rfl rfl ?_
  refine j_cVi (As := []) (rest := []) (wr := fl [ob A (ik, hr, ld), nb x (A 2) u, sb x (A 3) v, nb x (A 4) uk, sb x (A 5) vk, nb x (A 6) z.1, lb x (A 7) a z.2.1, nb x (a 0) z.2.2.1, nb x (a 1) z.2.2.2.1, nb x (a 2) z.2.2.2.2.1, gb x (A 11) (A 13) r z.2.2.2.2.2.1, rowsB x r z.2.2.2.2.2.2.1, nb x (A 13) z.2.2.2.2.2.2.2]) (ws' := fl [pb x (A 1) (g.1, 0), ob A (ik, hr, ld), nb x (A 2) u, sb x (A 3) v, nb x (A 4) uk, sb x (A 5) vk, nb x (A 6) z.1, lb x (A 7) a z.2.1, nb x (a 0) z.2.2.1, nb x (a 1) z.2.2.2.1, nb x (a 2) z.2.2.2.2.1, gb x (A 11) (A 13) r z.2.2.2.2.2.1, rowsB x r z.2.2.2.2.2.2.1, nb x (A 13) z.2.2.2.2.2.2.2]) (uX3_empty l x (A 1) g (by omega)) kX3_empty 0 rfl rfl rfl vX5_76 dX5_blank_4 (by decide) rfl rfl (Nat.le_of_ble_eq_true rfl) (qm_1 14 1 [0, 2, 3, 4, 5, 6, 7, 8, 9, 10, 11, 12, 13] (by decide +kernel) rfl rfl rfl) rfl ?_
  refine j_perm (fl [ob A (ik, hr, ld), pb x (A 1) (g.1, 0), nb x (A 2) u, sb x (A 3) v, nb x (A 4) uk, sb x (A 5) vk, nb x (A 6) z.1, lb x (A 7) a z.2.1, nb x (a 0) z.2.2.1, nb x (a 1) z.2.2.2.1, nb x (a 2) z.2.2.2.2.1, gb x (A 11) (A 13) r z.2.2.2.2.2.1, rowsB x r z.2.2.2.2.2.2.1, nb x (A 13) z.2.2.2.2.2.2.2]) (qm_b 14 [1, 0, 2, 3, 4, 5, 6, 7, 8, 9, 10, 11, 12, 13] (by decide +kernel) rfl rfl) ?_
  rw [show kBlank (ik, hr, ld) g u v uk vk = (nI g.2, ((ik, hr, ld), (g.1, 0), u, v, uk, vk)) from by rfl]
  exact j_iret _ dX5_blank_7 (List.Perm.refl _) ⟨rfl, (z.1, z.2.1, z.2.2.1, z.2.2.2.1, z.2.2.2.2.1, z.2.2.2.2.2.1, z.2.2.2.2.2.2.1, z.2.2.2.2.2.2.2), ⟨(by (try simp only [nN_ph, nN_lec, nN_cpy, nN_cof, nN_wak, nN_hrs]); omega), (by (try simp only [nN_ph, nN_lec, nN_cpy, nN_cof, nN_wak, nN_hrs]); omega), (by (try simp only [nN_ph, nN_lec, nN_cpy, nN_cof, nN_wak, nN_hrs]); omega), (by (try simp only [nN_ph, nN_lec, nN_cpy, nN_cof, nN_wak, nN_hrs]); omega), (by (try simp only [nN_ph, nN_lec, nN_cpy, nN_cof, nN_wak, nN_hrs]); omega)⟩, rfl⟩
set_option maxHeartbeats 4000000 in
set_option maxRecDepth 100000 in
theorem tX5_fault (l : Launch) (x : Cx) (A a : Nat → Nat → Nat) (r : Nat → Nat) (ik : Bool) (hr ld : Nat) (g : PG) (u : NS) (v : SS) (uk : NS) (vk : SS) (hld : ld ≤ 40) (hg : g.2 ≤ 18) (hu : nN u ≤ 5) (hv : v.2.2 ≤ 6) (huk : nN uk ≤ 5) (hvk : vk.2.2 ≤ 6)  (z : ZS) (hz : zok z) : MC l x 10 0 0 yX5_fault cX5_fault 1 (some .int) [.ref ((A 0) 0)] (cw x A a r ((ik, hr, ld), g, u, v, uk, vk) z) (pS5 x A a r ((kFault (ik, hr, ld) g u v uk vk).1) ((kFault (ik, hr, ld) g u v uk vk).2)) := by
  have hw : nN z.1 ≤ 5 := hz.1
  have hw0 : nN z.2.2.1 ≤ 5 := hz.2.1
  have hw1 : nN z.2.2.2.1 ≤ 5 := hz.2.2.1
  have hw2 : nN z.2.2.2.2.1 ≤ 5 := hz.2.2.2.1
  have hw3 : nN z.2.2.2.2.2.2.2 ≤ 5 := hz.2.2.2.2
  refine MC.of (by decide) (Nat.le_of_ble_eq_true rfl) eXI_fit (fun M => ?_)
  show J M l x cX5_fault 1 yX5_fault 10 (pS5 x A a r ((kFault (ik, hr, ld) g u v uk vk).1) ((kFault (ik, hr, ld) g u v uk vk).2)) 0 0 0 [(0, .ref ((A 0) 0))] [] (fl [ob A (ik, hr, ld), pb x (A 1) g, nb x (A 2) u, sb x (A 3) v, nb x (A 4) uk, sb x (A 5) vk, nb x (A 6) z.1, lb x (A 7) a z.2.1, nb x (a 0) z.2.2.1, nb x (a 1) z.2.2.2.1, nb x (a 2) z.2.2.2.2.1, gb x (A 11) (A 13) r z.2.2.2.2.2.1, rowsB x r z.2.2.2.2.2.2.1, nb x (A 13) z.2.2.2.2.2.2.2])
  refine j_aload_n 0 dX5_fault_0 rfl rfl ?_
  refine j_get (v := .ref ((A 1) 0)) 0 dX5_fault_1 fX5_10 rfl rfl ?_
  refine j_cVi (As := []) (rest := []) (wr := fl [ob A (ik, hr, ld), nb x (A 2) u, sb x (A 3) v, nb x (A 4) uk, sb x (A 5) vk, nb x (A 6) z.1, lb x (A 7) a z.2.1, nb x (a 0) z.2.2.1, nb x (a 1) z.2.2.2.1, nb x (a 2) z.2.2.2.2.1, gb x (A 11) (A 13) r z.2.2.2.2.2.1, rowsB x r z.2.2.2.2.2.2.1, nb x (A 13) z.2.2.2.2.2.2.2]) (ws' := fl [pb x (A 1) g, ob A (ik, hr, ld), nb x (A 2) u, sb x (A 3) v, nb x (A 4) uk, sb x (A 5) vk, nb x (A 6) z.1, lb x (A 7) a z.2.1, nb x (a 0) z.2.2.1, nb x (a 1) z.2.2.2.1, nb x (a 2) z.2.2.2.2.1, gb x (A 11) (A 13) r z.2.2.2.2.2.1, rowsB x r z.2.2.2.2.2.2.1, nb x (A 13) z.2.2.2.2.2.2.2]) (uX3_firstFault l x (A 1) g (by omega)) kX3_firstFault 0 rfl rfl rfl vX5_79 dX5_fault_4 (by decide) rfl rfl (Nat.le_of_ble_eq_true rfl) (qm_1 14 1 [0, 2, 3, 4, 5, 6, 7, 8, 9, 10, 11, 12, 13] (by decide +kernel) rfl rfl rfl) rfl ?_
  refine j_perm (fl [ob A (ik, hr, ld), pb x (A 1) g, nb x (A 2) u, sb x (A 3) v, nb x (A 4) uk, sb x (A 5) vk, nb x (A 6) z.1, lb x (A 7) a z.2.1, nb x (a 0) z.2.2.1, nb x (a 1) z.2.2.2.1, nb x (a 2) z.2.2.2.2.1, gb x (A 11) (A 13) r z.2.2.2.2.2.1, rowsB x r z.2.2.2.2.2.2.1, nb x (A 13) z.2.2.2.2.2.2.2]) (qm_b 14 [1, 0, 2, 3, 4, 5, 6, 7, 8, 9, 10, 11, 12, 13] (by decide +kernel) rfl rfl) ?_
  rw [show kFault (ik, hr, ld) g u v uk vk = (nI (ffr g.1 g.2 g.2 0), ((ik, hr, ld), g, u, v, uk, vk)) from by rfl]
  exact j_iret _ dX5_fault_7 (List.Perm.refl _) ⟨rfl, (z.1, z.2.1, z.2.2.1, z.2.2.2.1, z.2.2.2.2.1, z.2.2.2.2.2.1, z.2.2.2.2.2.2.1, z.2.2.2.2.2.2.2), ⟨(by (try simp only [nN_ph, nN_lec, nN_cpy, nN_cof, nN_wak, nN_hrs]); omega), (by (try simp only [nN_ph, nN_lec, nN_cpy, nN_cof, nN_wak, nN_hrs]); omega), (by (try simp only [nN_ph, nN_lec, nN_cpy, nN_cof, nN_wak, nN_hrs]); omega), (by (try simp only [nN_ph, nN_lec, nN_cpy, nN_cof, nN_wak, nN_hrs]); omega), (by (try simp only [nN_ph, nN_lec, nN_cpy, nN_cof, nN_wak, nN_hrs]); omega)⟩, rfl⟩
set_option maxHeartbeats 4000000 in
set_option maxRecDepth 100000 in
theorem tX5_house (l : Launch) (x : Cx) (A a : Nat → Nat → Nat) (r : Nat → Nat) (ik : Bool) (hr ld : Nat) (g : PG) (u : NS) (v : SS) (uk : NS) (vk : SS) (hld : ld ≤ 40) (hg : g.2 ≤ 18) (hu : nN u ≤ 5) (hv : v.2.2 ≤ 6) (huk : nN uk ≤ 5) (hvk : vk.2.2 ≤ 6)  (z : ZS) (hz : zok z) : MC l x 10 0 0 yX5_house cX5_house 1 (some .int) [.ref ((A 0) 0)] (cw x A a r ((ik, hr, ld), g, u, v, uk, vk) z) (pS5 x A a r ((kHouse (ik, hr, ld) g u v uk vk).1) ((kHouse (ik, hr, ld) g u v uk vk).2)) := by
  have hw : nN z.1 ≤ 5 := hz.1
  have hw0 : nN z.2.2.1 ≤ 5 := hz.2.1
  have hw1 : nN z.2.2.2.1 ≤ 5 := hz.2.2.1
  have hw2 : nN z.2.2.2.2.1 ≤ 5 := hz.2.2.2.1
  have hw3 : nN z.2.2.2.2.2.2.2 ≤ 5 := hz.2.2.2.2
  refine MC.of (by decide) (Nat.le_of_ble_eq_true rfl) eXI_fit (fun M => ?_)
  show J M l x cX5_house 1 yX5_house 10 (pS5 x A a r ((kHouse (ik, hr, ld) g u v uk vk).1) ((kHouse (ik, hr, ld) g u v uk vk).2)) 0 0 0 [(0, .ref ((A 0) 0))] [] (fl [ob A (ik, hr, ld), pb x (A 1) g, nb x (A 2) u, sb x (A 3) v, nb x (A 4) uk, sb x (A 5) vk, nb x (A 6) z.1, lb x (A 7) a z.2.1, nb x (a 0) z.2.2.1, nb x (a 1) z.2.2.2.1, nb x (a 2) z.2.2.2.2.1, gb x (A 11) (A 13) r z.2.2.2.2.2.1, rowsB x r z.2.2.2.2.2.2.1, nb x (A 13) z.2.2.2.2.2.2.2])
  refine j_aload_n 0 dX5_house_0 rfl rfl ?_
  refine j_get (v := .ref ((A 1) 0)) 0 dX5_house_1 fX5_10 rfl rfl ?_
  refine j_cVi (As := []) (rest := []) (wr := fl [ob A (ik, hr, ld), nb x (A 2) u, sb x (A 3) v, nb x (A 4) uk, sb x (A 5) vk, nb x (A 6) z.1, lb x (A 7) a z.2.1, nb x (a 0) z.2.2.1, nb x (a 1) z.2.2.2.1, nb x (a 2) z.2.2.2.2.1, gb x (A 11) (A 13) r z.2.2.2.2.2.1, rowsB x r z.2.2.2.2.2.2.1, nb x (A 13) z.2.2.2.2.2.2.2]) (ws' := fl [pb x (A 1) g, ob A (ik, hr, ld), nb x (A 2) u, sb x (A 3) v, nb x (A 4) uk, sb x (A 5) vk, nb x (A 6) z.1, lb x (A 7) a z.2.1, nb x (a 0) z.2.2.1, nb x (a 1) z.2.2.2.1, nb x (a 2) z.2.2.2.2.1, gb x (A 11) (A 13) r z.2.2.2.2.2.1, rowsB x r z.2.2.2.2.2.2.1, nb x (A 13) z.2.2.2.2.2.2.2]) (uX3_isHouse l x (A 1) g (by omega)) kX3_isHouse 0 rfl rfl rfl vX5_82 dX5_house_4 (by decide) rfl rfl (Nat.le_of_ble_eq_true rfl) (qm_1 14 1 [0, 2, 3, 4, 5, 6, 7, 8, 9, 10, 11, 12, 13] (by decide +kernel) rfl rfl rfl) rfl ?_
  refine j_ifb_ne (b := isHB g.1 g.2) (tgt := 13) dX5_house_7 (by decide) (fun h7 => ?_) (fun h7 => ?_)
  · skip
    refine j_aload_n 0 dX5_house_13 rfl rfl ?_
    refine j_get (v := .ref ((A 2) 0)) 2 dX5_house_14 fX5_19 rfl rfl ?_
    refine j_aload_n 0 dX5_house_17 rfl rfl ?_
    refine j_get (v := .ref ((A 1) 0)) 2 dX5_house_18 fX5_10 rfl rfl ?_
    refine j_cVv (As := [.ref ((A 1) 0)]) (rest := []) (wr := fl [ob A (ik, hr, ld), sb x (A 3) v, nb x (A 4) uk, sb x (A 5) vk, nb x (A 6) z.1, lb x (A 7) a z.2.1, nb x (a 0) z.2.2.1, nb x (a 1) z.2.2.2.1, nb x (a 2) z.2.2.2.2.1, gb x (A 11) (A 13) r z.2.2.2.2.2.1, rowsB x r z.2.2.2.2.2.2.1, nb x (A 13) z.2.2.2.2.2.2.2]) (ws' := fl [nb x (A 2) (bgn g u), pb x (A 1) g, ob A (ik, hr, ld), sb x (A 3) v, nb x (A 4) uk, sb x (A 5) vk, nb x (A 6) z.1, lb x (A 7) a z.2.1, nb x (a 0) z.2.2.1, nb x (a 1) z.2.2.2.1, nb x (a 2) z.2.2.2.2.1, gb x (A 11) (A 13) r z.2.2.2.2.2.1, rowsB x r z.2.2.2.2.2.2.1, nb x (A 13) z.2.2.2.2.2.2.2]) (uX2_begin l x (A 2) u (A 1) g (by omega)) kX2_begin 0 rfl rfl rfl vX5_86 dX5_house_21 (by decide) rfl rfl (Nat.le_of_ble_eq_true rfl) (qm_c 14 [2, 0] [1, 3, 4, 5, 6, 7, 8, 9, 10, 11, 12, 13] (by decide +kernel) rfl rfl rfl) (fl_app _ _) ?_
    refine j_aload_n 0 dX5_house_24 rfl rfl ?_
    refine j_get (v := .ref ((A 1) 0)) 7 dX5_house_25 fX5_10 rfl rfl ?_
    refine j_cVi (As := []) (rest := []) (wr := fl [nb x (A 2) (bgn g u), ob A (ik, hr, ld), sb x (A 3) v, nb x (A 4) uk, sb x (A 5) vk, nb x (A 6) z.1, lb x (A 7) a z.2.1, nb x (a 0) z.2.2.1, nb x (a 1) z.2.2.2.1, nb x (a 2) z.2.2.2.2.1, gb x (A 11) (A 13) r z.2.2.2.2.2.1, rowsB x r z.2.2.2.2.2.2.1, nb x (A 13) z.2.2.2.2.2.2.2]) (ws' := fl [pb x (A 1) (g.1, 0), nb x (A 2) (bgn g u), ob A (ik, hr, ld), sb x (A 3) v, nb x (A 4) uk, sb x (A 5) vk, nb x (A 6) z.1, lb x (A 7) a z.2.1, nb x (a 0) z.2.2.1, nb x (a 1) z.2.2.2.1, nb x (a 2) z.2.2.2.2.1, gb x (A 11) (A 13) r z.2.2.2.2.2.1, rowsB x r z.2.2.2.2.2.2.1, nb x (A 13) z.2.2.2.2.2.2.2]) (uX3_empty l x (A 1) g (by omega)) kX3_empty 0 rfl rfl rfl vX5_76 dX5_house_28 (by decide) rfl rfl (Nat.le_of_ble_eq_true rfl) (qm_1 14 1 [0, 2, 3, 4, 5, 6, 7, 8, 9, 10, 11, 12, 13] (by decide +kernel) rfl rfl rfl) rfl ?_
    refine j_pop dX5_house_31 rfl ?_
    refine j_aload_n 0 dX5_house_32 rfl rfl ?_
    refine j_get (v := .ref ((A 3) 0)) 7 dX5_house_33 fX5_26 rfl rfl ?_
    refine j_cVi (As := []) (rest := []) (wr := fl [pb x (A 1) (g.1, 0), nb x (A 2) (bgn g u), ob A (ik, hr, ld), nb x (A 4) uk, sb x (A 5) vk, nb x (A 6) z.1, lb x (A 7) a z.2.1, nb x (a 0) z.2.2.1, nb x (a 1) z.2.2.2.1, nb x (a 2) z.2.2.2.2.1, gb x (A 11) (A 13) r z.2.2.2.2.2.1, rowsB x r z.2.2.2.2.2.2.1, nb x (A 13) z.2.2.2.2.2.2.2]) (ws' := fl [sb x (A 3) (v.1, v.2.1, 0), pb x (A 1) (g.1, 0), nb x (A 2) (bgn g u), ob A (ik, hr, ld), nb x (A 4) uk, sb x (A 5) vk, nb x (A 6) z.1, lb x (A 7) a z.2.1, nb x (a 0) z.2.2.1, nb x (a 1) z.2.2.2.1, nb x (a 2) z.2.2.2.2.1, gb x (A 11) (A 13) r z.2.2.2.2.2.1, rowsB x r z.2.2.2.2.2.2.1, nb x (A 13) z.2.2.2.2.2.2.2]) (uX4_empty l x (A 3) v (by omega)) kX4_empty 0 rfl rfl rfl vX5_90 dX5_house_36 (by decide) rfl rfl (Nat.le_of_ble_eq_true rfl) (qm_1 14 3 [0, 1, 2, 4, 5, 6, 7, 8, 9, 10, 11, 12, 13] (by decide +kernel) rfl rfl rfl) rfl ?_
    refine j_pop dX5_house_39 rfl ?_
    refine j_aload_n 0 dX5_house_40 rfl rfl ?_
    refine j_iconst (v := bI false) dX5_house_41 (by decide) ?_
    refine j_put (v := .int (bI false)) (ws' := fl [sb x (A 3) (v.1, v.2.1, 0), pb x (A 1) (g.1, 0), nb x (A 2) (bgn g u), ob A (false, hr, ld), nb x (A 4) uk, sb x (A 5) vk, nb x (A 6) z.1, lb x (A 7) a z.2.1, nb x (a 0) z.2.2.1, nb x (a 1) z.2.2.2.1, nb x (a 2) z.2.2.2.2.1, gb x (A 11) (A 13) r z.2.2.2.2.2.1, rowsB x r z.2.2.2.2.2.2.1, nb x (A 13) z.2.2.2.2.2.2.2]) 10 dX5_house_42 fX5_36 rfl (nar_bI false) (fit_bI false) (Nat.le_of_ble_eq_true rfl) rfl ?_
    refine j_aload_n 0 dX5_house_45 rfl rfl ?_
    refine j_dup dX5_house_46 rfl ?_
    refine j_get (v := .int (nI hr)) 10 dX5_house_47 fX5_57 rfl rfl ?_
    refine j_iconst (v := 1) dX5_house_50 (by decide) ?_
    refine j_iadd dX5_house_51 ?_
    refine j_topi (b := nI (hr + 1)) (nI_1 hr) ?_
    refine j_put (v := .int (nI (hr + 1))) (ws' := fl [sb x (A 3) (v.1, v.2.1, 0), pb x (A 1) (g.1, 0), nb x (A 2) (bgn g u), ob A (false, hr + 1, ld), nb x (A 4) uk, sb x (A 5) vk, nb x (A 6) z.1, lb x (A 7) a z.2.1, nb x (a 0) z.2.2.1, nb x (a 1) z.2.2.2.1, nb x (a 2) z.2.2.2.2.1, gb x (A 11) (A 13) r z.2.2.2.2.2.1, rowsB x r z.2.2.2.2.2.2.1, nb x (A 13) z.2.2.2.2.2.2.2]) 10 dX5_house_52 fX5_57 rfl rfl rfl (Nat.le_of_ble_eq_true rfl) rfl ?_
    refine j_aload_n 0 dX5_house_55 rfl rfl ?_
    refine j_get (v := .ref ((A 2) 0)) 10 dX5_house_56 fX5_19 rfl rfl ?_
    refine j_cVi (As := []) (rest := []) (wr := fl [sb x (A 3) (v.1, v.2.1, 0), pb x (A 1) (g.1, 0), ob A (false, hr + 1, ld), nb x (A 4) uk, sb x (A 5) vk, nb x (A 6) z.1, lb x (A 7) a z.2.1, nb x (a 0) z.2.2.1, nb x (a 1) z.2.2.2.1, nb x (a 2) z.2.2.2.2.1, gb x (A 11) (A 13) r z.2.2.2.2.2.1, rowsB x r z.2.2.2.2.2.2.1, nb x (A 13) z.2.2.2.2.2.2.2]) (ws' := fl [nb x (A 2) (bgn g u), sb x (A 3) (v.1, v.2.1, 0), pb x (A 1) (g.1, 0), ob A (false, hr + 1, ld), nb x (A 4) uk, sb x (A 5) vk, nb x (A 6) z.1, lb x (A 7) a z.2.1, nb x (a 0) z.2.2.1, nb x (a 1) z.2.2.2.1, nb x (a 2) z.2.2.2.2.1, gb x (A 11) (A 13) r z.2.2.2.2.2.1, rowsB x r z.2.2.2.2.2.2.1, nb x (A 13) z.2.2.2.2.2.2.2]) (uX2_lodgers l x (A 2) (bgn g u) ) kX2_lodgers 0 rfl rfl rfl vX5_91 dX5_house_59 (by decide) rfl rfl (Nat.le_of_ble_eq_true rfl) (qm_1 14 2 [0, 1, 3, 4, 5, 6, 7, 8, 9, 10, 11, 12, 13] (by decide +kernel) rfl rfl rfl) rfl ?_
    refine j_perm (fl [ob A (false, hr + 1, ld), pb x (A 1) (g.1, 0), nb x (A 2) (bgn g u), sb x (A 3) (v.1, v.2.1, 0), nb x (A 4) uk, sb x (A 5) vk, nb x (A 6) z.1, lb x (A 7) a z.2.1, nb x (a 0) z.2.2.1, nb x (a 1) z.2.2.2.1, nb x (a 2) z.2.2.2.2.1, gb x (A 11) (A 13) r z.2.2.2.2.2.1, rowsB x r z.2.2.2.2.2.2.1, nb x (A 13) z.2.2.2.2.2.2.2]) (qm_b 14 [3, 2, 0, 1, 4, 5, 6, 7, 8, 9, 10, 11, 12, 13] (by decide +kernel) rfl rfl) ?_
    rw [show kHouse (ik, hr, ld) g u v uk vk = (nI (nN (bgn g u)), ((false, hr + 1, ld), (g.1, 0), (bgn g u), (v.1, v.2.1, 0), uk, vk)) from by simp [kHouse, h7]]
    exact j_iret _ dX5_house_62 (List.Perm.refl _) ⟨rfl, (z.1, z.2.1, z.2.2.1, z.2.2.2.1, z.2.2.2.2.1, z.2.2.2.2.2.1, z.2.2.2.2.2.2.1, z.2.2.2.2.2.2.2), ⟨(by (try simp only [nN_ph, nN_lec, nN_cpy, nN_cof, nN_wak, nN_hrs]); omega), (by (try simp only [nN_ph, nN_lec, nN_cpy, nN_cof, nN_wak, nN_hrs]); omega), (by (try simp only [nN_ph, nN_lec, nN_cpy, nN_cof, nN_wak, nN_hrs]); omega), (by (try simp only [nN_ph, nN_lec, nN_cpy, nN_cof, nN_wak, nN_hrs]); omega), (by (try simp only [nN_ph, nN_lec, nN_cpy, nN_cof, nN_wak, nN_hrs]); omega)⟩, rfl⟩
  · skip
    refine j_bipush (v := (-103)) dX5_house_10 (by decide) ?_
    refine j_perm (fl [ob A (ik, hr, ld), pb x (A 1) g, nb x (A 2) u, sb x (A 3) v, nb x (A 4) uk, sb x (A 5) vk, nb x (A 6) z.1, lb x (A 7) a z.2.1, nb x (a 0) z.2.2.1, nb x (a 1) z.2.2.2.1, nb x (a 2) z.2.2.2.2.1, gb x (A 11) (A 13) r z.2.2.2.2.2.1, rowsB x r z.2.2.2.2.2.2.1, nb x (A 13) z.2.2.2.2.2.2.2]) (qm_b 14 [1, 0, 2, 3, 4, 5, 6, 7, 8, 9, 10, 11, 12, 13] (by decide +kernel) rfl rfl) ?_
    rw [show kHouse (ik, hr, ld) g u v uk vk = ((-103), ((ik, hr, ld), g, u, v, uk, vk)) from by simp [kHouse, h7]]
    exact j_iret _ dX5_house_12 (List.Perm.refl _) ⟨rfl, (z.1, z.2.1, z.2.2.1, z.2.2.2.1, z.2.2.2.2.1, z.2.2.2.2.2.1, z.2.2.2.2.2.2.1, z.2.2.2.2.2.2.2), ⟨(by (try simp only [nN_ph, nN_lec, nN_cpy, nN_cof, nN_wak, nN_hrs]); omega), (by (try simp only [nN_ph, nN_lec, nN_cpy, nN_cof, nN_wak, nN_hrs]); omega), (by (try simp only [nN_ph, nN_lec, nN_cpy, nN_cof, nN_wak, nN_hrs]); omega), (by (try simp only [nN_ph, nN_lec, nN_cpy, nN_cof, nN_wak, nN_hrs]); omega), (by (try simp only [nN_ph, nN_lec, nN_cpy, nN_cof, nN_wak, nN_hrs]); omega)⟩, rfl⟩
set_option maxHeartbeats 4000000 in
set_option maxRecDepth 100000 in
theorem tX5_as (l : Launch) (x : Cx) (A a : Nat → Nat → Nat) (r : Nat → Nat) (ik : Bool) (hr ld : Nat) (g : PG) (u : NS) (v : SS) (uk : NS) (vk : SS) (hld : ld ≤ 40) (hg : g.2 ≤ 18) (hu : nN u ≤ 5) (hv : v.2.2 ≤ 6) (huk : nN uk ≤ 5) (hvk : vk.2.2 ≤ 6) (l9 : Int32) (e : Int32) (z : ZS) (hz : zok z) : MC l x 10 0 0 yX5_as cX5_as 3 (some .int) [.ref ((A 0) 0), .int l9, .int e] (cw x A a r ((ik, hr, ld), g, u, v, uk, vk) z) (pS5 x A a r (kAs u l9 e) (((ik, hr, ld), g, u, v, uk, vk))) := by
  have hw : nN z.1 ≤ 5 := hz.1
  have hw0 : nN z.2.2.1 ≤ 5 := hz.2.1
  have hw1 : nN z.2.2.2.1 ≤ 5 := hz.2.2.1
  have hw2 : nN z.2.2.2.2.1 ≤ 5 := hz.2.2.2.1
  have hw3 : nN z.2.2.2.2.2.2.2 ≤ 5 := hz.2.2.2.2
  refine MC.of (by decide) (Nat.le_of_ble_eq_true rfl) eXI_fit (fun M => ?_)
  show J M l x cX5_as 3 yX5_as 10 (pS5 x A a r (kAs u l9 e) (((ik, hr, ld), g, u, v, uk, vk))) 0 0 0 [(0, .ref ((A 0) 0)), (1, .int l9), (2, .int e)] [] (fl [ob A (ik, hr, ld), pb x (A 1) g, nb x (A 2) u, sb x (A 3) v, nb x (A 4) uk, sb x (A 5) vk, nb x (A 6) z.1, lb x (A 7) a z.2.1, nb x (a 0) z.2.2.1, nb x (a 1) z.2.2.2.1, nb x (a 2) z.2.2.2.2.1, gb x (A 11) (A 13) r z.2.2.2.2.2.1, rowsB x r z.2.2.2.2.2.2.1, nb x (A 13) z.2.2.2.2.2.2.2])
  refine j_aload_n 0 dX5_as_0 rfl rfl ?_
  refine j_get (v := .ref ((A 2) 0)) 0 dX5_as_1 fX5_19 rfl rfl ?_
  refine j_iload_n 1 dX5_as_4 rfl rfl ?_
  refine j_cVi (As := [.int l9]) (rest := []) (wr := fl [ob A (ik, hr, ld), pb x (A 1) g, sb x (A 3) v, nb x (A 4) uk, sb x (A 5) vk, nb x (A 6) z.1, lb x (A 7) a z.2.1, nb x (a 0) z.2.2.1, nb x (a 1) z.2.2.2.1, nb x (a 2) z.2.2.2.2.1, gb x (A 11) (A 13) r z.2.2.2.2.2.1, rowsB x r z.2.2.2.2.2.2.1, nb x (A 13) z.2.2.2.2.2.2.2]) (ws' := fl [nb x (A 2) u, ob A (ik, hr, ld), pb x (A 1) g, sb x (A 3) v, nb x (A 4) uk, sb x (A 5) vk, nb x (A 6) z.1, lb x (A 7) a z.2.1, nb x (a 0) z.2.2.1, nb x (a 1) z.2.2.2.1, nb x (a 2) z.2.2.2.2.1, gb x (A 11) (A 13) r z.2.2.2.2.2.1, rowsB x r z.2.2.2.2.2.2.1, nb x (A 13) z.2.2.2.2.2.2.2]) (uX2_knows l x (A 2) u l9) kX2_knows 0 rfl rfl rfl vX5_94 dX5_as_5 (by decide) rfl rfl (Nat.le_of_ble_eq_true rfl) (qm_1 14 2 [0, 1, 3, 4, 5, 6, 7, 8, 9, 10, 11, 12, 13] (by decide +kernel) rfl rfl rfl) rfl ?_
  refine j_ifb_ne (b := kn (nN u) l9) (tgt := 14) dX5_as_8 (by decide) (fun h8 => ?_) (fun h8 => ?_)
  · skip
    obtain ⟨j, hj, rfl, hjc⟩ := kn_j h8 (by omega)
    refine j_iload_n 2 dX5_as_14 rfl rfl ?_
    refine j_iconst (v := 0) dX5_as_15 (by decide) ?_
    refine j_iconst (v := 4) dX5_as_16 (by decide) ?_
    refine j_cSi (As := [.int e, .int 0, .int 4]) (rest := []) (wr := fl [nb x (A 2) u, ob A (ik, hr, ld), pb x (A 1) g, sb x (A 3) v, nb x (A 4) uk, sb x (A 5) vk, nb x (A 6) z.1, lb x (A 7) a z.2.1, nb x (a 0) z.2.2.1, nb x (a 1) z.2.2.2.1, nb x (a 2) z.2.2.2.2.1, gb x (A 11) (A 13) r z.2.2.2.2.2.1, rowsB x r z.2.2.2.2.2.2.1, nb x (A 13) z.2.2.2.2.2.2.2]) (ws' := fl [nb x (A 2) u, ob A (ik, hr, ld), pb x (A 1) g, sb x (A 3) v, nb x (A 4) uk, sb x (A 5) vk, nb x (A 6) z.1, lb x (A 7) a z.2.1, nb x (a 0) z.2.2.1, nb x (a 1) z.2.2.2.1, nb x (a 2) z.2.2.2.2.1, gb x (A 11) (A 13) r z.2.2.2.2.2.1, rowsB x r z.2.2.2.2.2.2.1, nb x (A 13) z.2.2.2.2.2.2.2]) (tX5_isWithin l x e 0 4) kX5_isWithin sX5_64 dX5_as_17 (by decide) rfl rfl (Nat.le_of_ble_eq_true rfl) (List.Perm.refl _) rfl ?_
    refine j_ifb_ne (b := isW e 0 4) (tgt := 26) dX5_as_20 (by decide) (fun h20 => ?_) (fun h20 => ?_)
    · skip
      refine j_aload_n 0 dX5_as_26 rfl rfl ?_
      refine j_get (v := .ref ((A 2) 0)) 5 dX5_as_27 fX5_19 rfl rfl ?_
      refine j_iload_n 1 dX5_as_30 rfl rfl ?_
      refine j_cVi (As := [.int (nI j)]) (rest := []) (wr := fl [ob A (ik, hr, ld), pb x (A 1) g, sb x (A 3) v, nb x (A 4) uk, sb x (A 5) vk, nb x (A 6) z.1, lb x (A 7) a z.2.1, nb x (a 0) z.2.2.1, nb x (a 1) z.2.2.2.1, nb x (a 2) z.2.2.2.2.1, gb x (A 11) (A 13) r z.2.2.2.2.2.1, rowsB x r z.2.2.2.2.2.2.1, nb x (A 13) z.2.2.2.2.2.2.2]) (ws' := fl [nb x (A 2) u, ob A (ik, hr, ld), pb x (A 1) g, sb x (A 3) v, nb x (A 4) uk, sb x (A 5) vk, nb x (A 6) z.1, lb x (A 7) a z.2.1, nb x (a 0) z.2.2.1, nb x (a 1) z.2.2.2.1, nb x (a 2) z.2.2.2.2.1, gb x (A 11) (A 13) r z.2.2.2.2.2.1, rowsB x r z.2.2.2.2.2.2.1, nb x (A 13) z.2.2.2.2.2.2.2]) (uX2_kindOf l x (A 2) u (by (try simp only [nN_ph, nN_lec, nN_cpy, nN_cof, nN_wak, nN_hrs]); omega) j (by (try simp only [nN_ph, nN_lec, nN_cpy, nN_cof, nN_wak, nN_hrs]); omega)) kX2_kindOf 0 rfl rfl rfl vX5_98 dX5_as_31 (by decide) rfl rfl (Nat.le_of_ble_eq_true rfl) (qm_1 14 0 [1, 2, 3, 4, 5, 6, 7, 8, 9, 10, 11, 12, 13] (by decide +kernel) rfl rfl rfl) rfl ?_
      refine j_iload_n 2 dX5_as_34 rfl rfl ?_
      refine j_cSi (As := [.int (u.1 j), .int e]) (rest := []) (wr := fl [nb x (A 2) u, ob A (ik, hr, ld), pb x (A 1) g, sb x (A 3) v, nb x (A 4) uk, sb x (A 5) vk, nb x (A 6) z.1, lb x (A 7) a z.2.1, nb x (a 0) z.2.2.1, nb x (a 1) z.2.2.2.1, nb x (a 2) z.2.2.2.2.1, gb x (A 11) (A 13) r z.2.2.2.2.2.1, rowsB x r z.2.2.2.2.2.2.1, nb x (A 13) z.2.2.2.2.2.2.2]) (ws' := fl [nb x (A 2) u, ob A (ik, hr, ld), pb x (A 1) g, sb x (A 3) v, nb x (A 4) uk, sb x (A 5) vk, nb x (A 6) z.1, lb x (A 7) a z.2.1, nb x (a 0) z.2.2.1, nb x (a 1) z.2.2.2.1, nb x (a 2) z.2.2.2.2.1, gb x (A 11) (A 13) r z.2.2.2.2.2.1, rowsB x r z.2.2.2.2.2.2.1, nb x (A 13) z.2.2.2.2.2.2.2]) (tX5_isAlso l x (u.1 j) e) kX5_isAlso sX5_123 dX5_as_35 (by decide) rfl rfl (Nat.le_of_ble_eq_true rfl) (List.Perm.refl _) rfl ?_
      refine j_ifb_eq (b := alsoB (u.1 j) e) (tgt := 45) dX5_as_38 (by decide) (fun h38 => ?_) (fun h38 => ?_)
      · skip
        refine j_iconst (v := (-1)) dX5_as_45 (by decide) ?_
        refine j_perm (fl [ob A (ik, hr, ld), pb x (A 1) g, nb x (A 2) u, sb x (A 3) v, nb x (A 4) uk, sb x (A 5) vk, nb x (A 6) z.1, lb x (A 7) a z.2.1, nb x (a 0) z.2.2.1, nb x (a 1) z.2.2.2.1, nb x (a 2) z.2.2.2.2.1, gb x (A 11) (A 13) r z.2.2.2.2.2.1, rowsB x r z.2.2.2.2.2.2.1, nb x (A 13) z.2.2.2.2.2.2.2]) (qm_b 14 [1, 2, 0, 3, 4, 5, 6, 7, 8, 9, 10, 11, 12, 13] (by decide +kernel) rfl rfl) ?_
        rw [show kAs u (nI j) e = (-1) from by simp [kAs, hjc, h8, h20, h38]]
        exact j_iret _ dX5_as_46 (List.Perm.refl _) ⟨rfl, (z.1, z.2.1, z.2.2.1, z.2.2.2.1, z.2.2.2.2.1, z.2.2.2.2.2.1, z.2.2.2.2.2.2.1, z.2.2.2.2.2.2.2), ⟨(by (try simp only [nN_ph, nN_lec, nN_cpy, nN_cof, nN_wak, nN_hrs]); omega), (by (try simp only [nN_ph, nN_lec, nN_cpy, nN_cof, nN_wak, nN_hrs]); omega), (by (try simp only [nN_ph, nN_lec, nN_cpy, nN_cof, nN_wak, nN_hrs]); omega), (by (try simp only [nN_ph, nN_lec, nN_cpy, nN_cof, nN_wak, nN_hrs]); omega), (by (try simp only [nN_ph, nN_lec, nN_cpy, nN_cof, nN_wak, nN_hrs]); omega)⟩, rfl⟩
      · skip
        refine j_iload_n 1 dX5_as_41 rfl rfl ?_
        refine j_goto (tgt := 46) dX5_as_42 (by decide) ?_
        refine j_perm (fl [ob A (ik, hr, ld), pb x (A 1) g, nb x (A 2) u, sb x (A 3) v, nb x (A 4) uk, sb x (A 5) vk, nb x (A 6) z.1, lb x (A 7) a z.2.1, nb x (a 0) z.2.2.1, nb x (a 1) z.2.2.2.1, nb x (a 2) z.2.2.2.2.1, gb x (A 11) (A 13) r z.2.2.2.2.2.1, rowsB x r z.2.2.2.2.2.2.1, nb x (A 13) z.2.2.2.2.2.2.2]) (qm_b 14 [1, 2, 0, 3, 4, 5, 6, 7, 8, 9, 10, 11, 12, 13] (by decide +kernel) rfl rfl) ?_
        rw [show kAs u (nI j) e = nI j from by simp [kAs, hjc, h8, h20, h38]]
        exact j_iret _ dX5_as_46 (List.Perm.refl _) ⟨rfl, (z.1, z.2.1, z.2.2.1, z.2.2.2.1, z.2.2.2.2.1, z.2.2.2.2.2.1, z.2.2.2.2.2.2.1, z.2.2.2.2.2.2.2), ⟨(by (try simp only [nN_ph, nN_lec, nN_cpy, nN_cof, nN_wak, nN_hrs]); omega), (by (try simp only [nN_ph, nN_lec, nN_cpy, nN_cof, nN_wak, nN_hrs]); omega), (by (try simp only [nN_ph, nN_lec, nN_cpy, nN_cof, nN_wak, nN_hrs]); omega), (by (try simp only [nN_ph, nN_lec, nN_cpy, nN_cof, nN_wak, nN_hrs]); omega), (by (try simp only [nN_ph, nN_lec, nN_cpy, nN_cof, nN_wak, nN_hrs]); omega)⟩, rfl⟩
    · skip
      refine j_bipush (v := (-102)) dX5_as_23 (by decide) ?_
      refine j_perm (fl [ob A (ik, hr, ld), pb x (A 1) g, nb x (A 2) u, sb x (A 3) v, nb x (A 4) uk, sb x (A 5) vk, nb x (A 6) z.1, lb x (A 7) a z.2.1, nb x (a 0) z.2.2.1, nb x (a 1) z.2.2.2.1, nb x (a 2) z.2.2.2.2.1, gb x (A 11) (A 13) r z.2.2.2.2.2.1, rowsB x r z.2.2.2.2.2.2.1, nb x (A 13) z.2.2.2.2.2.2.2]) (qm_b 14 [1, 2, 0, 3, 4, 5, 6, 7, 8, 9, 10, 11, 12, 13] (by decide +kernel) rfl rfl) ?_
      rw [show kAs u (nI j) e = (-102) from by simp [kAs, hjc, h8, h20]]
      exact j_iret _ dX5_as_25 (List.Perm.refl _) ⟨rfl, (z.1, z.2.1, z.2.2.1, z.2.2.2.1, z.2.2.2.2.1, z.2.2.2.2.2.1, z.2.2.2.2.2.2.1, z.2.2.2.2.2.2.2), ⟨(by (try simp only [nN_ph, nN_lec, nN_cpy, nN_cof, nN_wak, nN_hrs]); omega), (by (try simp only [nN_ph, nN_lec, nN_cpy, nN_cof, nN_wak, nN_hrs]); omega), (by (try simp only [nN_ph, nN_lec, nN_cpy, nN_cof, nN_wak, nN_hrs]); omega), (by (try simp only [nN_ph, nN_lec, nN_cpy, nN_cof, nN_wak, nN_hrs]); omega), (by (try simp only [nN_ph, nN_lec, nN_cpy, nN_cof, nN_wak, nN_hrs]); omega)⟩, rfl⟩
  · skip
    refine j_bipush (v := (-101)) dX5_as_11 (by decide) ?_
    refine j_perm (fl [ob A (ik, hr, ld), pb x (A 1) g, nb x (A 2) u, sb x (A 3) v, nb x (A 4) uk, sb x (A 5) vk, nb x (A 6) z.1, lb x (A 7) a z.2.1, nb x (a 0) z.2.2.1, nb x (a 1) z.2.2.2.1, nb x (a 2) z.2.2.2.2.1, gb x (A 11) (A 13) r z.2.2.2.2.2.1, rowsB x r z.2.2.2.2.2.2.1, nb x (A 13) z.2.2.2.2.2.2.2]) (qm_b 14 [1, 2, 0, 3, 4, 5, 6, 7, 8, 9, 10, 11, 12, 13] (by decide +kernel) rfl rfl) ?_
    rw [show kAs u l9 e = (-101) from by simp [kAs, h8]]
    exact j_iret _ dX5_as_13 (List.Perm.refl _) ⟨rfl, (z.1, z.2.1, z.2.2.1, z.2.2.2.1, z.2.2.2.2.1, z.2.2.2.2.2.1, z.2.2.2.2.2.2.1, z.2.2.2.2.2.2.2), ⟨(by (try simp only [nN_ph, nN_lec, nN_cpy, nN_cof, nN_wak, nN_hrs]); omega), (by (try simp only [nN_ph, nN_lec, nN_cpy, nN_cof, nN_wak, nN_hrs]); omega), (by (try simp only [nN_ph, nN_lec, nN_cpy, nN_cof, nN_wak, nN_hrs]); omega), (by (try simp only [nN_ph, nN_lec, nN_cpy, nN_cof, nN_wak, nN_hrs]); omega), (by (try simp only [nN_ph, nN_lec, nN_cpy, nN_cof, nN_wak, nN_hrs]); omega)⟩, rfl⟩
set_option maxHeartbeats 4000000 in
set_option maxRecDepth 100000 in
theorem tX5_bed (l : Launch) (x : Cx) (A a : Nat → Nat → Nat) (r : Nat → Nat) (ik : Bool) (hr ld : Nat) (g : PG) (u : NS) (v : SS) (uk : NS) (vk : SS) (hld : ld ≤ 40) (hg : g.2 ≤ 18) (hu : nN u ≤ 5) (hv : v.2.2 ≤ 6) (huk : nN uk ≤ 5) (hvk : vk.2.2 ≤ 6)  (z : ZS) (hz : zok z) : MC l x 10 0 0 yX5_bed cX5_bed 1 (some .int) [.ref ((A 0) 0)] (cw x A a r ((ik, hr, ld), g, u, v, uk, vk) z) (pS5 x A a r (kBed u) (((ik, hr, ld), g, u, v, uk, vk))) := by
  have hw : nN z.1 ≤ 5 := hz.1
  have hw0 : nN z.2.2.1 ≤ 5 := hz.2.1
  have hw1 : nN z.2.2.2.1 ≤ 5 := hz.2.2.1
  have hw2 : nN z.2.2.2.2.1 ≤ 5 := hz.2.2.2.1
  have hw3 : nN z.2.2.2.2.2.2.2 ≤ 5 := hz.2.2.2.2
  refine MC.of (by decide) (Nat.le_of_ble_eq_true rfl) eXI_fit (fun M => ?_)
  show J M l x cX5_bed 1 yX5_bed 10 (pS5 x A a r (kBed u) (((ik, hr, ld), g, u, v, uk, vk))) 0 0 0 [(0, .ref ((A 0) 0))] [] (fl [ob A (ik, hr, ld), pb x (A 1) g, nb x (A 2) u, sb x (A 3) v, nb x (A 4) uk, sb x (A 5) vk, nb x (A 6) z.1, lb x (A 7) a z.2.1, nb x (a 0) z.2.2.1, nb x (a 1) z.2.2.2.1, nb x (a 2) z.2.2.2.2.1, gb x (A 11) (A 13) r z.2.2.2.2.2.1, rowsB x r z.2.2.2.2.2.2.1, nb x (A 13) z.2.2.2.2.2.2.2])
  refine j_aload_n 0 dX5_bed_0 rfl rfl ?_
  refine j_cVi (As := []) (rest := []) (wr := fl [pb x (A 1) g, sb x (A 3) v, nb x (A 4) uk, sb x (A 5) vk, nb x (A 6) z.1, lb x (A 7) a z.2.1, nb x (a 0) z.2.2.1, nb x (a 1) z.2.2.2.1, nb x (a 2) z.2.2.2.2.1, gb x (A 11) (A 13) r z.2.2.2.2.2.1, rowsB x r z.2.2.2.2.2.2.1, nb x (A 13) z.2.2.2.2.2.2.2]) (ws' := fl [ob A (ik, hr, ld), nb x (A 2) u, pb x (A 1) g, sb x (A 3) v, nb x (A 4) uk, sb x (A 5) vk, nb x (A 6) z.1, lb x (A 7) a z.2.1, nb x (a 0) z.2.2.1, nb x (a 1) z.2.2.2.1, nb x (a 2) z.2.2.2.2.1, gb x (A 11) (A 13) r z.2.2.2.2.2.1, rowsB x r z.2.2.2.2.2.2.1, nb x (A 13) z.2.2.2.2.2.2.2]) (tX5_hasHouse l x A ik hr ld u hu) kX5_hasHouse 0 rfl rfl rfl vX5_127 dX5_bed_1 (by decide) rfl rfl (Nat.le_of_ble_eq_true rfl) (qm_c 14 [0, 2] [1, 3, 4, 5, 6, 7, 8, 9, 10, 11, 12, 13] (by decide +kernel) rfl rfl rfl) (fl_app _ _) ?_
  refine j_ifb_eq (b := decide (0 < nN u)) (tgt := 17) dX5_bed_4 (by decide) (fun h4 => ?_) (fun h4 => ?_)
  · skip
    have h0 : nN u = 0 := by simpa using h4
    refine j_bipush (v := (-103)) dX5_bed_17 (by decide) ?_
    refine j_perm (fl [ob A (ik, hr, ld), pb x (A 1) g, nb x (A 2) u, sb x (A 3) v, nb x (A 4) uk, sb x (A 5) vk, nb x (A 6) z.1, lb x (A 7) a z.2.1, nb x (a 0) z.2.2.1, nb x (a 1) z.2.2.2.1, nb x (a 2) z.2.2.2.2.1, gb x (A 11) (A 13) r z.2.2.2.2.2.1, rowsB x r z.2.2.2.2.2.2.1, nb x (A 13) z.2.2.2.2.2.2.2]) (qm_b 14 [0, 2, 1, 3, 4, 5, 6, 7, 8, 9, 10, 11, 12, 13] (by decide +kernel) rfl rfl) ?_
    rw [show kBed u = (-103) from by simp [kBed, h0]]
    exact j_iret _ dX5_bed_19 (List.Perm.refl _) ⟨rfl, (z.1, z.2.1, z.2.2.1, z.2.2.2.1, z.2.2.2.2.1, z.2.2.2.2.2.1, z.2.2.2.2.2.2.1, z.2.2.2.2.2.2.2), ⟨(by (try simp only [nN_ph, nN_lec, nN_cpy, nN_cof, nN_wak, nN_hrs]); omega), (by (try simp only [nN_ph, nN_lec, nN_cpy, nN_cof, nN_wak, nN_hrs]); omega), (by (try simp only [nN_ph, nN_lec, nN_cpy, nN_cof, nN_wak, nN_hrs]); omega), (by (try simp only [nN_ph, nN_lec, nN_cpy, nN_cof, nN_wak, nN_hrs]); omega), (by (try simp only [nN_ph, nN_lec, nN_cpy, nN_cof, nN_wak, nN_hrs]); omega)⟩, rfl⟩
  · skip
    have h0 : ¬ nN u = 0 := by have := of_decide_eq_true h4; omega
    refine j_aload_n 0 dX5_bed_7 rfl rfl ?_
    refine j_get (v := .ref ((A 2) 0)) 0 dX5_bed_8 fX5_19 rfl rfl ?_
    refine j_cVi (As := []) (rest := []) (wr := fl [ob A (ik, hr, ld), pb x (A 1) g, sb x (A 3) v, nb x (A 4) uk, sb x (A 5) vk, nb x (A 6) z.1, lb x (A 7) a z.2.1, nb x (a 0) z.2.2.1, nb x (a 1) z.2.2.2.1, nb x (a 2) z.2.2.2.2.1, gb x (A 11) (A 13) r z.2.2.2.2.2.1, rowsB x r z.2.2.2.2.2.2.1, nb x (A 13) z.2.2.2.2.2.2.2]) (ws' := fl [nb x (A 2) u, ob A (ik, hr, ld), pb x (A 1) g, sb x (A 3) v, nb x (A 4) uk, sb x (A 5) vk, nb x (A 6) z.1, lb x (A 7) a z.2.1, nb x (a 0) z.2.2.1, nb x (a 1) z.2.2.2.1, nb x (a 2) z.2.2.2.2.1, gb x (A 11) (A 13) r z.2.2.2.2.2.1, rowsB x r z.2.2.2.2.2.2.1, nb x (A 13) z.2.2.2.2.2.2.2]) (uX2_whoseBed l x (A 2) u (by (try simp only [nN_ph, nN_lec, nN_cpy, nN_cof, nN_wak, nN_hrs]); omega)) kX2_whoseBed 0 rfl rfl rfl vX5_107 dX5_bed_11 (by decide) rfl rfl (Nat.le_of_ble_eq_true rfl) (qm_1 14 1 [0, 2, 3, 4, 5, 6, 7, 8, 9, 10, 11, 12, 13] (by decide +kernel) rfl rfl rfl) rfl ?_
    refine j_goto (tgt := 19) dX5_bed_14 (by decide) ?_
    refine j_perm (fl [ob A (ik, hr, ld), pb x (A 1) g, nb x (A 2) u, sb x (A 3) v, nb x (A 4) uk, sb x (A 5) vk, nb x (A 6) z.1, lb x (A 7) a z.2.1, nb x (a 0) z.2.2.1, nb x (a 1) z.2.2.2.1, nb x (a 2) z.2.2.2.2.1, gb x (A 11) (A 13) r z.2.2.2.2.2.1, rowsB x r z.2.2.2.2.2.2.1, nb x (A 13) z.2.2.2.2.2.2.2]) (qm_b 14 [1, 2, 0, 3, 4, 5, 6, 7, 8, 9, 10, 11, 12, 13] (by decide +kernel) rfl rfl) ?_
    rw [show kBed u = oI (wbU u) from by simp [kBed, h0]]
    exact j_iret _ dX5_bed_19 (List.Perm.refl _) ⟨rfl, (z.1, z.2.1, z.2.2.1, z.2.2.2.1, z.2.2.2.2.1, z.2.2.2.2.2.1, z.2.2.2.2.2.2.1, z.2.2.2.2.2.2.2), ⟨(by (try simp only [nN_ph, nN_lec, nN_cpy, nN_cof, nN_wak, nN_hrs]); omega), (by (try simp only [nN_ph, nN_lec, nN_cpy, nN_cof, nN_wak, nN_hrs]); omega), (by (try simp only [nN_ph, nN_lec, nN_cpy, nN_cof, nN_wak, nN_hrs]); omega), (by (try simp only [nN_ph, nN_lec, nN_cpy, nN_cof, nN_wak, nN_hrs]); omega), (by (try simp only [nN_ph, nN_lec, nN_cpy, nN_cof, nN_wak, nN_hrs]); omega)⟩, rfl⟩
set_option maxHeartbeats 4000000 in
set_option maxRecDepth 100000 in
theorem tX5_coffee (l : Launch) (x : Cx) (A a : Nat → Nat → Nat) (r : Nat → Nat) (ik : Bool) (hr ld : Nat) (g : PG) (u : NS) (v : SS) (uk : NS) (vk : SS) (hld : ld ≤ 40) (hg : g.2 ≤ 18) (hu : nN u ≤ 5) (hv : v.2.2 ≤ 6) (huk : nN uk ≤ 5) (hvk : vk.2.2 ≤ 6) (l9 : Int32) (z : ZS) (hz : zok z) : MC l x 10 0 0 yX5_coffee cX5_coffee 2 (some .int) [.ref ((A 0) 0), .int l9] (cw x A a r ((ik, hr, ld), g, u, v, uk, vk) z) (pS5 x A a r ((kCoffee (ik, hr, ld) g u v uk vk l9).1) ((kCoffee (ik, hr, ld) g u v uk vk l9).2)) := by
  have hw : nN z.1 ≤ 5 := hz.1
  have hw0 : nN z.2.2.1 ≤ 5 := hz.2.1
  have hw1 : nN z.2.2.2.1 ≤ 5 := hz.2.2.1
  have hw2 : nN z.2.2.2.2.1 ≤ 5 := hz.2.2.2.1
  have hw3 : nN z.2.2.2.2.2.2.2 ≤ 5 := hz.2.2.2.2
  refine MC.of (by decide) (Nat.le_of_ble_eq_true rfl) eXI_fit (fun M => ?_)
  show J M l x cX5_coffee 2 yX5_coffee 10 (pS5 x A a r ((kCoffee (ik, hr, ld) g u v uk vk l9).1) ((kCoffee (ik, hr, ld) g u v uk vk l9).2)) 0 0 0 [(0, .ref ((A 0) 0)), (1, .int l9)] [] (fl [ob A (ik, hr, ld), pb x (A 1) g, nb x (A 2) u, sb x (A 3) v, nb x (A 4) uk, sb x (A 5) vk, nb x (A 6) z.1, lb x (A 7) a z.2.1, nb x (a 0) z.2.2.1, nb x (a 1) z.2.2.2.1, nb x (a 2) z.2.2.2.2.1, gb x (A 11) (A 13) r z.2.2.2.2.2.1, rowsB x r z.2.2.2.2.2.2.1, nb x (A 13) z.2.2.2.2.2.2.2])
  refine j_aload_n 0 dX5_coffee_0 rfl rfl ?_
  refine j_get (v := .ref ((A 2) 0)) 0 dX5_coffee_1 fX5_19 rfl rfl ?_
  refine j_iload_n 1 dX5_coffee_4 rfl rfl ?_
  refine j_cVi (As := [.int l9]) (rest := []) (wr := fl [ob A (ik, hr, ld), pb x (A 1) g, sb x (A 3) v, nb x (A 4) uk, sb x (A 5) vk, nb x (A 6) z.1, lb x (A 7) a z.2.1, nb x (a 0) z.2.2.1, nb x (a 1) z.2.2.2.1, nb x (a 2) z.2.2.2.2.1, gb x (A 11) (A 13) r z.2.2.2.2.2.1, rowsB x r z.2.2.2.2.2.2.1, nb x (A 13) z.2.2.2.2.2.2.2]) (ws' := fl [nb x (A 2) u, ob A (ik, hr, ld), pb x (A 1) g, sb x (A 3) v, nb x (A 4) uk, sb x (A 5) vk, nb x (A 6) z.1, lb x (A 7) a z.2.1, nb x (a 0) z.2.2.1, nb x (a 1) z.2.2.2.1, nb x (a 2) z.2.2.2.2.1, gb x (A 11) (A 13) r z.2.2.2.2.2.1, rowsB x r z.2.2.2.2.2.2.1, nb x (A 13) z.2.2.2.2.2.2.2]) (uX2_knows l x (A 2) u l9) kX2_knows 0 rfl rfl rfl vX5_94 dX5_coffee_5 (by decide) rfl rfl (Nat.le_of_ble_eq_true rfl) (qm_1 14 2 [0, 1, 3, 4, 5, 6, 7, 8, 9, 10, 11, 12, 13] (by decide +kernel) rfl rfl rfl) rfl ?_
  refine j_ifb_ne (b := kn (nN u) l9) (tgt := 14) dX5_coffee_8 (by decide) (fun h8 => ?_) (fun h8 => ?_)
  · skip
    obtain ⟨j, hj, rfl, hjc⟩ := kn_j h8 (by omega)
    refine j_aload_n 0 dX5_coffee_14 rfl rfl ?_
    refine j_get (v := .ref ((A 2) 0)) 5 dX5_coffee_15 fX5_19 rfl rfl ?_
    refine j_iload_n 1 dX5_coffee_18 rfl rfl ?_
    refine j_cVi (As := [.int (nI j)]) (rest := []) (wr := fl [ob A (ik, hr, ld), pb x (A 1) g, sb x (A 3) v, nb x (A 4) uk, sb x (A 5) vk, nb x (A 6) z.1, lb x (A 7) a z.2.1, nb x (a 0) z.2.2.1, nb x (a 1) z.2.2.2.1, nb x (a 2) z.2.2.2.2.1, gb x (A 11) (A 13) r z.2.2.2.2.2.1, rowsB x r z.2.2.2.2.2.2.1, nb x (A 13) z.2.2.2.2.2.2.2]) (ws' := fl [nb x (A 2) u, ob A (ik, hr, ld), pb x (A 1) g, sb x (A 3) v, nb x (A 4) uk, sb x (A 5) vk, nb x (A 6) z.1, lb x (A 7) a z.2.1, nb x (a 0) z.2.2.1, nb x (a 1) z.2.2.2.1, nb x (a 2) z.2.2.2.2.1, gb x (A 11) (A 13) r z.2.2.2.2.2.1, rowsB x r z.2.2.2.2.2.2.1, nb x (A 13) z.2.2.2.2.2.2.2]) (uX2_sleeps l x (A 2) u (by (try simp only [nN_ph, nN_lec, nN_cpy, nN_cof, nN_wak, nN_hrs]); omega) j (by (try simp only [nN_ph, nN_lec, nN_cpy, nN_cof, nN_wak, nN_hrs]); omega)) kX2_sleeps 0 rfl rfl rfl vX5_104 dX5_coffee_19 (by decide) rfl rfl (Nat.le_of_ble_eq_true rfl) (qm_1 14 0 [1, 2, 3, 4, 5, 6, 7, 8, 9, 10, 11, 12, 13] (by decide +kernel) rfl rfl rfl) rfl ?_
    refine j_ifb_eq (b := u.2.2.1 j) (tgt := 28) dX5_coffee_22 (by decide) (fun h22 => ?_) (fun h22 => ?_)
    · skip
      refine j_aload_n 0 dX5_coffee_28 rfl rfl ?_
      refine j_get (v := .ref ((A 2) 0)) 5 dX5_coffee_29 fX5_19 rfl rfl ?_
      refine j_iload_n 1 dX5_coffee_32 rfl rfl ?_
      refine j_cVv (As := [.int (nI j)]) (rest := []) (wr := fl [ob A (ik, hr, ld), pb x (A 1) g, sb x (A 3) v, nb x (A 4) uk, sb x (A 5) vk, nb x (A 6) z.1, lb x (A 7) a z.2.1, nb x (a 0) z.2.2.1, nb x (a 1) z.2.2.2.1, nb x (a 2) z.2.2.2.2.1, gb x (A 11) (A 13) r z.2.2.2.2.2.1, rowsB x r z.2.2.2.2.2.2.1, nb x (A 13) z.2.2.2.2.2.2.2]) (ws' := fl [nb x (A 2) (cof u j), ob A (ik, hr, ld), pb x (A 1) g, sb x (A 3) v, nb x (A 4) uk, sb x (A 5) vk, nb x (A 6) z.1, lb x (A 7) a z.2.1, nb x (a 0) z.2.2.1, nb x (a 1) z.2.2.2.1, nb x (a 2) z.2.2.2.2.1, gb x (A 11) (A 13) r z.2.2.2.2.2.1, rowsB x r z.2.2.2.2.2.2.1, nb x (A 13) z.2.2.2.2.2.2.2]) (uX2_giveCoffee l x (A 2) u (by (try simp only [nN_ph, nN_lec, nN_cpy, nN_cof, nN_wak, nN_hrs]); omega) j (by (try simp only [nN_ph, nN_lec, nN_cpy, nN_cof, nN_wak, nN_hrs]); omega)) kX2_giveCoffee 0 rfl rfl rfl vX5_130 dX5_coffee_33 (by decide) rfl rfl (Nat.le_of_ble_eq_true rfl) (qm_1 14 0 [1, 2, 3, 4, 5, 6, 7, 8, 9, 10, 11, 12, 13] (by decide +kernel) rfl rfl rfl) rfl ?_
      refine j_aload_n 0 dX5_coffee_36 rfl rfl ?_
      refine j_get (v := .ref ((A 2) 0)) 5 dX5_coffee_37 fX5_19 rfl rfl ?_
      refine j_iload_n 1 dX5_coffee_40 rfl rfl ?_
      refine j_cVi (As := [.int (nI j)]) (rest := []) (wr := fl [ob A (ik, hr, ld), pb x (A 1) g, sb x (A 3) v, nb x (A 4) uk, sb x (A 5) vk, nb x (A 6) z.1, lb x (A 7) a z.2.1, nb x (a 0) z.2.2.1, nb x (a 1) z.2.2.2.1, nb x (a 2) z.2.2.2.2.1, gb x (A 11) (A 13) r z.2.2.2.2.2.1, rowsB x r z.2.2.2.2.2.2.1, nb x (A 13) z.2.2.2.2.2.2.2]) (ws' := fl [nb x (A 2) (cof u j), ob A (ik, hr, ld), pb x (A 1) g, sb x (A 3) v, nb x (A 4) uk, sb x (A 5) vk, nb x (A 6) z.1, lb x (A 7) a z.2.1, nb x (a 0) z.2.2.1, nb x (a 1) z.2.2.2.1, nb x (a 2) z.2.2.2.2.1, gb x (A 11) (A 13) r z.2.2.2.2.2.1, rowsB x r z.2.2.2.2.2.2.1, nb x (A 13) z.2.2.2.2.2.2.2]) (uX2_tiredOf l x (A 2) (cof u j) (by (try simp only [nN_ph, nN_lec, nN_cpy, nN_cof, nN_wak, nN_hrs]); omega) j (by (try simp only [nN_ph, nN_lec, nN_cpy, nN_cof, nN_wak, nN_hrs]); omega)) kX2_tiredOf 0 rfl rfl rfl vX5_101 dX5_coffee_41 (by decide) rfl rfl (Nat.le_of_ble_eq_true rfl) (qm_1 14 0 [1, 2, 3, 4, 5, 6, 7, 8, 9, 10, 11, 12, 13] (by decide +kernel) rfl rfl rfl) rfl ?_
      refine j_perm (fl [ob A (ik, hr, ld), pb x (A 1) g, nb x (A 2) (cof u j), sb x (A 3) v, nb x (A 4) uk, sb x (A 5) vk, nb x (A 6) z.1, lb x (A 7) a z.2.1, nb x (a 0) z.2.2.1, nb x (a 1) z.2.2.2.1, nb x (a 2) z.2.2.2.2.1, gb x (A 11) (A 13) r z.2.2.2.2.2.1, rowsB x r z.2.2.2.2.2.2.1, nb x (A 13) z.2.2.2.2.2.2.2]) (qm_b 14 [1, 2, 0, 3, 4, 5, 6, 7, 8, 9, 10, 11, 12, 13] (by decide +kernel) rfl rfl) ?_
      rw [show kCoffee (ik, hr, ld) g u v uk vk (nI j) = ((cof u j).2.1 j, ((ik, hr, ld), g, (cof u j), v, uk, vk)) from by simp [kCoffee, hjc, h8, h22]]
      exact j_iret _ dX5_coffee_44 (List.Perm.refl _) ⟨rfl, (z.1, z.2.1, z.2.2.1, z.2.2.2.1, z.2.2.2.2.1, z.2.2.2.2.2.1, z.2.2.2.2.2.2.1, z.2.2.2.2.2.2.2), ⟨(by (try simp only [nN_ph, nN_lec, nN_cpy, nN_cof, nN_wak, nN_hrs]); omega), (by (try simp only [nN_ph, nN_lec, nN_cpy, nN_cof, nN_wak, nN_hrs]); omega), (by (try simp only [nN_ph, nN_lec, nN_cpy, nN_cof, nN_wak, nN_hrs]); omega), (by (try simp only [nN_ph, nN_lec, nN_cpy, nN_cof, nN_wak, nN_hrs]); omega), (by (try simp only [nN_ph, nN_lec, nN_cpy, nN_cof, nN_wak, nN_hrs]); omega)⟩, rfl⟩
    · skip
      refine j_bipush (v := (-103)) dX5_coffee_25 (by decide) ?_
      refine j_perm (fl [ob A (ik, hr, ld), pb x (A 1) g, nb x (A 2) u, sb x (A 3) v, nb x (A 4) uk, sb x (A 5) vk, nb x (A 6) z.1, lb x (A 7) a z.2.1, nb x (a 0) z.2.2.1, nb x (a 1) z.2.2.2.1, nb x (a 2) z.2.2.2.2.1, gb x (A 11) (A 13) r z.2.2.2.2.2.1, rowsB x r z.2.2.2.2.2.2.1, nb x (A 13) z.2.2.2.2.2.2.2]) (qm_b 14 [1, 2, 0, 3, 4, 5, 6, 7, 8, 9, 10, 11, 12, 13] (by decide +kernel) rfl rfl) ?_
      rw [show kCoffee (ik, hr, ld) g u v uk vk (nI j) = ((-103), ((ik, hr, ld), g, u, v, uk, vk)) from by simp [kCoffee, hjc, h8, h22]]
      exact j_iret _ dX5_coffee_27 (List.Perm.refl _) ⟨rfl, (z.1, z.2.1, z.2.2.1, z.2.2.2.1, z.2.2.2.2.1, z.2.2.2.2.2.1, z.2.2.2.2.2.2.1, z.2.2.2.2.2.2.2), ⟨(by (try simp only [nN_ph, nN_lec, nN_cpy, nN_cof, nN_wak, nN_hrs]); omega), (by (try simp only [nN_ph, nN_lec, nN_cpy, nN_cof, nN_wak, nN_hrs]); omega), (by (try simp only [nN_ph, nN_lec, nN_cpy, nN_cof, nN_wak, nN_hrs]); omega), (by (try simp only [nN_ph, nN_lec, nN_cpy, nN_cof, nN_wak, nN_hrs]); omega), (by (try simp only [nN_ph, nN_lec, nN_cpy, nN_cof, nN_wak, nN_hrs]); omega)⟩, rfl⟩
  · skip
    refine j_bipush (v := (-101)) dX5_coffee_11 (by decide) ?_
    refine j_perm (fl [ob A (ik, hr, ld), pb x (A 1) g, nb x (A 2) u, sb x (A 3) v, nb x (A 4) uk, sb x (A 5) vk, nb x (A 6) z.1, lb x (A 7) a z.2.1, nb x (a 0) z.2.2.1, nb x (a 1) z.2.2.2.1, nb x (a 2) z.2.2.2.2.1, gb x (A 11) (A 13) r z.2.2.2.2.2.1, rowsB x r z.2.2.2.2.2.2.1, nb x (A 13) z.2.2.2.2.2.2.2]) (qm_b 14 [1, 2, 0, 3, 4, 5, 6, 7, 8, 9, 10, 11, 12, 13] (by decide +kernel) rfl rfl) ?_
    rw [show kCoffee (ik, hr, ld) g u v uk vk l9 = ((-101), ((ik, hr, ld), g, u, v, uk, vk)) from by simp [kCoffee, h8]]
    exact j_iret _ dX5_coffee_13 (List.Perm.refl _) ⟨rfl, (z.1, z.2.1, z.2.2.1, z.2.2.2.1, z.2.2.2.2.1, z.2.2.2.2.2.1, z.2.2.2.2.2.2.1, z.2.2.2.2.2.2.2), ⟨(by (try simp only [nN_ph, nN_lec, nN_cpy, nN_cof, nN_wak, nN_hrs]); omega), (by (try simp only [nN_ph, nN_lec, nN_cpy, nN_cof, nN_wak, nN_hrs]); omega), (by (try simp only [nN_ph, nN_lec, nN_cpy, nN_cof, nN_wak, nN_hrs]); omega), (by (try simp only [nN_ph, nN_lec, nN_cpy, nN_cof, nN_wak, nN_hrs]); omega), (by (try simp only [nN_ph, nN_lec, nN_cpy, nN_cof, nN_wak, nN_hrs]); omega)⟩, rfl⟩
set_option maxHeartbeats 4000000 in
set_option maxRecDepth 100000 in
theorem tX5_lecture (l : Launch) (x : Cx) (A a : Nat → Nat → Nat) (r : Nat → Nat) (ik : Bool) (hr ld : Nat) (g : PG) (u : NS) (v : SS) (uk : NS) (vk : SS) (hld : ld ≤ 40) (hg : g.2 ≤ 18) (hu : nN u ≤ 5) (hv : v.2.2 ≤ 6) (huk : nN uk ≤ 5) (hvk : vk.2.2 ≤ 6) (l9 : Int32) (z : ZS) (hz : zok z) : MC l x 10 0 0 yX5_lecture cX5_lecture 2 (some .int) [.ref ((A 0) 0), .int l9] (cw x A a r ((ik, hr, ld), g, u, v, uk, vk) z) (pS5 x A a r ((kLecture (ik, hr, ld) g u v uk vk l9).1) ((kLecture (ik, hr, ld) g u v uk vk l9).2)) := by
  have hw : nN z.1 ≤ 5 := hz.1
  have hw0 : nN z.2.2.1 ≤ 5 := hz.2.1
  have hw1 : nN z.2.2.2.1 ≤ 5 := hz.2.2.1
  have hw2 : nN z.2.2.2.2.1 ≤ 5 := hz.2.2.2.1
  have hw3 : nN z.2.2.2.2.2.2.2 ≤ 5 := hz.2.2.2.2
  refine MC.of (by decide) (Nat.le_of_ble_eq_true rfl) eXI_fit (fun M => ?_)
  show J M l x cX5_lecture 2 yX5_lecture 10 (pS5 x A a r ((kLecture (ik, hr, ld) g u v uk vk l9).1) ((kLecture (ik, hr, ld) g u v uk vk l9).2)) 0 0 0 [(0, .ref ((A 0) 0)), (1, .int l9)] [] (fl [ob A (ik, hr, ld), pb x (A 1) g, nb x (A 2) u, sb x (A 3) v, nb x (A 4) uk, sb x (A 5) vk, nb x (A 6) z.1, lb x (A 7) a z.2.1, nb x (a 0) z.2.2.1, nb x (a 1) z.2.2.2.1, nb x (a 2) z.2.2.2.2.1, gb x (A 11) (A 13) r z.2.2.2.2.2.1, rowsB x r z.2.2.2.2.2.2.1, nb x (A 13) z.2.2.2.2.2.2.2])
  refine j_aload_n 0 dX5_lecture_0 rfl rfl ?_
  refine j_get (v := .ref ((A 2) 0)) 0 dX5_lecture_1 fX5_19 rfl rfl ?_
  refine j_iload_n 1 dX5_lecture_4 rfl rfl ?_
  refine j_cVi (As := [.int l9]) (rest := []) (wr := fl [ob A (ik, hr, ld), pb x (A 1) g, sb x (A 3) v, nb x (A 4) uk, sb x (A 5) vk, nb x (A 6) z.1, lb x (A 7) a z.2.1, nb x (a 0) z.2.2.1, nb x (a 1) z.2.2.2.1, nb x (a 2) z.2.2.2.2.1, gb x (A 11) (A 13) r z.2.2.2.2.2.1, rowsB x r z.2.2.2.2.2.2.1, nb x (A 13) z.2.2.2.2.2.2.2]) (ws' := fl [nb x (A 2) u, ob A (ik, hr, ld), pb x (A 1) g, sb x (A 3) v, nb x (A 4) uk, sb x (A 5) vk, nb x (A 6) z.1, lb x (A 7) a z.2.1, nb x (a 0) z.2.2.1, nb x (a 1) z.2.2.2.1, nb x (a 2) z.2.2.2.2.1, gb x (A 11) (A 13) r z.2.2.2.2.2.1, rowsB x r z.2.2.2.2.2.2.1, nb x (A 13) z.2.2.2.2.2.2.2]) (uX2_knows l x (A 2) u l9) kX2_knows 0 rfl rfl rfl vX5_94 dX5_lecture_5 (by decide) rfl rfl (Nat.le_of_ble_eq_true rfl) (qm_1 14 2 [0, 1, 3, 4, 5, 6, 7, 8, 9, 10, 11, 12, 13] (by decide +kernel) rfl rfl rfl) rfl ?_
  refine j_ifb_ne (b := kn (nN u) l9) (tgt := 14) dX5_lecture_8 (by decide) (fun h8 => ?_) (fun h8 => ?_)
  · skip
    obtain ⟨j, hj, rfl, hjc⟩ := kn_j h8 (by omega)
    refine j_aload_n 0 dX5_lecture_14 rfl rfl ?_
    refine j_get (v := .ref ((A 2) 0)) 5 dX5_lecture_15 fX5_19 rfl rfl ?_
    refine j_iload_n 1 dX5_lecture_18 rfl rfl ?_
    refine j_cVi (As := [.int (nI j)]) (rest := []) (wr := fl [ob A (ik, hr, ld), pb x (A 1) g, sb x (A 3) v, nb x (A 4) uk, sb x (A 5) vk, nb x (A 6) z.1, lb x (A 7) a z.2.1, nb x (a 0) z.2.2.1, nb x (a 1) z.2.2.2.1, nb x (a 2) z.2.2.2.2.1, gb x (A 11) (A 13) r z.2.2.2.2.2.1, rowsB x r z.2.2.2.2.2.2.1, nb x (A 13) z.2.2.2.2.2.2.2]) (ws' := fl [nb x (A 2) u, ob A (ik, hr, ld), pb x (A 1) g, sb x (A 3) v, nb x (A 4) uk, sb x (A 5) vk, nb x (A 6) z.1, lb x (A 7) a z.2.1, nb x (a 0) z.2.2.1, nb x (a 1) z.2.2.2.1, nb x (a 2) z.2.2.2.2.1, gb x (A 11) (A 13) r z.2.2.2.2.2.1, rowsB x r z.2.2.2.2.2.2.1, nb x (A 13) z.2.2.2.2.2.2.2]) (uX2_sleeps l x (A 2) u (by (try simp only [nN_ph, nN_lec, nN_cpy, nN_cof, nN_wak, nN_hrs]); omega) j (by (try simp only [nN_ph, nN_lec, nN_cpy, nN_cof, nN_wak, nN_hrs]); omega)) kX2_sleeps 0 rfl rfl rfl vX5_104 dX5_lecture_19 (by decide) rfl rfl (Nat.le_of_ble_eq_true rfl) (qm_1 14 0 [1, 2, 3, 4, 5, 6, 7, 8, 9, 10, 11, 12, 13] (by decide +kernel) rfl rfl rfl) rfl ?_
    refine j_ifb_eq (b := u.2.2.1 j) (tgt := 28) dX5_lecture_22 (by decide) (fun h22 => ?_) (fun h22 => ?_)
    · skip
      refine j_aload_n 0 dX5_lecture_28 rfl rfl ?_
      refine j_get (v := .ref ((A 2) 0)) 5 dX5_lecture_29 fX5_19 rfl rfl ?_
      refine j_iload_n 1 dX5_lecture_32 rfl rfl ?_
      refine j_cVv (As := [.int (nI j)]) (rest := []) (wr := fl [ob A (ik, hr, ld), pb x (A 1) g, sb x (A 3) v, nb x (A 4) uk, sb x (A 5) vk, nb x (A 6) z.1, lb x (A 7) a z.2.1, nb x (a 0) z.2.2.1, nb x (a 1) z.2.2.2.1, nb x (a 2) z.2.2.2.2.1, gb x (A 11) (A 13) r z.2.2.2.2.2.1, rowsB x r z.2.2.2.2.2.2.1, nb x (A 13) z.2.2.2.2.2.2.2]) (ws' := fl [nb x (A 2) (lec u (some j)), ob A (ik, hr, ld), pb x (A 1) g, sb x (A 3) v, nb x (A 4) uk, sb x (A 5) vk, nb x (A 6) z.1, lb x (A 7) a z.2.1, nb x (a 0) z.2.2.1, nb x (a 1) z.2.2.2.1, nb x (a 2) z.2.2.2.2.1, gb x (A 11) (A 13) r z.2.2.2.2.2.1, rowsB x r z.2.2.2.2.2.2.1, nb x (A 13) z.2.2.2.2.2.2.2]) (uX2_giveLecture l x (A 2) u (by (try simp only [nN_ph, nN_lec, nN_cpy, nN_cof, nN_wak, nN_hrs]); omega) (some j) (fun j e => by cases e; omega)) kX2_giveLecture 0 rfl rfl rfl vX5_134 dX5_lecture_33 (by decide) rfl rfl (Nat.le_of_ble_eq_true rfl) (qm_1 14 0 [1, 2, 3, 4, 5, 6, 7, 8, 9, 10, 11, 12, 13] (by decide +kernel) rfl rfl rfl) rfl ?_
      refine j_aload_n 0 dX5_lecture_36 rfl rfl ?_
      refine j_get (v := .ref ((A 2) 0)) 5 dX5_lecture_37 fX5_19 rfl rfl ?_
      refine j_iload_n 1 dX5_lecture_40 rfl rfl ?_
      refine j_cVi (As := [.int (nI j)]) (rest := []) (wr := fl [ob A (ik, hr, ld), pb x (A 1) g, sb x (A 3) v, nb x (A 4) uk, sb x (A 5) vk, nb x (A 6) z.1, lb x (A 7) a z.2.1, nb x (a 0) z.2.2.1, nb x (a 1) z.2.2.2.1, nb x (a 2) z.2.2.2.2.1, gb x (A 11) (A 13) r z.2.2.2.2.2.1, rowsB x r z.2.2.2.2.2.2.1, nb x (A 13) z.2.2.2.2.2.2.2]) (ws' := fl [nb x (A 2) (lec u (some j)), ob A (ik, hr, ld), pb x (A 1) g, sb x (A 3) v, nb x (A 4) uk, sb x (A 5) vk, nb x (A 6) z.1, lb x (A 7) a z.2.1, nb x (a 0) z.2.2.1, nb x (a 1) z.2.2.2.1, nb x (a 2) z.2.2.2.2.1, gb x (A 11) (A 13) r z.2.2.2.2.2.1, rowsB x r z.2.2.2.2.2.2.1, nb x (A 13) z.2.2.2.2.2.2.2]) (uX2_tiredOf l x (A 2) (lec u (some j)) (by (try simp only [nN_ph, nN_lec, nN_cpy, nN_cof, nN_wak, nN_hrs]); omega) j (by (try simp only [nN_ph, nN_lec, nN_cpy, nN_cof, nN_wak, nN_hrs]); omega)) kX2_tiredOf 0 rfl rfl rfl vX5_101 dX5_lecture_41 (by decide) rfl rfl (Nat.le_of_ble_eq_true rfl) (qm_1 14 0 [1, 2, 3, 4, 5, 6, 7, 8, 9, 10, 11, 12, 13] (by decide +kernel) rfl rfl rfl) rfl ?_
      refine j_perm (fl [ob A (ik, hr, ld), pb x (A 1) g, nb x (A 2) (lec u (some j)), sb x (A 3) v, nb x (A 4) uk, sb x (A 5) vk, nb x (A 6) z.1, lb x (A 7) a z.2.1, nb x (a 0) z.2.2.1, nb x (a 1) z.2.2.2.1, nb x (a 2) z.2.2.2.2.1, gb x (A 11) (A 13) r z.2.2.2.2.2.1, rowsB x r z.2.2.2.2.2.2.1, nb x (A 13) z.2.2.2.2.2.2.2]) (qm_b 14 [1, 2, 0, 3, 4, 5, 6, 7, 8, 9, 10, 11, 12, 13] (by decide +kernel) rfl rfl) ?_
      rw [show kLecture (ik, hr, ld) g u v uk vk (nI j) = ((lec u (some j)).2.1 j, ((ik, hr, ld), g, (lec u (some j)), v, uk, vk)) from by simp [kLecture, hjc, h8, h22]]
      exact j_iret _ dX5_lecture_44 (List.Perm.refl _) ⟨rfl, (z.1, z.2.1, z.2.2.1, z.2.2.2.1, z.2.2.2.2.1, z.2.2.2.2.2.1, z.2.2.2.2.2.2.1, z.2.2.2.2.2.2.2), ⟨(by (try simp only [nN_ph, nN_lec, nN_cpy, nN_cof, nN_wak, nN_hrs]); omega), (by (try simp only [nN_ph, nN_lec, nN_cpy, nN_cof, nN_wak, nN_hrs]); omega), (by (try simp only [nN_ph, nN_lec, nN_cpy, nN_cof, nN_wak, nN_hrs]); omega), (by (try simp only [nN_ph, nN_lec, nN_cpy, nN_cof, nN_wak, nN_hrs]); omega), (by (try simp only [nN_ph, nN_lec, nN_cpy, nN_cof, nN_wak, nN_hrs]); omega)⟩, rfl⟩
    · skip
      refine j_bipush (v := (-103)) dX5_lecture_25 (by decide) ?_
      refine j_perm (fl [ob A (ik, hr, ld), pb x (A 1) g, nb x (A 2) u, sb x (A 3) v, nb x (A 4) uk, sb x (A 5) vk, nb x (A 6) z.1, lb x (A 7) a z.2.1, nb x (a 0) z.2.2.1, nb x (a 1) z.2.2.2.1, nb x (a 2) z.2.2.2.2.1, gb x (A 11) (A 13) r z.2.2.2.2.2.1, rowsB x r z.2.2.2.2.2.2.1, nb x (A 13) z.2.2.2.2.2.2.2]) (qm_b 14 [1, 2, 0, 3, 4, 5, 6, 7, 8, 9, 10, 11, 12, 13] (by decide +kernel) rfl rfl) ?_
      rw [show kLecture (ik, hr, ld) g u v uk vk (nI j) = ((-103), ((ik, hr, ld), g, u, v, uk, vk)) from by simp [kLecture, hjc, h8, h22]]
      exact j_iret _ dX5_lecture_27 (List.Perm.refl _) ⟨rfl, (z.1, z.2.1, z.2.2.1, z.2.2.2.1, z.2.2.2.2.1, z.2.2.2.2.2.1, z.2.2.2.2.2.2.1, z.2.2.2.2.2.2.2), ⟨(by (try simp only [nN_ph, nN_lec, nN_cpy, nN_cof, nN_wak, nN_hrs]); omega), (by (try simp only [nN_ph, nN_lec, nN_cpy, nN_cof, nN_wak, nN_hrs]); omega), (by (try simp only [nN_ph, nN_lec, nN_cpy, nN_cof, nN_wak, nN_hrs]); omega), (by (try simp only [nN_ph, nN_lec, nN_cpy, nN_cof, nN_wak, nN_hrs]); omega), (by (try simp only [nN_ph, nN_lec, nN_cpy, nN_cof, nN_wak, nN_hrs]); omega)⟩, rfl⟩
  · skip
    refine j_bipush (v := (-101)) dX5_lecture_11 (by decide) ?_
    refine j_perm (fl [ob A (ik, hr, ld), pb x (A 1) g, nb x (A 2) u, sb x (A 3) v, nb x (A 4) uk, sb x (A 5) vk, nb x (A 6) z.1, lb x (A 7) a z.2.1, nb x (a 0) z.2.2.1, nb x (a 1) z.2.2.2.1, nb x (a 2) z.2.2.2.2.1, gb x (A 11) (A 13) r z.2.2.2.2.2.1, rowsB x r z.2.2.2.2.2.2.1, nb x (A 13) z.2.2.2.2.2.2.2]) (qm_b 14 [1, 2, 0, 3, 4, 5, 6, 7, 8, 9, 10, 11, 12, 13] (by decide +kernel) rfl rfl) ?_
    rw [show kLecture (ik, hr, ld) g u v uk vk l9 = ((-101), ((ik, hr, ld), g, u, v, uk, vk)) from by simp [kLecture, h8]]
    exact j_iret _ dX5_lecture_13 (List.Perm.refl _) ⟨rfl, (z.1, z.2.1, z.2.2.1, z.2.2.2.1, z.2.2.2.2.1, z.2.2.2.2.2.1, z.2.2.2.2.2.2.1, z.2.2.2.2.2.2.2), ⟨(by (try simp only [nN_ph, nN_lec, nN_cpy, nN_cof, nN_wak, nN_hrs]); omega), (by (try simp only [nN_ph, nN_lec, nN_cpy, nN_cof, nN_wak, nN_hrs]); omega), (by (try simp only [nN_ph, nN_lec, nN_cpy, nN_cof, nN_wak, nN_hrs]); omega), (by (try simp only [nN_ph, nN_lec, nN_cpy, nN_cof, nN_wak, nN_hrs]); omega), (by (try simp only [nN_ph, nN_lec, nN_cpy, nN_cof, nN_wak, nN_hrs]); omega)⟩, rfl⟩
set_option maxHeartbeats 4000000 in
set_option maxRecDepth 100000 in
theorem tX5_hour (l : Launch) (x : Cx) (A a : Nat → Nat → Nat) (r : Nat → Nat) (ik : Bool) (hr ld : Nat) (g : PG) (u : NS) (v : SS) (uk : NS) (vk : SS) (hld : ld ≤ 40) (hg : g.2 ≤ 18) (hu : nN u ≤ 5) (hv : v.2.2 ≤ 6) (huk : nN uk ≤ 5) (hvk : vk.2.2 ≤ 6)  (z : ZS) (hz : zok z) : MC l x 10 0 0 yX5_hour cX5_hour 1 (some .int) [.ref ((A 0) 0)] (cw x A a r ((ik, hr, ld), g, u, v, uk, vk) z) (pS5 x A a r ((kHour (ik, hr, ld) g u v uk vk).1) ((kHour (ik, hr, ld) g u v uk vk).2)) := by
  have hw : nN z.1 ≤ 5 := hz.1
  have hw0 : nN z.2.2.1 ≤ 5 := hz.2.1
  have hw1 : nN z.2.2.2.1 ≤ 5 := hz.2.2.1
  have hw2 : nN z.2.2.2.2.1 ≤ 5 := hz.2.2.2.1
  have hw3 : nN z.2.2.2.2.2.2.2 ≤ 5 := hz.2.2.2.2
  refine MC.of (by decide) (Nat.le_of_ble_eq_true rfl) eXI_fit (fun M => ?_)
  show J M l x cX5_hour 1 yX5_hour 10 (pS5 x A a r ((kHour (ik, hr, ld) g u v uk vk).1) ((kHour (ik, hr, ld) g u v uk vk).2)) 0 0 0 [(0, .ref ((A 0) 0))] [] (fl [ob A (ik, hr, ld), pb x (A 1) g, nb x (A 2) u, sb x (A 3) v, nb x (A 4) uk, sb x (A 5) vk, nb x (A 6) z.1, lb x (A 7) a z.2.1, nb x (a 0) z.2.2.1, nb x (a 1) z.2.2.2.1, nb x (a 2) z.2.2.2.2.1, gb x (A 11) (A 13) r z.2.2.2.2.2.1, rowsB x r z.2.2.2.2.2.2.1, nb x (A 13) z.2.2.2.2.2.2.2])
  refine j_aload_n 0 dX5_hour_0 rfl rfl ?_
  refine j_cVi (As := []) (rest := []) (wr := fl [pb x (A 1) g, sb x (A 3) v, nb x (A 4) uk, sb x (A 5) vk, nb x (A 6) z.1, lb x (A 7) a z.2.1, nb x (a 0) z.2.2.1, nb x (a 1) z.2.2.2.1, nb x (a 2) z.2.2.2.2.1, gb x (A 11) (A 13) r z.2.2.2.2.2.1, rowsB x r z.2.2.2.2.2.2.1, nb x (A 13) z.2.2.2.2.2.2.2]) (ws' := fl [ob A (ik, hr, ld), nb x (A 2) u, pb x (A 1) g, sb x (A 3) v, nb x (A 4) uk, sb x (A 5) vk, nb x (A 6) z.1, lb x (A 7) a z.2.1, nb x (a 0) z.2.2.1, nb x (a 1) z.2.2.2.1, nb x (a 2) z.2.2.2.2.1, gb x (A 11) (A 13) r z.2.2.2.2.2.1, rowsB x r z.2.2.2.2.2.2.1, nb x (A 13) z.2.2.2.2.2.2.2]) (tX5_hasHouse l x A ik hr ld u hu) kX5_hasHouse 0 rfl rfl rfl vX5_127 dX5_hour_1 (by decide) rfl rfl (Nat.le_of_ble_eq_true rfl) (qm_c 14 [0, 2] [1, 3, 4, 5, 6, 7, 8, 9, 10, 11, 12, 13] (by decide +kernel) rfl rfl rfl) (fl_app _ _) ?_
  refine j_ifb_ne (b := decide (0 < nN u)) (tgt := 10) dX5_hour_4 (by decide) (fun h4 => ?_) (fun h4 => ?_)
  · skip
    have h0 : ¬ nN u = 0 := by have := of_decide_eq_true h4; omega
    refine j_aload_n 0 dX5_hour_10 rfl rfl ?_
    refine j_get (v := .ref ((A 2) 0)) 0 dX5_hour_11 fX5_19 rfl rfl ?_
    refine j_cVv (As := []) (rest := []) (wr := fl [ob A (ik, hr, ld), pb x (A 1) g, sb x (A 3) v, nb x (A 4) uk, sb x (A 5) vk, nb x (A 6) z.1, lb x (A 7) a z.2.1, nb x (a 0) z.2.2.1, nb x (a 1) z.2.2.2.1, nb x (a 2) z.2.2.2.2.1, gb x (A 11) (A 13) r z.2.2.2.2.2.1, rowsB x r z.2.2.2.2.2.2.1, nb x (A 13) z.2.2.2.2.2.2.2]) (ws' := fl [nb x (A 2) (ph u), ob A (ik, hr, ld), pb x (A 1) g, sb x (A 3) v, nb x (A 4) uk, sb x (A 5) vk, nb x (A 6) z.1, lb x (A 7) a z.2.1, nb x (a 0) z.2.2.1, nb x (a 1) z.2.2.2.1, nb x (a 2) z.2.2.2.2.1, gb x (A 11) (A 13) r z.2.2.2.2.2.1, rowsB x r z.2.2.2.2.2.2.1, nb x (A 13) z.2.2.2.2.2.2.2]) (uX2_passHour l x (A 2) u (by (try simp only [nN_ph, nN_lec, nN_cpy, nN_cof, nN_wak, nN_hrs]); omega)) kX2_passHour 0 rfl rfl rfl vX5_137 dX5_hour_14 (by decide) rfl rfl (Nat.le_of_ble_eq_true rfl) (qm_1 14 1 [0, 2, 3, 4, 5, 6, 7, 8, 9, 10, 11, 12, 13] (by decide +kernel) rfl rfl rfl) rfl ?_
    refine j_aload_n 0 dX5_hour_17 rfl rfl ?_
    refine j_get (v := .ref ((A 2) 0)) 5 dX5_hour_18 fX5_19 rfl rfl ?_
    refine j_cVi (As := []) (rest := []) (wr := fl [ob A (ik, hr, ld), pb x (A 1) g, sb x (A 3) v, nb x (A 4) uk, sb x (A 5) vk, nb x (A 6) z.1, lb x (A 7) a z.2.1, nb x (a 0) z.2.2.1, nb x (a 1) z.2.2.2.1, nb x (a 2) z.2.2.2.2.1, gb x (A 11) (A 13) r z.2.2.2.2.2.1, rowsB x r z.2.2.2.2.2.2.1, nb x (A 13) z.2.2.2.2.2.2.2]) (ws' := fl [nb x (A 2) (ph u), ob A (ik, hr, ld), pb x (A 1) g, sb x (A 3) v, nb x (A 4) uk, sb x (A 5) vk, nb x (A 6) z.1, lb x (A 7) a z.2.1, nb x (a 0) z.2.2.1, nb x (a 1) z.2.2.2.1, nb x (a 2) z.2.2.2.2.1, gb x (A 11) (A 13) r z.2.2.2.2.2.1, rowsB x r z.2.2.2.2.2.2.1, nb x (A 13) z.2.2.2.2.2.2.2]) (uX2_sleepers l x (A 2) (ph u) (by (try simp only [nN_ph, nN_lec, nN_cpy, nN_cof, nN_wak, nN_hrs]); omega)) kX2_sleepers 0 rfl rfl rfl vX5_140 dX5_hour_21 (by decide) rfl rfl (Nat.le_of_ble_eq_true rfl) (qm_1 14 0 [1, 2, 3, 4, 5, 6, 7, 8, 9, 10, 11, 12, 13] (by decide +kernel) rfl rfl rfl) rfl ?_
    refine j_perm (fl [ob A (ik, hr, ld), pb x (A 1) g, nb x (A 2) (ph u), sb x (A 3) v, nb x (A 4) uk, sb x (A 5) vk, nb x (A 6) z.1, lb x (A 7) a z.2.1, nb x (a 0) z.2.2.1, nb x (a 1) z.2.2.2.1, nb x (a 2) z.2.2.2.2.1, gb x (A 11) (A 13) r z.2.2.2.2.2.1, rowsB x r z.2.2.2.2.2.2.1, nb x (A 13) z.2.2.2.2.2.2.2]) (qm_b 14 [1, 2, 0, 3, 4, 5, 6, 7, 8, 9, 10, 11, 12, 13] (by decide +kernel) rfl rfl) ?_
    rw [show kHour (ik, hr, ld) g u v uk vk = (nI (cntS (ph u).2.2.1 (nN (ph u))), ((ik, hr, ld), g, (ph u), v, uk, vk)) from by simp [kHour, h0]]
    exact j_iret _ dX5_hour_24 (List.Perm.refl _) ⟨rfl, (z.1, z.2.1, z.2.2.1, z.2.2.2.1, z.2.2.2.2.1, z.2.2.2.2.2.1, z.2.2.2.2.2.2.1, z.2.2.2.2.2.2.2), ⟨(by (try simp only [nN_ph, nN_lec, nN_cpy, nN_cof, nN_wak, nN_hrs]); omega), (by (try simp only [nN_ph, nN_lec, nN_cpy, nN_cof, nN_wak, nN_hrs]); omega), (by (try simp only [nN_ph, nN_lec, nN_cpy, nN_cof, nN_wak, nN_hrs]); omega), (by (try simp only [nN_ph, nN_lec, nN_cpy, nN_cof, nN_wak, nN_hrs]); omega), (by (try simp only [nN_ph, nN_lec, nN_cpy, nN_cof, nN_wak, nN_hrs]); omega)⟩, rfl⟩
  · skip
    have h0 : nN u = 0 := by simpa using h4
    refine j_bipush (v := (-103)) dX5_hour_7 (by decide) ?_
    refine j_perm (fl [ob A (ik, hr, ld), pb x (A 1) g, nb x (A 2) u, sb x (A 3) v, nb x (A 4) uk, sb x (A 5) vk, nb x (A 6) z.1, lb x (A 7) a z.2.1, nb x (a 0) z.2.2.1, nb x (a 1) z.2.2.2.1, nb x (a 2) z.2.2.2.2.1, gb x (A 11) (A 13) r z.2.2.2.2.2.1, rowsB x r z.2.2.2.2.2.2.1, nb x (A 13) z.2.2.2.2.2.2.2]) (qm_b 14 [0, 2, 1, 3, 4, 5, 6, 7, 8, 9, 10, 11, 12, 13] (by decide +kernel) rfl rfl) ?_
    rw [show kHour (ik, hr, ld) g u v uk vk = ((-103), ((ik, hr, ld), g, u, v, uk, vk)) from by simp [kHour, h0]]
    exact j_iret _ dX5_hour_9 (List.Perm.refl _) ⟨rfl, (z.1, z.2.1, z.2.2.1, z.2.2.2.1, z.2.2.2.2.1, z.2.2.2.2.2.1, z.2.2.2.2.2.2.1, z.2.2.2.2.2.2.2), ⟨(by (try simp only [nN_ph, nN_lec, nN_cpy, nN_cof, nN_wak, nN_hrs]); omega), (by (try simp only [nN_ph, nN_lec, nN_cpy, nN_cof, nN_wak, nN_hrs]); omega), (by (try simp only [nN_ph, nN_lec, nN_cpy, nN_cof, nN_wak, nN_hrs]); omega), (by (try simp only [nN_ph, nN_lec, nN_cpy, nN_cof, nN_wak, nN_hrs]); omega), (by (try simp only [nN_ph, nN_lec, nN_cpy, nN_cof, nN_wak, nN_hrs]); omega)⟩, rfl⟩
end
