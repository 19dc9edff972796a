/-! the code words of methods, by their places -/
set_option maxRecDepth 100000 in
theorem xmc_0 : lw_tbl[(xMt 0).2.2.2.2.2.1]? = some (Jvm.Cond.code (xMt 0).1 (xMt 0).2.1 (xMt 0).2.2.1 (xMt 0).2.2.2.1) := rfl
set_option maxRecDepth 100000 in
theorem xmc_1 : lw_tbl[(xMt 1).2.2.2.2.2.1]? = some (Jvm.Cond.code (xMt 1).1 (xMt 1).2.1 (xMt 1).2.2.1 (xMt 1).2.2.2.1) := rfl
set_option maxRecDepth 100000 in
theorem xmc_2 : lw_tbl[(xMt 2).2.2.2.2.2.1]? = some (Jvm.Cond.code (xMt 2).1 (xMt 2).2.1 (xMt 2).2.2.1 (xMt 2).2.2.2.1) := rfl
set_option maxRecDepth 100000 in
theorem xmc_3 : lw_tbl[(xMt 3).2.2.2.2.2.1]? = some (Jvm.Cond.code (xMt 3).1 (xMt 3).2.1 (xMt 3).2.2.1 (xMt 3).2.2.2.1) := rfl
set_option maxRecDepth 100000 in
theorem xmc_4 : lw_tbl[(xMt 4).2.2.2.2.2.1]? = some (Jvm.Cond.code (xMt 4).1 (xMt 4).2.1 (xMt 4).2.2.1 (xMt 4).2.2.2.1) := rfl
set_option maxRecDepth 100000 in
theorem xmc_5 : lw_tbl[(xMt 5).2.2.2.2.2.1]? = some (Jvm.Cond.code (xMt 5).1 (xMt 5).2.1 (xMt 5).2.2.1 (xMt 5).2.2.2.1) := rfl
set_option maxRecDepth 100000 in
theorem xmc_6 : lw_tbl[(xMt 6).2.2.2.2.2.1]? = some (Jvm.Cond.code (xMt 6).1 (xMt 6).2.1 (xMt 6).2.2.1 (xMt 6).2.2.2.1) := rfl
set_option maxRecDepth 100000 in
theorem xmc_7 : lw_tbl[(xMt 7).2.2.2.2.2.1]? = some (Jvm.Cond.code (xMt 7).1 (xMt 7).2.1 (xMt 7).2.2.1 (xMt 7).2.2.2.1) := rfl
set_option maxRecDepth 100000 in
theorem xmc_8 : lw_tbl[(xMt 8).2.2.2.2.2.1]? = some (Jvm.Cond.code (xMt 8).1 (xMt 8).2.1 (xMt 8).2.2.1 (xMt 8).2.2.2.1) := rfl
set_option maxRecDepth 100000 in
theorem xmc_9 : lw_tbl[(xMt 9).2.2.2.2.2.1]? = some (Jvm.Cond.code (xMt 9).1 (xMt 9).2.1 (xMt 9).2.2.1 (xMt 9).2.2.2.1) := rfl
set_option maxRecDepth 100000 in
theorem xmc_10 : lw_tbl[(xMt 10).2.2.2.2.2.1]? = some (Jvm.Cond.code (xMt 10).1 (xMt 10).2.1 (xMt 10).2.2.1 (xMt 10).2.2.2.1) := rfl
set_option maxRecDepth 100000 in
theorem xmc_11 : lw_tbl[(xMt 11).2.2.2.2.2.1]? = some (Jvm.Cond.code (xMt 11).1 (xMt 11).2.1 (xMt 11).2.2.1 (xMt 11).2.2.2.1) := rfl
set_option maxRecDepth 100000 in
theorem xmc_12 : lw_tbl[(xMt 12).2.2.2.2.2.1]? = some (Jvm.Cond.code (xMt 12).1 (xMt 12).2.1 (xMt 12).2.2.1 (xMt 12).2.2.2.1) := rfl
set_option maxRecDepth 100000 in
theorem xmc_13 : lw_tbl[(xMt 13).2.2.2.2.2.1]? = some (Jvm.Cond.code (xMt 13).1 (xMt 13).2.1 (xMt 13).2.2.1 (xMt 13).2.2.2.1) := rfl
set_option maxRecDepth 100000 in
theorem xmc_14 : lw_tbl[(xMt 14).2.2.2.2.2.1]? = some (Jvm.Cond.code (xMt 14).1 (xMt 14).2.1 (xMt 14).2.2.1 (xMt 14).2.2.2.1) := rfl
set_option maxRecDepth 100000 in
theorem xmc_15 : lw_tbl[(xMt 15).2.2.2.2.2.1]? = some (Jvm.Cond.code (xMt 15).1 (xMt 15).2.1 (xMt 15).2.2.1 (xMt 15).2.2.2.1) := rfl
set_option maxRecDepth 100000 in
theorem xmc_16 : lw_tbl[(xMt 16).2.2.2.2.2.1]? = some (Jvm.Cond.code (xMt 16).1 (xMt 16).2.1 (xMt 16).2.2.1 (xMt 16).2.2.2.1) := rfl
set_option maxRecDepth 100000 in
theorem xmc_17 : lw_tbl[(xMt 17).2.2.2.2.2.1]? = some (Jvm.Cond.code (xMt 17).1 (xMt 17).2.1 (xMt 17).2.2.1 (xMt 17).2.2.2.1) := rfl
set_option maxRecDepth 100000 in
theorem xmc_18 : lw_tbl[(xMt 18).2.2.2.2.2.1]? = some (Jvm.Cond.code (xMt 18).1 (xMt 18).2.1 (xMt 18).2.2.1 (xMt 18).2.2.2.1) := rfl
set_option maxRecDepth 100000 in
theorem xmc_19 : lw_tbl[(xMt 19).2.2.2.2.2.1]? = some (Jvm.Cond.code (xMt 19).1 (xMt 19).2.1 (xMt 19).2.2.1 (xMt 19).2.2.2.1) := rfl
set_option maxRecDepth 100000 in
theorem xmc_20 : lw_tbl[(xMt 20).2.2.2.2.2.1]? = some (Jvm.Cond.code (xMt 20).1 (xMt 20).2.1 (xMt 20).2.2.1 (xMt 20).2.2.2.1) := rfl
set_option maxRecDepth 100000 in
theorem xmc_21 : lw_tbl[(xMt 21).2.2.2.2.2.1]? = some (Jvm.Cond.code (xMt 21).1 (xMt 21).2.1 (xMt 21).2.2.1 (xMt 21).2.2.2.1) := rfl
set_option maxRecDepth 100000 in
theorem xmc_22 : lw_tbl[(xMt 22).2.2.2.2.2.1]? = some (Jvm.Cond.code (xMt 22).1 (xMt 22).2.1 (xMt 22).2.2.1 (xMt 22).2.2.2.1) := rfl
set_option maxRecDepth 100000 in
theorem xmc_23 : lw_tbl[(xMt 23).2.2.2.2.2.1]? = some (Jvm.Cond.code (xMt 23).1 (xMt 23).2.1 (xMt 23).2.2.1 (xMt 23).2.2.2.1) := rfl
set_option maxRecDepth 100000 in
theorem xmc_24 : lw_tbl[(xMt 24).2.2.2.2.2.1]? = some (Jvm.Cond.code (xMt 24).1 (xMt 24).2.1 (xMt 24).2.2.1 (xMt 24).2.2.2.1) := rfl
set_option maxRecDepth 100000 in
theorem xmc_25 : lw_tbl[(xMt 25).2.2.2.2.2.1]? = some (Jvm.Cond.code (xMt 25).1 (xMt 25).2.1 (xMt 25).2.2.1 (xMt 25).2.2.2.1) := rfl
set_option maxRecDepth 100000 in
theorem xmc_26 : lw_tbl[(xMt 26).2.2.2.2.2.1]? = some (Jvm.Cond.code (xMt 26).1 (xMt 26).2.1 (xMt 26).2.2.1 (xMt 26).2.2.2.1) := rfl
set_option maxRecDepth 100000 in
theorem xmc_27 : lw_tbl[(xMt 27).2.2.2.2.2.1]? = some (Jvm.Cond.code (xMt 27).1 (xMt 27).2.1 (xMt 27).2.2.1 (xMt 27).2.2.2.1) := rfl
set_option maxRecDepth 100000 in
theorem xmc_28 : lw_tbl[(xMt 28).2.2.2.2.2.1]? = some (Jvm.Cond.code (xMt 28).1 (xMt 28).2.1 (xMt 28).2.2.1 (xMt 28).2.2.2.1) := rfl
set_option maxRecDepth 100000 in
theorem xmc_29 : lw_tbl[(xMt 29).2.2.2.2.2.1]? = some (Jvm.Cond.code (xMt 29).1 (xMt 29).2.1 (xMt 29).2.2.1 (xMt 29).2.2.2.1) := rfl
set_option maxRecDepth 100000 in
theorem xmc_30 : lw_tbl[(xMt 30).2.2.2.2.2.1]? = some (Jvm.Cond.code (xMt 30).1 (xMt 30).2.1 (xMt 30).2.2.1 (xMt 30).2.2.2.1) := rfl
set_option maxRecDepth 100000 in
theorem xmc_31 : lw_tbl[(xMt 31).2.2.2.2.2.1]? = some (Jvm.Cond.code (xMt 31).1 (xMt 31).2.1 (xMt 31).2.2.1 (xMt 31).2.2.2.1) := rfl
set_option maxRecDepth 100000 in
theorem xmc_32 : lw_tbl[(xMt 32).2.2.2.2.2.1]? = some (Jvm.Cond.code (xMt 32).1 (xMt 32).2.1 (xMt 32).2.2.1 (xMt 32).2.2.2.1) := rfl
set_option maxRecDepth 100000 in
theorem xmc_33 : lw_tbl[(xMt 33).2.2.2.2.2.1]? = some (Jvm.Cond.code (xMt 33).1 (xMt 33).2.1 (xMt 33).2.2.1 (xMt 33).2.2.2.1) := rfl
set_option maxRecDepth 100000 in
theorem xmc_34 : lw_tbl[(xMt 34).2.2.2.2.2.1]? = some (Jvm.Cond.code (xMt 34).1 (xMt 34).2.1 (xMt 34).2.2.1 (xMt 34).2.2.2.1) := rfl
set_option maxRecDepth 100000 in
theorem xmc_35 : lw_tbl[(xMt 35).2.2.2.2.2.1]? = some (Jvm.Cond.code (xMt 35).1 (xMt 35).2.1 (xMt 35).2.2.1 (xMt 35).2.2.2.1) := rfl
set_option maxRecDepth 100000 in
theorem xmc_36 : lw_tbl[(xMt 36).2.2.2.2.2.1]? = some (Jvm.Cond.code (xMt 36).1 (xMt 36).2.1 (xMt 36).2.2.1 (xMt 36).2.2.2.1) := rfl
set_option maxRecDepth 100000 in
theorem xmc_37 : lw_tbl[(xMt 37).2.2.2.2.2.1]? = some (Jvm.Cond.code (xMt 37).1 (xMt 37).2.1 (xMt 37).2.2.1 (xMt 37).2.2.2.1) := rfl
set_option maxRecDepth 100000 in
theorem xmc_38 : lw_tbl[(xMt 38).2.2.2.2.2.1]? = some (Jvm.Cond.code (xMt 38).1 (xMt 38).2.1 (xMt 38).2.2.1 (xMt 38).2.2.2.1) := rfl
set_option maxRecDepth 100000 in
theorem xmc_39 : lw_tbl[(xMt 39).2.2.2.2.2.1]? = some (Jvm.Cond.code (xMt 39).1 (xMt 39).2.1 (xMt 39).2.2.1 (xMt 39).2.2.2.1) := rfl
set_option maxRecDepth 100000 in
theorem xmc_40 : lw_tbl[(xMt 40).2.2.2.2.2.1]? = some (Jvm.Cond.code (xMt 40).1 (xMt 40).2.1 (xMt 40).2.2.1 (xMt 40).2.2.2.1) := rfl
set_option maxRecDepth 100000 in
theorem xmc_41 : lw_tbl[(xMt 41).2.2.2.2.2.1]? = some (Jvm.Cond.code (xMt 41).1 (xMt 41).2.1 (xMt 41).2.2.1 (xMt 41).2.2.2.1) := rfl
set_option maxRecDepth 100000 in
theorem xmc_42 : lw_tbl[(xMt 42).2.2.2.2.2.1]? = some (Jvm.Cond.code (xMt 42).1 (xMt 42).2.1 (xMt 42).2.2.1 (xMt 42).2.2.2.1) := rfl
set_option maxRecDepth 100000 in
theorem xmc_43 : lw_tbl[(xMt 43).2.2.2.2.2.1]? = some (Jvm.Cond.code (xMt 43).1 (xMt 43).2.1 (xMt 43).2.2.1 (xMt 43).2.2.2.1) := rfl
set_option maxRecDepth 100000 in
theorem xmc_44 : lw_tbl[(xMt 44).2.2.2.2.2.1]? = some (Jvm.Cond.code (xMt 44).1 (xMt 44).2.1 (xMt 44).2.2.1 (xMt 44).2.2.2.1) := rfl
set_option maxRecDepth 100000 in
theorem xmc_45 : lw_tbl[(xMt 45).2.2.2.2.2.1]? = some (Jvm.Cond.code (xMt 45).1 (xMt 45).2.1 (xMt 45).2.2.1 (xMt 45).2.2.2.1) := rfl
set_option maxRecDepth 100000 in
theorem xmc_46 : lw_tbl[(xMt 46).2.2.2.2.2.1]? = some (Jvm.Cond.code (xMt 46).1 (xMt 46).2.1 (xMt 46).2.2.1 (xMt 46).2.2.2.1) := rfl
set_option maxRecDepth 100000 in
theorem xmc_47 : lw_tbl[(xMt 47).2.2.2.2.2.1]? = some (Jvm.Cond.code (xMt 47).1 (xMt 47).2.1 (xMt 47).2.2.1 (xMt 47).2.2.2.1) := rfl
set_option maxRecDepth 100000 in
theorem xmc_48 : lw_tbl[(xMt 48).2.2.2.2.2.1]? = some (Jvm.Cond.code (xMt 48).1 (xMt 48).2.1 (xMt 48).2.2.1 (xMt 48).2.2.2.1) := rfl
set_option maxRecDepth 100000 in
theorem xmc_49 : lw_tbl[(xMt 49).2.2.2.2.2.1]? = some (Jvm.Cond.code (xMt 49).1 (xMt 49).2.1 (xMt 49).2.2.1 (xMt 49).2.2.2.1) := rfl
set_option maxRecDepth 100000 in
theorem xmc_50 : lw_tbl[(xMt 50).2.2.2.2.2.1]? = some (Jvm.Cond.code (xMt 50).1 (xMt 50).2.1 (xMt 50).2.2.1 (xMt 50).2.2.2.1) := rfl
set_option maxRecDepth 100000 in
theorem xmc_51 : lw_tbl[(xMt 51).2.2.2.2.2.1]? = some (Jvm.Cond.code (xMt 51).1 (xMt 51).2.1 (xMt 51).2.2.1 (xMt 51).2.2.2.1) := rfl
set_option maxRecDepth 100000 in
theorem xmc_52 : lw_tbl[(xMt 52).2.2.2.2.2.1]? = some (Jvm.Cond.code (xMt 52).1 (xMt 52).2.1 (xMt 52).2.2.1 (xMt 52).2.2.2.1) := rfl
set_option maxRecDepth 100000 in
theorem xmc_53 : lw_tbl[(xMt 53).2.2.2.2.2.1]? = some (Jvm.Cond.code (xMt 53).1 (xMt 53).2.1 (xMt 53).2.2.1 (xMt 53).2.2.2.1) := rfl
set_option maxRecDepth 100000 in
theorem xmc_54 : lw_tbl[(xMt 54).2.2.2.2.2.1]? = some (Jvm.Cond.code (xMt 54).1 (xMt 54).2.1 (xMt 54).2.2.1 (xMt 54).2.2.2.1) := rfl
set_option maxRecDepth 100000 in
theorem xmc_55 : lw_tbl[(xMt 55).2.2.2.2.2.1]? = some (Jvm.Cond.code (xMt 55).1 (xMt 55).2.1 (xMt 55).2.2.1 (xMt 55).2.2.2.1) := rfl
set_option maxRecDepth 100000 in
theorem xmc_56 : lw_tbl[(xMt 56).2.2.2.2.2.1]? = some (Jvm.Cond.code (xMt 56).1 (xMt 56).2.1 (xMt 56).2.2.1 (xMt 56).2.2.2.1) := rfl
set_option maxRecDepth 100000 in
theorem xmc_57 : lw_tbl[(xMt 57).2.2.2.2.2.1]? = some (Jvm.Cond.code (xMt 57).1 (xMt 57).2.1 (xMt 57).2.2.1 (xMt 57).2.2.2.1) := rfl
set_option maxRecDepth 100000 in
theorem xmc_58 : lw_tbl[(xMt 58).2.2.2.2.2.1]? = some (Jvm.Cond.code (xMt 58).1 (xMt 58).2.1 (xMt 58).2.2.1 (xMt 58).2.2.2.1) := rfl
set_option maxRecDepth 100000 in
theorem xmc_59 : lw_tbl[(xMt 59).2.2.2.2.2.1]? = some (Jvm.Cond.code (xMt 59).1 (xMt 59).2.1 (xMt 59).2.2.1 (xMt 59).2.2.2.1) := rfl
set_option maxRecDepth 100000 in
theorem xmc_60 : lw_tbl[(xMt 60).2.2.2.2.2.1]? = some (Jvm.Cond.code (xMt 60).1 (xMt 60).2.1 (xMt 60).2.2.1 (xMt 60).2.2.2.1) := rfl
set_option maxRecDepth 100000 in
theorem xmc_61 : lw_tbl[(xMt 61).2.2.2.2.2.1]? = some (Jvm.Cond.code (xMt 61).1 (xMt 61).2.1 (xMt 61).2.2.1 (xMt 61).2.2.2.1) := rfl
set_option maxRecDepth 100000 in
theorem xmc_62 : lw_tbl[(xMt 62).2.2.2.2.2.1]? = some (Jvm.Cond.code (xMt 62).1 (xMt 62).2.1 (xMt 62).2.2.1 (xMt 62).2.2.2.1) := rfl
set_option maxRecDepth 100000 in
theorem xmc_63 : lw_tbl[(xMt 63).2.2.2.2.2.1]? = some (Jvm.Cond.code (xMt 63).1 (xMt 63).2.1 (xMt 63).2.2.1 (xMt 63).2.2.2.1) := rfl
set_option maxRecDepth 100000 in
theorem xmc_64 : lw_tbl[(xMt 64).2.2.2.2.2.1]? = some (Jvm.Cond.code (xMt 64).1 (xMt 64).2.1 (xMt 64).2.2.1 (xMt 64).2.2.2.1) := rfl
set_option maxRecDepth 100000 in
theorem xmc_65 : lw_tbl[(xMt 65).2.2.2.2.2.1]? = some (Jvm.Cond.code (xMt 65).1 (xMt 65).2.1 (xMt 65).2.2.1 (xMt 65).2.2.2.1) := rfl
set_option maxRecDepth 100000 in
theorem xmc_66 : lw_tbl[(xMt 66).2.2.2.2.2.1]? = some (Jvm.Cond.code (xMt 66).1 (xMt 66).2.1 (xMt 66).2.2.1 (xMt 66).2.2.2.1) := rfl
set_option maxRecDepth 100000 in
theorem xmc_67 : lw_tbl[(xMt 67).2.2.2.2.2.1]? = some (Jvm.Cond.code (xMt 67).1 (xMt 67).2.1 (xMt 67).2.2.1 (xMt 67).2.2.2.1) := rfl
set_option maxRecDepth 100000 in
theorem xmc_68 : lw_tbl[(xMt 68).2.2.2.2.2.1]? = some (Jvm.Cond.code (xMt 68).1 (xMt 68).2.1 (xMt 68).2.2.1 (xMt 68).2.2.2.1) := rfl
set_option maxRecDepth 100000 in
theorem xmc_69 : lw_tbl[(xMt 69).2.2.2.2.2.1]? = some (Jvm.Cond.code (xMt 69).1 (xMt 69).2.1 (xMt 69).2.2.1 (xMt 69).2.2.2.1) := rfl
set_option maxRecDepth 100000 in
theorem xmc_70 : lw_tbl[(xMt 70).2.2.2.2.2.1]? = some (Jvm.Cond.code (xMt 70).1 (xMt 70).2.1 (xMt 70).2.2.1 (xMt 70).2.2.2.1) := rfl
set_option maxRecDepth 100000 in
theorem xmc_71 : lw_tbl[(xMt 71).2.2.2.2.2.1]? = some (Jvm.Cond.code (xMt 71).1 (xMt 71).2.1 (xMt 71).2.2.1 (xMt 71).2.2.2.1) := rfl
set_option maxRecDepth 100000 in
theorem xmc_72 : lw_tbl[(xMt 72).2.2.2.2.2.1]? = some (Jvm.Cond.code (xMt 72).1 (xMt 72).2.1 (xMt 72).2.2.1 (xMt 72).2.2.2.1) := rfl
set_option maxRecDepth 100000 in
theorem xmc_73 : lw_tbl[(xMt 73).2.2.2.2.2.1]? = some (Jvm.Cond.code (xMt 73).1 (xMt 73).2.1 (xMt 73).2.2.1 (xMt 73).2.2.2.1) := rfl
set_option maxRecDepth 100000 in
theorem xmc_74 : lw_tbl[(xMt 74).2.2.2.2.2.1]? = some (Jvm.Cond.code (xMt 74).1 (xMt 74).2.1 (xMt 74).2.2.1 (xMt 74).2.2.2.1) := rfl
set_option maxRecDepth 100000 in
theorem xmc_75 : lw_tbl[(xMt 75).2.2.2.2.2.1]? = some (Jvm.Cond.code (xMt 75).1 (xMt 75).2.1 (xMt 75).2.2.1 (xMt 75).2.2.2.1) := rfl
set_option maxRecDepth 100000 in
theorem xmc_76 : lw_tbl[(xMt 76).2.2.2.2.2.1]? = some (Jvm.Cond.code (xMt 76).1 (xMt 76).2.1 (xMt 76).2.2.1 (xMt 76).2.2.2.1) := rfl
set_option maxRecDepth 100000 in
theorem xmc_77 : lw_tbl[(xMt 77).2.2.2.2.2.1]? = some (Jvm.Cond.code (xMt 77).1 (xMt 77).2.1 (xMt 77).2.2.1 (xMt 77).2.2.2.1) := rfl
set_option maxRecDepth 100000 in
theorem xmc_78 : lw_tbl[(xMt 78).2.2.2.2.2.1]? = some (Jvm.Cond.code (xMt 78).1 (xMt 78).2.1 (xMt 78).2.2.1 (xMt 78).2.2.2.1) := rfl
set_option maxRecDepth 100000 in
theorem xmc_79 : lw_tbl[(xMt 79).2.2.2.2.2.1]? = some (Jvm.Cond.code (xMt 79).1 (xMt 79).2.1 (xMt 79).2.2.1 (xMt 79).2.2.2.1) := rfl
set_option maxRecDepth 100000 in
theorem xmc_80 : lw_tbl[(xMt 80).2.2.2.2.2.1]? = some (Jvm.Cond.code (xMt 80).1 (xMt 80).2.1 (xMt 80).2.2.1 (xMt 80).2.2.2.1) := rfl
set_option maxRecDepth 100000 in
theorem xmc_81 : lw_tbl[(xMt 81).2.2.2.2.2.1]? = some (Jvm.Cond.code (xMt 81).1 (xMt 81).2.1 (xMt 81).2.2.1 (xMt 81).2.2.2.1) := rfl
set_option maxRecDepth 100000 in
theorem xmc_82 : lw_tbl[(xMt 82).2.2.2.2.2.1]? = some (Jvm.Cond.code (xMt 82).1 (xMt 82).2.1 (xMt 82).2.2.1 (xMt 82).2.2.2.1) := rfl
set_option maxRecDepth 100000 in
theorem xmc_83 : lw_tbl[(xMt 83).2.2.2.2.2.1]? = some (Jvm.Cond.code (xMt 83).1 (xMt 83).2.1 (xMt 83).2.2.1 (xMt 83).2.2.2.1) := rfl
set_option maxRecDepth 100000 in
theorem xmc_84 : lw_tbl[(xMt 84).2.2.2.2.2.1]? = some (Jvm.Cond.code (xMt 84).1 (xMt 84).2.1 (xMt 84).2.2.1 (xMt 84).2.2.2.1) := rfl
set_option maxRecDepth 100000 in
theorem xmc_85 : lw_tbl[(xMt 85).2.2.2.2.2.1]? = some (Jvm.Cond.code (xMt 85).1 (xMt 85).2.1 (xMt 85).2.2.1 (xMt 85).2.2.2.1) := rfl
set_option maxRecDepth 100000 in
theorem xmc_86 : lw_tbl[(xMt 86).2.2.2.2.2.1]? = some (Jvm.Cond.code (xMt 86).1 (xMt 86).2.1 (xMt 86).2.2.1 (xMt 86).2.2.2.1) := rfl
set_option maxRecDepth 100000 in
theorem xmc_87 : lw_tbl[(xMt 87).2.2.2.2.2.1]? = some (Jvm.Cond.code (xMt 87).1 (xMt 87).2.1 (xMt 87).2.2.1 (xMt 87).2.2.2.1) := rfl
set_option maxRecDepth 100000 in
theorem xmc_88 : lw_tbl[(xMt 88).2.2.2.2.2.1]? = some (Jvm.Cond.code (xMt 88).1 (xMt 88).2.1 (xMt 88).2.2.1 (xMt 88).2.2.2.1) := rfl
set_option maxRecDepth 100000 in
theorem xmc_89 : lw_tbl[(xMt 89).2.2.2.2.2.1]? = some (Jvm.Cond.code (xMt 89).1 (xMt 89).2.1 (xMt 89).2.2.1 (xMt 89).2.2.2.1) := rfl
set_option maxRecDepth 100000 in
theorem xmc_90 : lw_tbl[(xMt 90).2.2.2.2.2.1]? = some (Jvm.Cond.code (xMt 90).1 (xMt 90).2.1 (xMt 90).2.2.1 (xMt 90).2.2.2.1) := rfl
set_option maxRecDepth 100000 in
theorem xmc_91 : lw_tbl[(xMt 91).2.2.2.2.2.1]? = some (Jvm.Cond.code (xMt 91).1 (xMt 91).2.1 (xMt 91).2.2.1 (xMt 91).2.2.2.1) := rfl
set_option maxRecDepth 100000 in
theorem xmc_92 : lw_tbl[(xMt 92).2.2.2.2.2.1]? = some (Jvm.Cond.code (xMt 92).1 (xMt 92).2.1 (xMt 92).2.2.1 (xMt 92).2.2.2.1) := rfl
set_option maxRecDepth 100000 in
theorem xmc_93 : lw_tbl[(xMt 93).2.2.2.2.2.1]? = some (Jvm.Cond.code (xMt 93).1 (xMt 93).2.1 (xMt 93).2.2.1 (xMt 93).2.2.2.1) := rfl
set_option maxRecDepth 100000 in
theorem xmc_94 : lw_tbl[(xMt 94).2.2.2.2.2.1]? = some (Jvm.Cond.code (xMt 94).1 (xMt 94).2.1 (xMt 94).2.2.1 (xMt 94).2.2.2.1) := rfl
set_option maxRecDepth 100000 in
theorem xmc_95 : lw_tbl[(xMt 95).2.2.2.2.2.1]? = some (Jvm.Cond.code (xMt 95).1 (xMt 95).2.1 (xMt 95).2.2.1 (xMt 95).2.2.2.1) := rfl
set_option maxRecDepth 100000 in
theorem xmc_96 : lw_tbl[(xMt 96).2.2.2.2.2.1]? = some (Jvm.Cond.code (xMt 96).1 (xMt 96).2.1 (xMt 96).2.2.1 (xMt 96).2.2.2.1) := rfl
theorem xmcode (j : Nat) (hj : j < 97) : lw_tbl[(xMt j).2.2.2.2.2.1]? = some (Jvm.Cond.code (xMt j).1 (xMt j).2.1 (xMt j).2.2.1 (xMt j).2.2.2.1) := by
  rcases Nat.lt_or_ge j 48 with h48 | h48
  · rcases Nat.lt_or_ge j 24 with h24 | h24
    · rcases Nat.lt_or_ge j 12 with h12 | h12
      · rcases Nat.lt_or_ge j 6 with h6 | h6
        · rcases Nat.lt_or_ge j 3 with h3 | h3
          · rcases Nat.lt_or_ge j 1 with h1 | h1
            · have hz : j = 0 := by omega
              subst hz
              exact xmc_0
            · rcases Nat.lt_or_ge j 2 with h2 | h2
              · have hz : j = 1 := by omega
                subst hz
                exact xmc_1
              · have hz : j = 2 := by omega
                subst hz
                exact xmc_2
          · rcases Nat.lt_or_ge j 4 with h4 | h4
            · have hz : j = 3 := by omega
              subst hz
              exact xmc_3
            · rcases Nat.lt_or_ge j 5 with h5 | h5
              · have hz : j = 4 := by omega
                subst hz
                exact xmc_4
              · have hz : j = 5 := by omega
                subst hz
                exact xmc_5
        · rcases Nat.lt_or_ge j 9 with h9 | h9
          · rcases Nat.lt_or_ge j 7 with h7 | h7
            · have hz : j = 6 := by omega
              subst hz
              exact xmc_6
            · rcases Nat.lt_or_ge j 8 with h8 | h8
              · have hz : j = 7 := by omega
                subst hz
                exact xmc_7
              · have hz : j = 8 := by omega
                subst hz
                exact xmc_8
          · rcases Nat.lt_or_ge j 10 with h10 | h10
            · have hz : j = 9 := by omega
              subst hz
              exact xmc_9
            · rcases Nat.lt_or_ge j 11 with h11 | h11
              · have hz : j = 10 := by omega
                subst hz
                exact xmc_10
              · have hz : j = 11 := by omega
                subst hz
                exact xmc_11
      · rcases Nat.lt_or_ge j 18 with h18 | h18
        · rcases Nat.lt_or_ge j 15 with h15 | h15
          · rcases Nat.lt_or_ge j 13 with h13 | h13
            · have hz : j = 12 := by omega
              subst hz
              exact xmc_12
            · rcases Nat.lt_or_ge j 14 with h14 | h14
              · have hz : j = 13 := by omega
                subst hz
                exact xmc_13
              · have hz : j = 14 := by omega
                subst hz
                exact xmc_14
          · rcases Nat.lt_or_ge j 16 with h16 | h16
            · have hz : j = 15 := by omega
              subst hz
              exact xmc_15
            · rcases Nat.lt_or_ge j 17 with h17 | h17
              · have hz : j = 16 := by omega
                subst hz
                exact xmc_16
              · have hz : j = 17 := by omega
                subst hz
                exact xmc_17
        · rcases Nat.lt_or_ge j 21 with h21 | h21
          · rcases Nat.lt_or_ge j 19 with h19 | h19
            · have hz : j = 18 := by omega
              subst hz
              exact xmc_18
            · rcases Nat.lt_or_ge j 20 with h20 | h20
              · have hz : j = 19 := by omega
                subst hz
                exact xmc_19
              · have hz : j = 20 := by omega
                subst hz
                exact xmc_20
          · rcases Nat.lt_or_ge j 22 with h22 | h22
            · have hz : j = 21 := by omega
              subst hz
              exact xmc_21
            · rcases Nat.lt_or_ge j 23 with h23 | h23
              · have hz : j = 22 := by omega
                subst hz
                exact xmc_22
              · have hz : j = 23 := by omega
                subst hz
                exact xmc_23
    · rcases Nat.lt_or_ge j 36 with h36 | h36
      · rcases Nat.lt_or_ge j 30 with h30 | h30
        · rcases Nat.lt_or_ge j 27 with h27 | h27
          · rcases Nat.lt_or_ge j 25 with h25 | h25
            · have hz : j = 24 := by omega
              subst hz
              exact xmc_24
            · rcases Nat.lt_or_ge j 26 with h26 | h26
              · have hz : j = 25 := by omega
                subst hz
                exact xmc_25
              · have hz : j = 26 := by omega
                subst hz
                exact xmc_26
          · rcases Nat.lt_or_ge j 28 with h28 | h28
            · have hz : j = 27 := by omega
              subst hz
              exact xmc_27
            · rcases Nat.lt_or_ge j 29 with h29 | h29
              · have hz : j = 28 := by omega
                subst hz
                exact xmc_28
              · have hz : j = 29 := by omega
                subst hz
                exact xmc_29
        · rcases Nat.lt_or_ge j 33 with h33 | h33
          · rcases Nat.lt_or_ge j 31 with h31 | h31
            · have hz : j = 30 := by omega
              subst hz
              exact xmc_30
            · rcases Nat.lt_or_ge j 32 with h32 | h32
              · have hz : j = 31 := by omega
                subst hz
                exact xmc_31
              · have hz : j = 32 := by omega
                subst hz
                exact xmc_32
          · rcases Nat.lt_or_ge j 34 with h34 | h34
            · have hz : j = 33 := by omega
              subst hz
              exact xmc_33
            · rcases Nat.lt_or_ge j 35 with h35 | h35
              · have hz : j = 34 := by omega
                subst hz
                exact xmc_34
              · have hz : j = 35 := by omega
                subst hz
                exact xmc_35
      · rcases Nat.lt_or_ge j 42 with h42 | h42
        · rcases Nat.lt_or_ge j 39 with h39 | h39
          · rcases Nat.lt_or_ge j 37 with h37 | h37
            · have hz : j = 36 := by omega
              subst hz
              exact xmc_36
            · rcases Nat.lt_or_ge j 38 with h38 | h38
              · have hz : j = 37 := by omega
                subst hz
                exact xmc_37
              · have hz : j = 38 := by omega
                subst hz
                exact xmc_38
          · rcases Nat.lt_or_ge j 40 with h40 | h40
            · have hz : j = 39 := by omega
              subst hz
              exact xmc_39
            · rcases Nat.lt_or_ge j 41 with h41 | h41
              · have hz : j = 40 := by omega
                subst hz
                exact xmc_40
              · have hz : j = 41 := by omega
                subst hz
                exact xmc_41
        · rcases Nat.lt_or_ge j 45 with h45 | h45
          · rcases Nat.lt_or_ge j 43 with h43 | h43
            · have hz : j = 42 := by omega
              subst hz
              exact xmc_42
            · rcases Nat.lt_or_ge j 44 with h44 | h44
              · have hz : j = 43 := by omega
                subst hz
                exact xmc_43
              · have hz : j = 44 := by omega
                subst hz
                exact xmc_44
          · rcases Nat.lt_or_ge j 46 with h46 | h46
            · have hz : j = 45 := by omega
              subst hz
              exact xmc_45
            · rcases Nat.lt_or_ge j 47 with h47 | h47
              · have hz : j = 46 := by omega
                subst hz
                exact xmc_46
              · have hz : j = 47 := by omega
                subst hz
                exact xmc_47
  · rcases Nat.lt_or_ge j 72 with h72 | h72
    · rcases Nat.lt_or_ge j 60 with h60 | h60
      · rcases Nat.lt_or_ge j 54 with h54 | h54
        · rcases Nat.lt_or_ge j 51 with h51 | h51
          · rcases Nat.lt_or_ge j 49 with h49 | h49
            · have hz : j = 48 := by omega
              subst hz
              exact xmc_48
            · rcases Nat.lt_or_ge j 50 with h50 | h50
              · have hz : j = 49 := by omega
                subst hz
                exact xmc_49
              · have hz : j = 50 := by omega
                subst hz
                exact xmc_50
          · rcases Nat.lt_or_ge j 52 with h52 | h52
            · have hz : j = 51 := by omega
              subst hz
              exact xmc_51
            · rcases Nat.lt_or_ge j 53 with h53 | h53
              · have hz : j = 52 := by omega
                subst hz
                exact xmc_52
              · have hz : j = 53 := by omega
                subst hz
                exact xmc_53
        · rcases Nat.lt_or_ge j 57 with h57 | h57
          · rcases Nat.lt_or_ge j 55 with h55 | h55
            · have hz : j = 54 := by omega
              subst hz
              exact xmc_54
            · rcases Nat.lt_or_ge j 56 with h56 | h56
              · have hz : j = 55 := by omega
                subst hz
                exact xmc_55
              · have hz : j = 56 := by omega
                subst hz
                exact xmc_56
          · rcases Nat.lt_or_ge j 58 with h58 | h58
            · have hz : j = 57 := by omega
              subst hz
              exact xmc_57
            · rcases Nat.lt_or_ge j 59 with h59 | h59
              · have hz : j = 58 := by omega
                subst hz
                exact xmc_58
              · have hz : j = 59 := by omega
                subst hz
                exact xmc_59
      · rcases Nat.lt_or_ge j 66 with h66 | h66
        · rcases Nat.lt_or_ge j 63 with h63 | h63
          · rcases Nat.lt_or_ge j 61 with h61 | h61
            · have hz : j = 60 := by omega
              subst hz
              exact xmc_60
            · rcases Nat.lt_or_ge j 62 with h62 | h62
              · have hz : j = 61 := by omega
                subst hz
                exact xmc_61
              · have hz : j = 62 := by omega
                subst hz
                exact xmc_62
          · rcases Nat.lt_or_ge j 64 with h64 | h64
            · have hz : j = 63 := by omega
              subst hz
              exact xmc_63
            · rcases Nat.lt_or_ge j 65 with h65 | h65
              · have hz : j = 64 := by omega
                subst hz
                exact xmc_64
              · have hz : j = 65 := by omega
                subst hz
                exact xmc_65
        · rcases Nat.lt_or_ge j 69 with h69 | h69
          · rcases Nat.lt_or_ge j 67 with h67 | h67
            · have hz : j = 66 := by omega
              subst hz
              exact xmc_66
            · rcases Nat.lt_or_ge j 68 with h68 | h68
              · have hz : j = 67 := by omega
                subst hz
                exact xmc_67
              · have hz : j = 68 := by omega
                subst hz
                exact xmc_68
          · rcases Nat.lt_or_ge j 70 with h70 | h70
            · have hz : j = 69 := by omega
              subst hz
              exact xmc_69
            · rcases Nat.lt_or_ge j 71 with h71 | h71
              · have hz : j = 70 := by omega
                subst hz
                exact xmc_70
              · have hz : j = 71 := by omega
                subst hz
                exact xmc_71
    · rcases Nat.lt_or_ge j 84 with h84 | h84
      · rcases Nat.lt_or_ge j 78 with h78 | h78
        · rcases Nat.lt_or_ge j 75 with h75 | h75
          · rcases Nat.lt_or_ge j 73 with h73 | h73
            · have hz : j = 72 := by omega
              subst hz
              exact xmc_72
            · rcases Nat.lt_or_ge j 74 with h74 | h74
              · have hz : j = 73 := by omega
                subst hz
                exact xmc_73
              · have hz : j = 74 := by omega
                subst hz
                exact xmc_74
          · rcases Nat.lt_or_ge j 76 with h76 | h76
            · have hz : j = 75 := by omega
              subst hz
              exact xmc_75
            · rcases Nat.lt_or_ge j 77 with h77 | h77
              · have hz : j = 76 := by omega
                subst hz
                exact xmc_76
              · have hz : j = 77 := by omega
                subst hz
                exact xmc_77
        · rcases Nat.lt_or_ge j 81 with h81 | h81
          · rcases Nat.lt_or_ge j 79 with h79 | h79
            · have hz : j = 78 := by omega
              subst hz
              exact xmc_78
            · rcases Nat.lt_or_ge j 80 with h80 | h80
              · have hz : j = 79 := by omega
                subst hz
                exact xmc_79
              · have hz : j = 80 := by omega
                subst hz
                exact xmc_80
          · rcases Nat.lt_or_ge j 82 with h82 | h82
            · have hz : j = 81 := by omega
              subst hz
              exact xmc_81
            · rcases Nat.lt_or_ge j 83 with h83 | h83
              · have hz : j = 82 := by omega
                subst hz
                exact xmc_82
              · have hz : j = 83 := by omega
                subst hz
                exact xmc_83
      · rcases Nat.lt_or_ge j 90 with h90 | h90
        · rcases Nat.lt_or_ge j 87 with h87 | h87
          · rcases Nat.lt_or_ge j 85 with h85 | h85
            · have hz : j = 84 := by omega
              subst hz
              exact xmc_84
            · rcases Nat.lt_or_ge j 86 with h86 | h86
              · have hz : j = 85 := by omega
                subst hz
                exact xmc_85
              · have hz : j = 86 := by omega
                subst hz
                exact xmc_86
          · rcases Nat.lt_or_ge j 88 with h88 | h88
            · have hz : j = 87 := by omega
              subst hz
              exact xmc_87
            · rcases Nat.lt_or_ge j 89 with h89 | h89
              · have hz : j = 88 := by omega
                subst hz
                exact xmc_88
              · have hz : j = 89 := by omega
                subst hz
                exact xmc_89
        · rcases Nat.lt_or_ge j 93 with h93 | h93
          · rcases Nat.lt_or_ge j 91 with h91 | h91
            · have hz : j = 90 := by omega
              subst hz
              exact xmc_90
            · rcases Nat.lt_or_ge j 92 with h92 | h92
              · have hz : j = 91 := by omega
                subst hz
                exact xmc_91
              · have hz : j = 92 := by omega
                subst hz
                exact xmc_92
          · rcases Nat.lt_or_ge j 95 with h95 | h95
            · rcases Nat.lt_or_ge j 94 with h94 | h94
              · have hz : j = 93 := by omega
                subst hz
                exact xmc_93
              · have hz : j = 94 := by omega
                subst hz
                exact xmc_94
            · rcases Nat.lt_or_ge j 96 with h96 | h96
              · have hz : j = 95 := by omega
                subst hz
                exact xmc_95
              · have hz : j = 96 := by omega
                subst hz
                exact xmc_96
