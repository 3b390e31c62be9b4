/-! All methods are as their models, at every depth. -/
def cAll (K C d : Nat) : Prop := cT26 K d C ∧ cT27 K d C ∧ cT30 K d C ∧ cT29 K d C ∧ cT34 K d C ∧ cT40 K d C ∧ cT38 K d C ∧ cT35 K d C ∧ cT33 K d C ∧ cT28 K d C ∧ cT31 K d C ∧ cT32 K d C ∧ cT25 K d C ∧ cT24 K d C ∧ cT39 K d C ∧ cT42 K d C ∧ cT22 K d C ∧ cT62 K d C ∧ cT63 K d C ∧ cT21 K d C ∧ cT67 K d C ∧ cT54 K d C ∧ cT66 K d C ∧ cT46 K d C ∧ cT77 K d C ∧ cT47 K d C ∧ cT48 K d C ∧ cT23 K d C ∧ cT76 K d C ∧ cT41 K d C ∧ cT68 K d C ∧ cT43 K d C ∧ cT59 K d C ∧ cT37 K d C ∧ cT45 K d C ∧ cT61 K d C ∧ cT73 K d C ∧ cT72 K d C ∧ cT69 K d C ∧ cT64 K d C ∧ cT56 K d C ∧ cT65 K d C ∧ cT57 K d C ∧ cT58 K d C ∧ cT60 K d C ∧ cT50 K d C ∧ cT51 K d C ∧ cT53 K d C ∧ cT52 K d C ∧ cT55 K d C ∧ cT70 K d C ∧ cT71 K d C ∧ cT44 K d C ∧ cT36 K d C ∧ cT74 K d C ∧ cT49 K d C ∧ cT75 K d C ∧ cT20 K d C
theorem c_all {K C : Nat} : ∀ d, cAll K C d
  | 0 => by
    refine ⟨?_, ?_, ?_, ?_, ?_, ?_, ?_, ?_, ?_, ?_, ?_, ?_, ?_, ?_, ?_, ?_, ?_, ?_, ?_, ?_, ?_, ?_, ?_, ?_, ?_, ?_, ?_, ?_, ?_, ?_, ?_, ?_, ?_, ?_, ?_, ?_, ?_, ?_, ?_, ?_, ?_, ?_, ?_, ?_, ?_, ?_, ?_, ?_, ?_, ?_, ?_, ?_, ?_, ?_, ?_, ?_, ?_, ?_⟩
    · unfold cT26; intros; exact pcr0
    · unfold cT27; intros; exact pcr0
    · unfold cT30; intros; exact pcr0
    · unfold cT29; intros; exact pcr0
    · unfold cT34; intros; exact pcr0
    · unfold cT40; intros; exact pcr0
    · unfold cT38; intros; exact pcr0
    · unfold cT35; intros; exact pcr0
    · unfold cT33; intros; exact pcr0
    · unfold cT28; intros; exact pcr0
    · unfold cT31; intros; exact pcr0
    · unfold cT32; intros; exact pcr0
    · unfold cT25; intros; exact pcr0
    · unfold cT24; intros; exact pcr0
    · unfold cT39; intros; exact pcr0
    · unfold cT42; intros; exact pcr0
    · unfold cT22; intros; exact pcr0
    · unfold cT62; intros; exact pcr0
    · unfold cT63; intros; exact pcr0
    · unfold cT21; intros; exact pcr0
    · unfold cT67; intros; exact pcr0
    · unfold cT54; intros; exact pcr0
    · unfold cT66; intros; exact pcr0
    · unfold cT46; intros; exact pcr0
    · unfold cT77; intros; exact pcr0
    · unfold cT47; intros; exact pcr0
    · unfold cT48; intros; exact pcr0
    · unfold cT23; intros; exact pcr0
    · unfold cT76; intros; exact pcr0
    · unfold cT41; intros; exact pcr0
    · unfold cT68; intros; exact pcr0
    · unfold cT43; intros; exact pcr0
    · unfold cT59; intros; exact pcr0
    · unfold cT37; intros; exact pcr0
    · unfold cT45; intros; exact pcr0
    · unfold cT61; intros; exact pcr0
    · unfold cT73; intros; exact pcr0
    · unfold cT72; intros; exact pcr0
    · unfold cT69; intros; exact pcr0
    · unfold cT64; intros; exact pcr0
    · unfold cT56; intros; exact pcr0
    · unfold cT65; intros; exact pcr0
    · unfold cT57; intros; exact pcr0
    · unfold cT58; intros; exact pcr0
    · unfold cT60; intros; exact pcr0
    · unfold cT50; intros; exact pcr0
    · unfold cT51; intros; exact pcr0
    · unfold cT53; intros; exact pcr0
    · unfold cT52; intros; exact pcr0
    · unfold cT55; intros; exact pcr0
    · unfold cT70; intros; exact pcr0
    · unfold cT71; intros; exact pcr0
    · unfold cT44; intros; exact pcr0
    · unfold cT36; intros; exact pcr0
    · unfold cT74; intros; exact pcr0
    · unfold cT49; intros; exact pcr0
    · unfold cT75; intros; exact pcr0
    · unfold cT20; intros; exact pcr0
  | d + 1 => by
    obtain ⟨h_26, h_27, h_30, h_29, h_34, h_40, h_38, h_35, h_33, h_28, h_31, h_32, h_25, h_24, h_39, h_42, h_22, h_62, h_63, h_21, h_67, h_54, h_66, h_46, h_77, h_47, h_48, h_23, h_76, h_41, h_68, h_43, h_59, h_37, h_45, h_61, h_73, h_72, h_69, h_64, h_56, h_65, h_57, h_58, h_60, h_50, h_51, h_53, h_52, h_55, h_70, h_71, h_44, h_36, h_74, h_49, h_75, h_20⟩ := c_all (K := K) (C := C) d
    exact ⟨cm26, cm27, cm30, cm29 h_27 h_30, cm34, cm40, cm38, cm35, cm33, cm28 h_26 h_29, cm31 h_26 h_30, cm32 h_26 h_33, cm25 h_26 h_27 h_28 h_30 h_31 h_32, cm24 h_25, cm39, cm42, cm22, cm62, cm63, cm21 h_22 h_23, cm67, cm54, cm66 h_67, cm46, cm77, cm47, cm48, cm23, cm76, cm41, cm68, cm43 h_34 h_35 h_40 h_41, cm59 h_34 h_35 h_38 h_40 h_41, cm37 h_34 h_35 h_38 h_39 h_40 h_41 h_42, cm45 h_37 h_46, cm61 h_34 h_38 h_39 h_40 h_41, cm73 h_62 h_63, cm72 h_34 h_41 h_62 h_63, cm69 h_54 h_68, cm64 h_35 h_40 h_41 h_43 h_57, cm56 h_35 h_43 h_57, cm65 h_34 h_35 h_40 h_41 h_48 h_54 h_57 h_66, cm57 h_34 h_35 h_40 h_41 h_58 h_68 h_69, cm58 h_34 h_35 h_40 h_41 h_43 h_54 h_57 h_58 h_59 h_60, cm60 h_34 h_35 h_40 h_41 h_54 h_61 h_62 h_63 h_64 h_65, cm50 h_34 h_35 h_43 h_45, cm51 h_34 h_52 h_66, cm53 h_22 h_43 h_50 h_51 h_54, cm52 h_34 h_35 h_40 h_41 h_43 h_52 h_53 h_54 h_55 h_56 h_59 h_70 h_71, cm55 h_34 h_35 h_52 h_54 h_56, cm70 h_34 h_35 h_40 h_43 h_52 h_54 h_66, cm71 h_34 h_35 h_40 h_41 h_43 h_54 h_57 h_61 h_62 h_63 h_64 h_65 h_72 h_73, cm44 h_34 h_35 h_40 h_41 h_45, cm36 h_34 h_37 h_43 h_44 h_47, cm74, cm49 h_22 h_43 h_50 h_51 h_57 h_66, cm75 h_37 h_40 h_41 h_43 h_46 h_59 h_76 h_77, cm20 h_21 h_24 h_34 h_35 h_36 h_40 h_41 h_48 h_49 h_53 h_74 h_75⟩
theorem c_top {K C d : Nat} : cT20 K d C := (c_all d).2.2.2.2.2.2.2.2.2.2.2.2.2.2.2.2.2.2.2.2.2.2.2.2.2.2.2.2.2.2.2.2.2.2.2.2.2.2.2.2.2.2.2.2.2.2.2.2.2.2.2.2.2.2.2.2.2
def rAll (K C d : Nat) : Prop := rT120 K d C ∧ rT124 K d C ∧ rT125 K d C ∧ rT126 K d C ∧ rT123 K d C ∧ rT127 K d C ∧ rT132 K d C ∧ rT131 K d C ∧ rT136 K d C ∧ rT134 K d C ∧ rT133 K d C ∧ rT140 K d C ∧ rT147 K d C ∧ rT142 K d C ∧ rT138 K d C ∧ rT135 K d C ∧ rT130 K d C ∧ rT137 K d C ∧ rT158 K d C ∧ rT148 K d C ∧ rT151 K d C ∧ rT152 K d C ∧ rT76 K d C ∧ rT144 K d C ∧ rT145 K d C ∧ rT146 K d C ∧ rT149 K d C ∧ rT150 K d C ∧ rT157 K d C ∧ rT139 K d C ∧ rT141 K d C ∧ rT143 K d C ∧ rT153 K d C ∧ rT154 K d C ∧ rT155 K d C ∧ rT156 K d C ∧ rT159 K d C ∧ rT128 K d C ∧ rT122 K d C ∧ rT129 K d C
theorem r_all {K C : Nat} : ∀ d, rAll K C d
  | 0 => by
    refine ⟨?_, ?_, ?_, ?_, ?_, ?_, ?_, ?_, ?_, ?_, ?_, ?_, ?_, ?_, ?_, ?_, ?_, ?_, ?_, ?_, ?_, ?_, ?_, ?_, ?_, ?_, ?_, ?_, ?_, ?_, ?_, ?_, ?_, ?_, ?_, ?_, ?_, ?_, ?_, ?_⟩
    · unfold rT120; intros; exact pcr0
    · unfold rT124; intros; exact pcr0
    · unfold rT125; intros; exact pcr0
    · unfold rT126; intros; exact pcr0
    · unfold rT123; intros; exact pcr0
    · unfold rT127; intros; exact pcr0
    · unfold rT132; intros; exact pcr0
    · unfold rT131; intros; exact pcr0
    · unfold rT136; intros; exact pcr0
    · unfold rT134; intros; exact pcr0
    · unfold rT133; intros; exact pcr0
    · unfold rT140; intros; exact pcr0
    · unfold rT147; intros; exact pcr0
    · unfold rT142; intros; exact pcr0
    · unfold rT138; intros; exact pcr0
    · unfold rT135; intros; exact pcr0
    · unfold rT130; intros; exact pcr0
    · unfold rT137; intros; exact pcr0
    · unfold rT158; intros; exact pcr0
    · unfold rT148; intros; exact pcr0
    · unfold rT151; intros; exact pcr0
    · unfold rT152; intros; exact pcr0
    · unfold rT76; intros; exact pcr0
    · unfold rT144; intros; exact pcr0
    · unfold rT145; intros; exact pcr0
    · unfold rT146; intros; exact pcr0
    · unfold rT149; intros; exact pcr0
    · unfold rT150; intros; exact pcr0
    · unfold rT157; intros; exact pcr0
    · unfold rT139; intros; exact pcr0
    · unfold rT141; intros; exact pcr0
    · unfold rT143; intros; exact pcr0
    · unfold rT153; intros; exact pcr0
    · unfold rT154; intros; exact pcr0
    · unfold rT155; intros; exact pcr0
    · unfold rT156; intros; exact pcr0
    · unfold rT159; intros; exact pcr0
    · unfold rT128; intros; exact pcr0
    · unfold rT122; intros; exact pcr0
    · unfold rT129; intros; exact pcr0
  | d + 1 => by
    obtain ⟨h_120, h_124, h_125, h_126, h_123, h_127, h_132, h_131, h_136, h_134, h_133, h_140, h_147, h_142, h_138, h_135, h_130, h_137, h_158, h_148, h_151, h_152, h_76, h_144, h_145, h_146, h_149, h_150, h_157, h_139, h_141, h_143, h_153, h_154, h_155, h_156, h_159, h_128, h_122, h_129⟩ := r_all (K := K) (C := C) d
    exact ⟨rm120, rm124, rm125, rm126, rm123 h_124 h_125 h_126, rm127, rm132, rm131 h_132, rm136 h_123 h_127 h_131, rm134, rm133 h_123 h_131 h_134, rm140, rm147 h_140, rm142 h_140, rm138, rm135, rm130 h_131, rm137 h_130 h_133, rm158 h_147, rm148, rm151 h_127, rm152, rm76, rm144 h_123 h_142 h_144 h_145 h_147 h_151 h_152, rm145 h_123 h_127 h_131 h_142 h_145 h_146 h_147, rm146 h_123 h_127 h_131 h_134 h_136 h_142 h_144 h_147 h_148 h_149, rm149 h_132 h_150, rm150 h_123 h_127 h_131 h_132 h_136 h_142 h_144 h_147, rm157 h_123 h_131 h_132 h_136 h_144, rm139 h_123 h_127 h_136 h_137 h_140 h_141, rm141 h_123 h_127 h_131 h_135 h_136 h_139 h_142 h_143 h_153 h_154 h_155 h_156, rm143 h_123 h_127 h_136 h_140 h_141 h_142 h_144, rm153 h_123 h_136 h_140 h_141 h_142 h_144 h_147, rm154 h_123 h_131 h_140 h_141 h_142 h_147, rm155 h_123 h_127 h_131 h_136 h_138 h_140 h_141 h_142, rm156 h_123 h_127 h_131 h_134 h_136 h_142 h_144 h_147 h_148 h_150 h_157 h_158, rm159 h_123 h_127 h_136 h_137 h_141 h_144, rm128 h_76 h_120 h_123 h_127 h_129 h_130 h_131 h_133 h_136 h_137, rm122 h_123 h_127 h_128 h_131 h_132 h_135 h_138 h_139 h_140, rm129 h_123 h_127 h_130 h_131 h_133 h_135 h_136 h_137 h_138 h_139 h_140 h_159⟩
theorem r_top {K C d : Nat} : rT122 K d C := (r_all d).2.2.2.2.2.2.2.2.2.2.2.2.2.2.2.2.2.2.2.2.2.2.2.2.2.2.2.2.2.2.2.2.2.2.2.2.2.2.1
