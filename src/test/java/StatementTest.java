/** Promise 15: what each statement makes, and the last numbers that it may have. */
final class StatementTest {
    private static final String ADDRESS = "With mode 0 e must be below 400, with 1 to 3 below 200 or 177600 and above (D).";
    private static final String NEAR = "Without: below 400 it is mode 0; otherwise mode 1, and e (as a plain number) less than 200"
            + " behind the word's place, or up to 200 before it.";
    private static final String BOUNDS = "Bounds: accumulators, modes 3; skips 7; devices 77; .LOC 77777.";

    public static void main(String[] args) {
        countsWords();
        locations();
        blocks();
        addresses();
        addressesByMode();
        addressesBeyondMode();
        nearAddresses();
        nearAddressesAtMemorysEnds();
        arithmetic();
        devices();
        machine();
        values();
        bounds();
        mostWords();
        Check.finish();
    }

    private static void countsWords() {
        Check.promise(15, "The text is assembled, and is empty then: how many words were put; or, if something is wrong, -1, and"
                + " nothing was put.");
        Assembling.makes("A: B:\n\n.LOC 0\n.BLK 0\n;\n");
        Assembling.makes("7", 7);
        Assembling.makesAt(".LOC 5\n1\n.BLK 100\n2\n.LOC 77777\n3", 5, 1, 70, 2, 32767, 3);
        NovaDesk x = new NovaDesk();
        x.put(4, 77);
        Assembling.makesIn(x, "1\n2\n.LOC 0\n3\n.BLK 2\n4", 4);
        int[] due = {3, 2, 0, 4, 77};
        for (int i = 0; i < due.length; i++) {
            Check.same("a place twice: the later word; word " + i, x.word(i), due[i]);
        }
    }

    private static void locations() {
        Check.promise(15, ".LOC e: the next word goes to e (the first one goes to 0).");
        Assembling.makes("7", 7);
        Assembling.makesAt(".LOC 77777\n7", 32767, 7);
        Assembling.makesAt(".LOC 0\n7", 0, 7);
        Assembling.makesAt("1\n.LOC 100\n2\n3\n.LOC 50\n4\n.LOC .+10\n5", 0, 1, 64, 2, 65, 3, 40, 4, 49, 5);
        Assembling.makesAt(".LOC 100\n.LOC 200\n7", 128, 7);
        NovaDesk x = new NovaDesk();
        Assembling.makesIn(x, ".LOC 100\n7", 1);
        Assembling.makesIn(x, "6", 1);
        Check.same("the first word of the next text goes to 0 again", x.word(0), 6);
        Check.same("no word behind the former one", x.word(65), 0);
    }

    private static void blocks() {
        Check.promise(15, ".BLK e: so many words are left out.");
        Assembling.makesAt(".BLK 5\n7", 5, 7);
        Assembling.makesAt(".BLK 0\n7", 0, 7);
        Assembling.makesAt("1\n.BLK 1\n2\n.BLK 77774\n3", 0, 1, 2, 2, 32767, 3);
        NovaDesk x = new NovaDesk();
        x.put(0, 1);
        x.put(4, 2);
        x.put(32767, 3);
        Assembling.makesIn(x, ".BLK 100000", 0);
        Check.same("words that are left out stay: 0", x.word(0), 1);
        Check.same("words that are left out stay: 4", x.word(4), 2);
        Check.same("words that are left out stay: 32767", x.word(32767), 3);
        Assembling.makesIn(x, ".BLK 100000\nE: .BLK 0\n.LOC 3\n7", 1);
        Check.same("behind .LOC there is memory again", x.word(3), 7);
        Check.same("the end of memory has a number", Desk.label(x, "E"), 32768);
    }

    private static void addresses() {
        Check.promise(15, "JMP, JSR, ISZ, DSZ ADDRESS; LDA, STA accumulator, ADDRESS, which is '@' (indirect) or not, e, and then"
                + " nothing or , mode.");
        String[] names = {"JMP ", "JSR ", "ISZ ", "DSZ "};
        for (int i = 0; i < 4; i++) {
            Assembling.makes(names[i] + "5", i << 11 | 5);
            Assembling.makes(names[i] + "@5", i << 11 | 0x405);
            Assembling.makes(names[i] + "5,2", i << 11 | 0x205);
            Assembling.makes(names[i] + "@5,3", i << 11 | 0x705);
        }
        for (int a = 0; a < 4; a++) {
            Assembling.makes("LDA " + a + ",5", 0x2000 | a << 11 | 5);
            Assembling.makes("LDA " + a + ",@5,1", 0x2000 | a << 11 | 0x505);
            Assembling.makes("STA " + a + ",@5", 0x4000 | a << 11 | 0x405);
            Assembling.makes("STA " + a + ",5,3", 0x4000 | a << 11 | 0x305);
        }
        Assembling.makes("STA CPU-76,TTI,SZC", 0x4000 | 1 << 11 | 2 << 8 | 8);
    }

    private static void addressesByMode() {
        Check.promise(15, ADDRESS);
        Assembling.makes("JMP 0,0\nJMP 377,0\nLDA 0,377,0", 0, 0xFF, 0x20FF);
        for (int mode = 1; mode <= 3; mode++) {
            int bits = mode << 8;
            Assembling.makes("JMP 0," + mode + "\nJMP 177," + mode + "\nJMP 177600," + mode + "\nJMP 177777," + mode + "\nJMP -1,"
                    + mode + "\nLDA 3,@-200," + mode, bits, bits | 0x7F, bits | 0x80, bits | 0xFF, bits | 0xFF,
                    0x2000 | 3 << 11 | 0x400 | bits | 0x80);
        }
    }

    private static void addressesBeyondMode() {
        Check.promise(15, ADDRESS);
        for (String name : new String[] {"JMP ", "JSR @", "ISZ ", "DSZ ", "LDA 3,", "STA 0,@"}) {
            for (String e : new String[] {"400", "1000", "100000", "177600", "177777", "-1"}) {
                Assembling.fails("1\n" + name + e + ",0", 6, 2);
            }
            for (int mode = 1; mode <= 3; mode++) {
                for (String e : new String[] {"200", "377", "400", "77777", "100000", "177577", "-201"}) {
                    Assembling.fails("1\n" + name + e + "," + mode, 6, 2);
                }
            }
        }
    }

    private static void nearAddresses() {
        Check.promise(15, NEAR);
        Assembling.makes("JMP 0\nJMP 377\nJMP @377\nLDA 1,377", 0, 0xFF, 0x4FF, 0x28FF);
        Assembling.makesAt(".LOC 201\nJMP 400", 129, 0x17F);
        Assembling.fails(".LOC 200\nJMP 400", 6, 2);
        Assembling.fails("JMP 400", 6, 1);
        Assembling.makesAt(".LOC 1000\nJMP .+177\nJMP .\nJMP .-200\nLDA 2,@.+177\nSTA 3,.-1", 512, 0x17F, 513, 0x100, 514, 0x180,
                515, 0x3000 | 0x57F, 516, 0x5800 | 0x1FF);
        for (String name : new String[] {"JMP ", "JSR @", "ISZ ", "DSZ @", "LDA 3,", "STA 0,@"}) {
            Assembling.fails(".LOC 1000\n" + name + ".+200", 6, 2);
            Assembling.fails(".LOC 1000\n" + name + ".-201", 6, 2);
        }
        Assembling.makesAt(".LOC 450\nJMP 400\nJMP 377", 296, 0x1D8, 297, 0xFF);
        Assembling.makesAt(".LOC 600\nJMP 400\nJMP 401", 384, 0x180, 385, 0x180);
        Assembling.fails(".LOC 601\nJMP 400", 6, 2);
    }

    private static void nearAddressesAtMemorysEnds() {
        Check.promise(15, NEAR);
        Assembling.makesAt(".LOC 77777\nJMP .+1", 32767, 0x101);
        Assembling.makesAt(".LOC 77777\nJMP 100176", 32767, 0x17F);
        Assembling.fails(".LOC 77777\nJMP 100177", 6, 2);
        Assembling.makesAt(".LOC 77777\nJMP 77577", 32767, 0x180);
        Assembling.fails(".LOC 77777\nJMP 0+100000+100000-1", 6, 2);
        Assembling.fails("JMP -1", 6, 1);
        Assembling.fails("JMP 177777", 6, 1);
        Assembling.fails("JMP 77777", 6, 1);
        Assembling.fails("JMP 100000", 6, 1);
        Assembling.makesAt(".LOC 77777\nJMP 0", 32767, 0);
    }

    private static void arithmetic() {
        Check.promise(15, "COM NEG MOV INC ADC SUB ADD AND, then Z, O, C (BASE 1 to 3) or nothing, then L, R, S (SHIFT 1 to 3) or"
                + " nothing, as one name; '#' (NO LOAD) or not; S, A, and then nothing or , skip.");
        String[] functions = {"COM", "NEG", "MOV", "INC", "ADC", "SUB", "ADD", "AND"};
        String[] bases = {"", "Z", "O", "C"};
        String[] shifts = {"", "L", "R", "S"};
        String[] skips = {"", ",SKP", ",SZC", ",SNC", ",SZR", ",SNR", ",SEZ", ",SBN"};
        for (int i = 0; i < 8 * 4 * 4; i++) {
            int f = i / 16;
            int b = i / 4 % 4;
            int s = i % 4;
            int skip = (f + b + s) % 8;
            int load = (f + s) % 2;
            Assembling.makes(functions[f] + bases[b] + shifts[s] + (load == 1 ? "#" : "") + " " + b + "," + s + skips[skip],
                    0x8000 | b << 13 | s << 11 | f << 8 | s << 6 | b << 4 | load << 3 | skip);
        }
        Assembling.makes("MOV 0,0,0\nMOV 0,0,7", 0x8200, 0x8207);
        for (String none : new String[] {"MOVLZ", "MOVZZ", "MOVLL", "MOVZLS", "MOVP", "MOVZ0", "COMX", "MO", "ANDSZ", "ADCLC"}) {
            Assembling.fails(none + " 0,0", 3, 1);
        }
    }

    private static void devices() {
        Check.promise(15, "NIO, then S, C, P (CONTROL 1 to 3) or nothing, as one name; device. DIA DOA DIB DOB DIC DOC (WHAT 1 to"
                + " 6), likewise; A, device. SKPBN SKPBZ SKPDN SKPDZ (CONTROL 0 to 3) device.");
        String[] names = {"NIO", "DIA", "DOA", "DIB", "DOB", "DIC", "DOC"};
        String[] controls = {"", "S", "C", "P"};
        String[] devices = {"0", "TTI", "TTO", "RTC", "76", "CPU"};
        int[] numbers = {0, 8, 9, 10, 62, 63};
        for (int i = 0; i < 7 * 4 * 6; i++) {
            int what = i / 24;
            int control = i / 6 % 4;
            int a = what == 0 ? 0 : i % 4;
            Assembling.makes(names[what] + controls[control] + " " + (what == 0 ? "" : a + ",") + devices[i % 6],
                    0x6000 | a << 11 | what << 8 | control << 6 | numbers[i % 6]);
        }
        Assembling.makes("SKPBN 0\nSKPBZ TTO\nSKPDN RTC\nSKPDZ CPU\nSKPBN 77", 0x6700, 0x6749, 0x678A, 0x67FF, 0x673F);
        for (String none : new String[] {"NIOZ 0", "NIOSS 0", "NIOSC 0", "DIAL 0,0", "DOD 0,0", "DIAPS 0,0", "SKPBNS 0", "SKPB 0",
            "SKPBS 0"}) {
            Assembling.fails(none, 3, 1);
        }
    }

    private static void machine() {
        Check.promise(15, "With the device 77: INTEN, INTDS (CONTROL 1, 2 of WHAT 0); HALT (WHAT 6), IORST (5) with A 0; READS"
                + " (1), INTA (3), MSKO (4) A.");
        Assembling.makes("INTEN\nINTDS\nHALT\nIORST", 0x607F, 0x60BF, 0x663F, 0x653F);
        for (int a = 0; a < 4; a++) {
            Assembling.makes("READS " + a + "\nINTA " + a + "\nMSKO " + a, 0x613F | a << 11, 0x633F | a << 11, 0x643F | a << 11);
        }
        for (String none : new String[] {"HALTS", "INTENS", "READSS 0", "INTAS 0", "MSKOS 0", "IORSTC", "READ 0"}) {
            Assembling.fails(none, 3, 1);
        }
    }

    private static void values() {
        Check.promise(15, "Otherwise e: that word.");
        Assembling.makes("0\n177777\n-1\n+TTI\nA\nA: 5", 0, 65535, 65535, 8, 5, 5);
        Assembling.fails("JMPX", 3, 1);
        Assembling.fails("TTI 5", 2, 1);
    }

    private static void bounds() {
        Check.promise(15, BOUNDS);
        String[] within = {"LDA 3,5", "STA 3,5", "LDA 0,5,3", "STA 0,5,3", "JMP 5,3", "JSR 5,3", "ISZ 5,3", "DSZ 5,3", "MOV 3,0",
            "MOV 0,3", "MOV 0,0,7", "COM 3,3,7", "NIO 77", "NIOS 77", "DIA 3,77", "DOA 3,77", "DIB 3,77", "DOB 3,77", "DIC 3,77",
            "DOC 3,77", "SKPBN 77", "SKPBZ 77", "SKPDN 77", "SKPDZ 77", "READS 3", "INTA 3", "MSKO 3", ".LOC 77777"};
        for (String text : within) {
            NovaDesk x = new NovaDesk();
            Assembling.makesIn(x, text, text.charAt(0) == '.' ? 0 : 1);
        }
        Check.promise(15, "5 beyond a bound.");
        String[] beyond = {"LDA 4,5", "STA 4,5", "LDA 0,5,4", "STA 0,5,4", "JMP 5,4", "JSR 5,4", "ISZ 5,4", "DSZ 5,4", "MOV 4,0",
            "MOV 0,4", "MOV 0,0,10", "COM 0,4", "NIO 100", "NIOS 100", "DIA 4,77", "DIA 3,100", "DOA 4,77", "DOA 3,100",
            "DIB 4,77", "DOB 3,100", "DIC 4,77", "DOC 3,100", "SKPBN 100", "SKPBZ 100", "SKPDN 100", "SKPDZ 100", "READS 4",
            "INTA 4", "MSKO 4", ".LOC 100000"};
        for (String text : beyond) {
            Assembling.fails("1\n" + text, 5, 2);
        }
        String[] farBeyond = {"LDA -1,5", "STA 177777,5", "JMP 5,-1", "MOV -1,0", "MOV 0,-1", "MOV 0,0,-1", "MOV 0,0,177777",
            "NIO -1", "DIA -1,0", "DIA 0,-1", "SKPBN 177777", "READS -1", ".LOC -1", ".LOC 177777", "LDA 10,5", "JMP 5,10"};
        for (String text : farBeyond) {
            Assembling.fails("1\n" + text, 5, 2);
        }
    }

    /** A text of 6000 characters: no more words can be in one. */
    private static void mostWords() {
        Check.promise(15, "how many words were put;");
        NovaDesk x = new NovaDesk();
        Assembling.makesIn(x, "5\n".repeat(2999) + "6\n", 3000);
        Check.same("the first of them", x.word(0), 5);
        Check.same("the last but one", x.word(2998), 5);
        Check.same("the last of them", x.word(2999), 6);
        Check.same("none behind", x.word(3000), 0);
        NovaDesk y = new NovaDesk();
        Assembling.makesIn(y, "\n" + "7\n".repeat(2999) + "6", 3000);
        Check.same("the last one without a line's end", y.word(2999), 6);
    }
}
