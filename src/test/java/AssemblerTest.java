/** Promises 13 to 17: feed, end, assemble, fault, label. */
final class AssemblerTest {
    public static void main(String[] args) {
        text();
        lines();
        items();
        expressions();
        names();
        locations();
        addresses();
        arithmetic();
        devices();
        noItems();
        wrongItems();
        namesWithoutNumbers();
        wrongLabels();
        beyondBounds();
        wrongAddresses();
        beyondMemory();
        order();
        nothingIsPut();
        labels();
        mostLabels();
        mostWords();
        Check.finish();
    }

    private static void makes(String text, int... due) {
        NovaDesk x = new NovaDesk();
        Check.same("assemble of " + text, Desk.assemble(x, text), due.length);
        Check.same("fault of " + text, x.fault(0), 0);
        Check.same("line of " + text, x.fault(1), 0);
        for (int i = 0; i < due.length; i++) {
            Check.same("word " + i + " of " + text, Integer.toOctalString(x.word(i)), Integer.toOctalString(due[i]));
        }
    }

    private static void fails(String text, int fault, int line) {
        NovaDesk x = new NovaDesk();
        Check.same("assemble of " + text, Desk.assemble(x, text), -1);
        Check.same("fault of " + text, x.fault(0), fault);
        Check.same("line of " + text, x.fault(1), line);
    }

    private static void text() {
        NovaDesk x = new NovaDesk();
        Check.same("feed", x.feed(0x3120200A, 0x0A0A0A0A, 0x0A0A0A0A, 0x0A0A0A0A, 0x0A0A0A32), 20);
        Check.same("feed again", x.feed(0, 0, 0, 0, 0), 40);
        Check.refuses("end(41)", () -> x.end(41));
        Check.refuses("end(-1)", () -> x.end(-1));
        x.end(40);
        x.end(20);
        Check.refuses("end(21)", () -> x.end(21));
        Check.same("highest byte first", x.assemble(), 2);
        Check.same("first", x.word(0), 1);
        Check.same("second", x.word(1), 2);
        Check.refuses("the text is empty then", () -> x.end(1));
        Check.same("an empty text", x.assemble(), 0);
        Desk.type(x, "8");
        Check.same("a fault", x.assemble(), -1);
        Check.refuses("the text is empty then, too", () -> x.end(1));
        for (int i = 1; i <= 300; i++) {
            Check.same("feed " + i, x.feed(-1, -1, -1, -1, -1), 20 * i);
        }
        Check.isFull("feed beyond 6000", () -> x.feed(0, 0, 0, 0, 0));
        x.end(6000);
        x.end(5981);
        Check.isFull("feed beyond 6000 by one", () -> x.feed(0, 0, 0, 0, 0));
        x.end(5980);
        Check.same("feed to 6000", x.feed(0, 0, 0, 0, 0), 6000);
        Check.same("characters of all bits are no items", x.assemble(), -1);
        Check.same("fault", x.fault(0), 1);
        Check.refuses("fault(-1)", () -> x.fault(-1));
        Check.refuses("fault(2)", () -> x.fault(2));
    }

    private static void lines() {
        makes("1\n2\n3", 1, 2, 3);
        makes("1\n2\n3\n", 1, 2, 3);
        makes("\n\n1\n \t\n;x?8\n2;?\n3 ; 4\n;\n", 1, 2, 3);
        makes("A:\nB: C:D :\n A ;\nE:1", 0, 1);
        makes("");
        makes(";");
    }

    private static void items() {
        makes("0\n7\n177777\n000000000000000000000012", 0, 7, 65535, 10);
        makes("\tMOVZL\t#\t1 ,\t2 , SKP ", 0x8000 | 1 << 13 | 2 << 11 | 2 << 8 | 1 << 6 | 1 << 4 | 8 | 1);
        makes("MOVZL#1,2,SKP", 0x8000 | 1 << 13 | 2 << 11 | 2 << 8 | 1 << 6 | 1 << 4 | 8 | 1);
        makes("LDA 3,@5", 0x2000 | 3 << 11 | 0x400 | 5);
        makes("A1.Z09: ..:.A: A1.Z09+1\n..\n.A", 1, 0, 0);
        makes("JMP+5\nJMP@5\nJMP-1,2", 5, 0x405, 0x2FF);
    }

    private static void expressions() {
        makes("+5\n-5\n1+2-4\n-1+2\n5 - . + 2", 5, 65531, 65535, 1, 3);
        makes("177777+1\n177777+177777\n-177777", 0, 65534, 1);
        makes("A: B-A\n.\nB: .-A+B", 2, 1, 4);
        makes(".LOC 0\nX: MOV X+1,X+1+1,X+3", 0x8000 | 1 << 13 | 2 << 11 | 2 << 8 | 3);
    }

    private static void names() {
        makes("TTI\nTTO\nRTC\nCPU\nSKP\nSZC\nSNC\nSZR\nSNR\nSEZ\nSBN", 8, 9, 10, 63, 1, 2, 3, 4, 5, 6, 7);
        makes("JMPX: MOVZLX: MOVLZ: NIOZ: DIAL: SKPB: HALTS: INTENS: READ: LDAS: .LOCS: MOVZLX", 0);
    }

    private static void locations() {
        NovaDesk x = new NovaDesk();
        Check.same("words alone are counted", Desk.assemble(x,
                "1\nA: .LOC 100\nB: 2\n.BLK B-76\nC: 3\n.LOC .+10\nD: 4\n.LOC 77777\n5\nE:"), 5);
        Check.same("A", Desk.label(x, "A"), 1);
        Check.same("B", Desk.label(x, "B"), 64);
        Check.same("C", Desk.label(x, "C"), 67);
        Check.same("D", Desk.label(x, "D"), 76);
        Check.same("E", Desk.label(x, "E"), 32768);
        int[][] due = {{0, 1}, {64, 2}, {65, 0}, {67, 3}, {76, 4}, {32767, 5}};
        for (int[] d : due) {
            Check.same("word " + d[0], x.word(d[0]), d[1]);
        }
        Check.same("one place twice", Desk.assemble(x, "1\n2\n.LOC 0\n3"), 3);
        Check.same("the later one", x.word(0), 3);
        Check.same("a .BLK leaves words as they are", Desk.assemble(x, ".BLK 1"), 0);
        Check.same("it is there", x.word(0), 3);
        Check.same("a .BLK of all", Desk.assemble(x, ".BLK 100000\n.BLK 0"), 0);
        Check.same("a .LOC behind it", Desk.assemble(x, ".BLK 100000\n.LOC 3\n7"), 1);
        Check.same("its word", x.word(3), 7);
    }

    private static void addresses() {
        makes("JMP 377\nJSR 0\nISZ @12\nDSZ 1,0", 0xFF, 0x800, 0x1000 | 0x400 | 10, 0x1801);
        makes("LDA 0,177\nSTA 3,@177,1\nLDA 1,177600,2\nSTA 2,@177777,3",
                0x207F, 0x5800 | 0x57F, 0x2A80, 0x5000 | 0x7FF);
        makes("LDA 0,377,0\nLDA 0,0,1\nLDA 0,-1,1", 0x20FF, 0x2100, 0x21FF);
        NovaDesk x = new NovaDesk();
        Check.same("near", Desk.assemble(x, ".LOC 1000\nJMP 1177\nJMP .\nJMP .-200\nLDA 2,@.+177\n"
                + ".LOC 77777\nJMP .+1\n.LOC 450\nJMP 400\nJMP 377"), 7);
        int[][] due = {{512, 0x17F}, {513, 0x100}, {514, 0x180}, {515, 0x3000 | 0x57F}, {32767, 0x101},
            {296, 0x1D8}, {297, 0xFF}};
        for (int[] d : due) {
            Check.same("near word " + d[0], x.word(d[0]), d[1]);
        }
    }

    private static void arithmetic() {
        String[] functions = {"COM", "NEG", "MOV", "INC", "ADC", "SUB", "ADD", "AND"};
        String[] bases = {"", "Z", "O", "C"};
        String[] shifts = {"", "L", "R", "S"};
        String[] skips = {"", "SKP", "SZC", "SNC", "SZR", "SNR", "SEZ", "SBN"};
        NovaDesk x = new NovaDesk();
        for (int f = 0; f < 8; f++) {
            for (int b = 0; b < 4; b++) {
                for (int s = 0; s < 4; s++) {
                    int skip = (f + b + s) % 8;
                    int load = (f + s) % 2;
                    String text = functions[f] + bases[b] + shifts[s] + (load == 1 ? "#" : "") + " " + b + "," + s
                            + (skip == 0 ? "" : "," + skips[skip]);
                    x = s == 0 && b == 0 ? new NovaDesk() : x;
                    Check.same("assemble of " + text, Desk.assemble(x, text), 1);
                    Check.same("word of " + text, x.word(0),
                            0x8000 | b << 13 | s << 11 | f << 8 | s << 6 | b << 4 | load << 3 | skip);
                }
            }
        }
        makes("MOV 0,0,0\nMOV 0,0,7", 0x8200, 0x8207);
    }

    private static void devices() {
        makes("NIO 0\nNIOS TTI\nNIOC 77\nNIOP 1", 0x6000, 0x6048, 0x60BF, 0x60C1);
        makes("DIA 1,2\nDOAS 0,TTO\nDIBC 3,77\nDOBP 2,0\nDIC 0,1\nDOC 3,76", 0x6000 | 1 << 11 | 1 << 8 | 2,
                0x6000 | 2 << 8 | 1 << 6 | 9, 0x6000 | 3 << 11 | 3 << 8 | 2 << 6 | 63,
                0x6000 | 2 << 11 | 4 << 8 | 3 << 6, 0x6501, 0x6000 | 3 << 11 | 6 << 8 | 62);
        makes("SKPBN 0\nSKPBZ TTO\nSKPDN RTC\nSKPDZ CPU", 0x6700, 0x6749, 0x678A, 0x67FF);
        makes("INTEN\nINTDS\nHALT\nIORST\nREADS 0\nINTA 3\nMSKO 2", 0x607F, 0x60BF, 0x663F, 0x653F, 0x613F,
                0x633F | 3 << 11, 0x643F | 2 << 11);
    }

    private static void noItems() {
        String[] bad = {"8", "18", "1A", "1.", "200000", "1000000000000000000000", "ABCDEFG", "?", "a", "=", "\r",
            "\0", "\u00ff", "JMP ?", "X: ?", "X?", "X:Y?", "JMP 5?", "JMP 5,?", "LDA 0 ?", "MOV ?", "MOV # ?",
            "5 ?", "5+?", "HALT ?", "JMP @?", ".LOC ?", ".LOC 5 ?", "1_2"};
        for (String text : bad) {
            fails("1\n" + text, 1, 2);
        }
    }

    private static void wrongItems() {
        String[] wrong = {"@5", ",", "#", ":", "X::", "X:@", "JMP", "JMP ,", "JMP @", "JMP @@5", "JMP #5", "JMP 5,",
            "JMP 5 6", "JMP 5,1,1", "JMP 5@", "JMP 5:", "LDA", "LDA 0", "LDA 0,", "LDA 0 5", "LDA @0,5", "LDA 0,5,@1",
            "LDA 0,5,1,1", "LDA #0,5", "MOV", "MOV#", "MOV##0,0", "MOV 0", "MOV 0#,0", "MOV 0,@0", "MOV 0,0,",
            "MOV 0,0,0,0", "MOV 0,0#", "NIO", "NIO 0,0", "NIO @0", "DIA 0", "DIA 0,0,0", "DIA #0,0", "SKPBN",
            "SKPBN 0,0", "INTEN 0", "HALT ,", "IORST @", "READS", "READS 0,0", "+", "-", "++1", "--1", "+-1", "1+",
            "1++1", "1 1", "1,1", "1@", "5:", "TTI TTO", ".LOC", ".LOC 1,1", ".LOC @1", ".BLK", ".BLK 1 1", ".BLK #1"};
        for (String text : wrong) {
            fails("1\n\n" + text + "\n1", 2, 3);
        }
    }

    private static void namesWithoutNumbers() {
        String[] unknown = {"X", "JMP X", "JMP Y+X", "JMP 5,X", "LDA X,5", "LDA 0,JMP", "MOV X,X", "MOV 0,0,X",
            "MOVX 0,0", "JMPS 5", "NIO HALT", "DIA 0,X", "FOO 5", "-X", "1+X", "X ,", "MOV X ?", "..", ".LOC X",
            ".BLK X", ".LOC Y", ".BLK Y-Z", "X Y"};
        for (String text : unknown) {
            fails("1\n" + text + "\nY:", 3, 2);
        }
    }

    private static void wrongLabels() {
        String[] wrong = {"A:", "A:A:", ".:", "TTI:", "TTO:", "RTC:", "CPU:", "SKP:", "SZC:", "SNC:", "SZR:", "SNR:",
            "SEZ:", "SBN:", ".LOC:", ".BLK:", "JMP:", "JSR:", "ISZ:", "DSZ:", "LDA:", "STA:", "COM:", "NEGZ:", "MOVL:",
            "INCOR:", "ADCCS:", "SUBZL:", "ADDS:", "ANDC:", "NIO:", "NIOS:", "NIOC:", "NIOP:", "DIA:", "DOAS:",
            "DIBC:", "DOBP:", "DIC:", "DOC:", "SKPBN:", "SKPBZ:", "SKPDN:", "SKPDZ:", "INTEN:", "INTDS:", "HALT:",
            "IORST:", "READS:", "INTA:", "MSKO:", "B:C:B:", "B: JMP: ?", "HALT:@"};
        for (String text : wrong) {
            fails("A: 1\n" + text, 4, 2);
        }
    }

    private static void beyondBounds() {
        String[] beyond = {"LDA 4,5", "STA -1,5", "LDA 0,5,4", "JMP 5,4", "JMP 1000,4", "LDA 4,1000", "MOV 4,0",
            "MOV 0,4", "MOV 0,0,10", "NIO 100", "SKPBN 100", "DIA 4,0", "DIA 0,100", "READS 4", "INTA 4", "MSKO 4",
            ".LOC 100000", ".LOC -1"};
        for (String text : beyond) {
            fails("1\n" + text, 5, 2);
        }
    }

    private static void wrongAddresses() {
        String[] wrong = {"LDA 0,400", "LDA 0,1000", "JMP 400,0", "JMP 177777,0", "JMP 200,1", "JMP 177577,1",
            "JMP 200,2", "JMP 200,3", "STA 0,@177577,3", "JMP -1", "JMP 177777", "ISZ 100000"};
        for (String text : wrong) {
            fails("1\n" + text, 6, 2);
        }
        fails(".LOC 1000\nJMP .+200", 6, 2);
        fails(".LOC 1000\nJMP .-201", 6, 2);
        fails(".LOC 77777\nJMP .+200", 6, 2);
        fails(".LOC 200\nJMP 400", 6, 2);
        NovaDesk x = new NovaDesk();
        Check.same("as near as may be", Desk.assemble(x, ".LOC 201\nJMP 400"), 1);
        Check.same("its word", x.word(129), 0x17F);
    }

    private static void beyondMemory() {
        fails(".LOC 77777\n1\n\n1", 7, 4);
        fails(".LOC 77777\n.BLK 1\nA: 1", 7, 3);
        fails("1\n.BLK 100000", 7, 2);
        fails(".LOC 77777\n.BLK 2", 7, 2);
        fails(".BLK -1", 7, 1);
        fails(".BLK 100000\n.BLK 1", 7, 2);
        fails(".BLK 100000\nJMP ?", 1, 2);
        fails(".BLK 100000\nJMP X ?", 7, 2);
        fails(".BLK 100000\n@", 2, 2);
    }

    private static void order() {
        fails("JMP X\nY: Y:", 4, 2);
        fails("JMP 5 ?\n@", 2, 2);
        fails("JMP 1000\nJMP X", 6, 1);
        fails("LDA 4,X", 3, 1);
        fails("LDA 4,5 5", 2, 1);
        fails("LDA 4,1000,0", 5, 1);
        fails("LDA 0,1000,5", 5, 1);
        fails("5 ?\nX ?", 1, 2);
        fails("+?\n.LOC X", 3, 2);
        fails("X 5\n.LOC 100000", 5, 2);
        fails("JMP X ?", 3, 1);
        fails("MOV X,,", 3, 1);
        fails("MOV ,X", 2, 1);
        fails(".LOC 100000 ?", 1, 1);
        fails(".LOC X ?", 3, 1);
        fails("1A\nX:X:", 1, 1);
        fails("5 1A\nX:X:", 4, 2);
        fails("JMP 1A\nX:X:", 1, 1);
        fails("JMP 5 1A\nX:X:", 4, 2);
    }

    private static void nothingIsPut() {
        NovaDesk x = new NovaDesk();
        x.put(0, 77);
        Check.same("a fault in the last line", Desk.assemble(x, "1\n2\n3\nJMP X"), -1);
        Check.same("the first word stays", x.word(0), 77);
        Check.same("the second word stays", x.word(1), 0);
        Check.same("fault", x.fault(0), 3);
        Check.same("then without one", Desk.assemble(x, "5"), 1);
        Check.same("no fault then", x.fault(0), 0);
        Check.same("no line then", x.fault(1), 0);
        Check.same("the word", x.word(0), 5);
    }

    private static void labels() {
        NovaDesk x = new NovaDesk();
        Check.same("before any", Desk.label(x, "A"), -1);
        Check.same("none at all", x.label(0, 0), -1);
        Desk.assemble(x, ".LOC 5\nA: ABCD: 1\nABCDE: ABCDEF: .A1: 2");
        Check.same("A", Desk.label(x, "A"), 5);
        Check.same("ABCD", Desk.label(x, "ABCD"), 5);
        Check.same("ABCDE", Desk.label(x, "ABCDE"), 6);
        Check.same("ABCDEF", Desk.label(x, "ABCDEF"), 6);
        Check.same(".A1", Desk.label(x, ".A1"), 6);
        Check.same("ABC", Desk.label(x, "ABC"), -1);
        Check.same("TTI", Desk.label(x, "TTI"), -1);
        Check.same("more letters", x.label(Desk.packed("ABCD", 0), Desk.packed("EFG", 0)), -1);
        Check.same("none at all", x.label(0, 0), -1);
        Desk.assemble(x, "B: A: JMP X");
        Check.same("a text with a fault changes none", Desk.label(x, "A"), 5);
        Check.same("and has none", Desk.label(x, "B"), -1);
        Desk.assemble(x, "1\nB: B");
        Check.same("the latest text's", Desk.label(x, "B"), 1);
        Check.same("no former one's", Desk.label(x, "A"), -1);
        Check.same("a former label is no name", Desk.assemble(x, "A"), -1);
        Check.same("fault", x.fault(0), 3);
        Desk.assemble(x, "");
        Check.same("an empty text has none", Desk.label(x, "B"), -1);
    }

    private static void mostLabels() {
        StringBuilder text = new StringBuilder();
        for (int i = 0; i < 200; i++) {
            text.append("L").append(i).append(": ").append(i % 10 == 9 ? "1\n" : "");
        }
        NovaDesk x = new NovaDesk();
        Check.same("200 labels", Desk.assemble(x, text.toString()), 20);
        Check.same("the last of them", Desk.label(x, "L199"), 19);
        fails(text + "\nX:", 7, 22);
        fails(text + "\nL5:", 4, 22);
        fails(text + "\nX: 5 ?\n@", 7, 22);
    }

    private static void mostWords() {
        NovaDesk x = new NovaDesk();
        Check.same("as many words as can be", Desk.assemble(x, "5\n".repeat(2999) + "6\n"), 3000);
        Check.same("the last of them", x.word(2999), 6);
        Check.same("none behind", x.word(3000), 0);
        fails("\n".repeat(5999) + "?", 1, 6000);
    }
}
