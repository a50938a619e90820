/** Promises 15 and 16: every fault, its line, and which one counts when there are several. */
final class FaultTest {
    private static final String FIRST = "First, line by line: labels (4, 7), the item behind them (2 if no statement begins so:"
            + " but names, numbers, + and -), and one more behind a name (1); of .LOC and .BLK all (names must stand before them"
            + " then); 7.";
    private static final String THEN = "Then again, line by line, all statements: 1, 2, 3 as they come, then 5 from the left, then"
            + " 6.";

    public static void main(String[] args) {
        noItems();
        wrongItems();
        noNumbers();
        wrongLabels();
        labelsThatMayBe();
        wrongAddresses();
        beyondMemory();
        mostLabels();
        labelsFirst();
        itemsBehindLabels();
        oneMoreBehindAName();
        locationsFirst();
        memoryLastOfFirst();
        asTheyCome();
        boundsThenAddresses();
        twice();
        firstFaultCounts();
        nothingIsPut();
        faultAnswers();
        Check.finish();
    }

    private static void noItems() {
        Check.promise(15, "FAULTS: 1 an item that is none.");
        String[] bad = {"8", "18", "1A", "1.", "200000", "ABCDEFG", "?", "a", "=", "\r", "\0", "\u00ff", "JMP ?", "X: ?", "X?",
            "X:Y?", "JMP 5?", "JMP 5,?", "LDA 0 ?", "MOV ?", "MOV # ?", "5 ?", "5+?", "HALT ?", "JMP @?", ".LOC ?", ".LOC 5 ?",
            ".BLK ?", ".BLK 5 ?", "1_2", "LDA 0,5,1 ?", "MOV 0,0,1 8", "NIO 1 99", "DIA 1,a", "-?", "+8", "1+9", "X?:"};
        for (String text : bad) {
            Assembling.fails("1\n" + text, 1, 2);
        }
    }

    private static void wrongItems() {
        Check.promise(15, "2 another item should stand there, or some at the line's end, or none.");
        String[] another = {"@5", ",", "#", ":", "X::", "X:@", "JMP ,", "JMP @@5", "JMP #5", "JMP 5 6", "JMP 5,1,1", "JMP 5@",
            "JMP 5:", "LDA ,5", "LDA 0 5", "LDA 0@5", "LDA @0,5", "LDA 0,5,@1", "LDA 0,5 1", "LDA #0,5", "MOV##0,0",
            "MOV 0#,0", "MOV @0,0", "MOV 0,@0", "MOV 0 0", "MOV 0,0 1", "NIO @0", "NIO #0", "NIO ,0", "DIA #0,0", "DIA 0 0",
            "DIA 0,@0", "SKPBN @0", "SKPBN ,", "READS @0", "++1", "--1", "+-1", "1++1", "1 1", "1@", "5:", "TTI TTO", ".LOC @1",
            ".LOC ,", ".BLK #1", "-,", "+@"};
        String[] some = {"JMP", "JSR", "ISZ", "DSZ", "JMP @", "JMP 5,", "JMP -", "LDA", "LDA 0", "LDA 0,", "LDA 0,@", "LDA 0,5,",
            "STA", "STA 0", "MOV", "MOV#", "MOV 0", "MOV 0,", "MOV 0,0,", "NIO", "NIOS", "DIA", "DIA 0", "DIA 0,", "DOC 3,",
            "SKPBN", "SKPDZ", "READS", "INTA", "MSKO", "+", "-", "1+", "1-", ".LOC", ".LOC -", ".LOC 1+", ".BLK", ".BLK +"};
        String[] none = {"INTEN 0", "INTDS @", "HALT ,", "HALT HALT", "HALT 0", "IORST @", "IORST 0", "JMP 5,1,", "JMP 5,1 1",
            "LDA 0,5,1,1", "MOV 0,0,0,0", "MOV 0,0#", "MOV 0,0,1#", "NIO 0,0", "DIA 0,0,0", "SKPBN 0,0", "READS 0,0", "MSKO 0 0",
            "1,1", "1,", ".LOC 1,1", ".LOC 1 1", ".BLK 1 1", ".BLK 1:"};
        for (String[] texts : new String[][] {another, some, none}) {
            for (String text : texts) {
                Assembling.fails("1\n\n" + text + "\n1", 2, 3);
                Assembling.fails(text, 2, 1);
                Assembling.fails("\n" + text + " ;", 2, 2);
            }
        }
    }

    private static void noNumbers() {
        Check.promise(15, "3 a name without a number.");
        String[] unknown = {"X", "JMP X", "JMP Y+X", "JMP 5,X", "LDA X,5", "LDA 0,JMP", "LDA 0,5,X", "MOV X,X", "MOV 0,X",
            "MOV 0,0,X", "MOV 0,0,S", "MOVX 0,0", "JMPS 5", "NIO HALT", "NIO X", "DIA X,0", "DIA 0,X", "SKPBN X", "READS X",
            "FOO 5", "-X", "1+X", "X ,", "..", ".LOC X", ".BLK X", "X Y", "Y+.LOC", ".LOC MOV", "1-HALT"};
        for (String text : unknown) {
            Assembling.fails("1\n" + text + "\nY:", 3, 2);
        }
    }

    private static void wrongLabels() {
        Check.promise(15, "4 a label that is there already, or is '.', one of TTI to SBN, or a statement's name (with all its"
                + " letters).");
        String[] wrong = {"A:", "A:A:", "B:B:", "B:C:B:", ".:", "TTI:", "TTO:", "RTC:", "CPU:", "SKP:", "SZC:", "SNC:", "SZR:",
            "SNR:", "SEZ:", "SBN:", ".LOC:", ".BLK:", "JMP:", "JSR:", "ISZ:", "DSZ:", "LDA:", "STA:", "SKPBN:", "SKPBZ:", "SKPDN:",
            "SKPDZ:", "INTEN:", "INTDS:", "HALT:", "IORST:", "READS:", "INTA:", "MSKO:"};
        for (String text : wrong) {
            Assembling.fails("A: 1\n" + text, 4, 2);
        }
        for (String function : new String[] {"COM", "NEG", "MOV", "INC", "ADC", "SUB", "ADD", "AND"}) {
            for (String base : new String[] {"", "Z", "O", "C"}) {
                for (String shift : new String[] {"", "L", "R", "S"}) {
                    Assembling.fails("\n" + function + base + shift + ": 1", 4, 2);
                }
            }
        }
        for (String what : new String[] {"NIO", "DIA", "DOA", "DIB", "DOB", "DIC", "DOC"}) {
            for (String control : new String[] {"", "S", "C", "P"}) {
                Assembling.fails("\n" + what + control + ": 1", 4, 2);
            }
        }
    }

    private static void labelsThatMayBe() {
        Check.promise(15, "4 a label that is there already, or is '.', one of TTI to SBN, or a statement's name (with all its"
                + " letters).");
        String[] right = {"JMPX", "MOVZLX", "MOVLZ", "MOVZZ", "MOVP", "NIOZ", "NIOSS", "DIAL", "SKPB", "HALTS", "INTENS", "READ",
            "READSS", "LDAS", "STAZ", ".LOCS", ".LO", "..", ".A", "TTIX", "TT", "SKPS", "S", "A", "MO", "DI", "DID", "Z"};
        for (String name : right) {
            NovaDesk x = new NovaDesk();
            Assembling.makesIn(x, "1\n" + name + ": " + name, 2);
            Check.same("label " + name, Desk.label(x, name), 1);
            Check.same("word by " + name, x.word(1), 1);
        }
    }

    private static void wrongAddresses() {
        Check.promise(15, "6 an address that must not be.");
        String[] wrong = {"LDA 0,400", "LDA 0,1000", "JMP 400,0", "JMP 177777,0", "JMP 200,1", "JMP 177577,1", "JMP 200,2",
            "JMP 200,3", "STA 0,@177577,3", "JMP -1", "JMP 177777", "ISZ 100000", "DSZ @400"};
        for (String text : wrong) {
            Assembling.fails("1\n" + text, 6, 2);
        }
    }

    private static void beyondMemory() {
        Check.promise(15, "7 a word, or the end of a .BLK, beyond memory (32768 words), or a 201st label.");
        Assembling.makesAt(".LOC 77777\n1", 32767, 1);
        Assembling.fails(".LOC 77777\n1\n\n1", 7, 4);
        Assembling.fails(".LOC 77776\n1\n1\nJMP 0", 7, 4);
        Assembling.fails(".LOC 77777\n.BLK 1\nA: 1", 7, 3);
        Assembling.makesAt(".LOC 77777\n.BLK 1\nA: .LOC 2\nA", 2, 32768);
        Assembling.fails(".LOC 77777\n.BLK 2", 7, 2);
        Assembling.makes(".BLK 100000");
        Assembling.fails(".BLK 100001", 7, 1);
        Assembling.fails("1\n.BLK 100000", 7, 2);
        Assembling.fails(".BLK -1", 7, 1);
        Assembling.fails(".BLK 177777", 7, 1);
        Assembling.fails(".BLK 100000\n.BLK 1", 7, 2);
        Assembling.fails(".LOC 77777\n.BLK 177777", 7, 2);
        Assembling.makesAt(".BLK 100000\nB:\n.BLK 0\nC: .LOC 0\nB+C", 0, 0);
    }

    private static String labels(int n) {
        StringBuilder text = new StringBuilder();
        for (int i = 0; i < n; i++) {
            text.append("L").append(i).append(": ").append(i % 10 == 9 ? "1\n" : "");
        }
        return text.toString();
    }

    private static void mostLabels() {
        Check.promise(15, "7 a word, or the end of a .BLK, beyond memory (32768 words), or a 201st label.");
        NovaDesk x = new NovaDesk();
        Assembling.makesIn(x, labels(200), 20);
        Check.same("the first of them", Desk.label(x, "L0"), 0);
        Check.same("the last of them", Desk.label(x, "L199"), 19);
        Assembling.makesIn(x, labels(199), 19);
        Assembling.makesIn(x, labels(200) + "L0-L199+24", 21);
        Check.same("a word by them", x.word(20), 1);
        Assembling.fails(labels(200) + "\nX:", 7, 22);
        Assembling.fails(labels(201), 7, 21);
        Assembling.fails(labels(200) + "X: Y:", 7, 21);
        Check.same("200 labels of the latest text, whatever others had", Desk.assemble(x, labels(200)), 20);
    }

    private static void labelsFirst() {
        Check.promise(15, FIRST);
        Assembling.fails("JMP X\nY: Y:", 4, 2);
        Assembling.fails("Y: Y: ?", 4, 1);
        Assembling.fails("JMP: @", 4, 1);
        Assembling.fails("HALT:@", 4, 1);
        Assembling.fails("B: JMP: ?", 4, 1);
        Assembling.fails("B: C? B:", 1, 1);
        Assembling.fails(labels(200) + "\nL5:", 4, 22);
        Assembling.fails(labels(200) + "\nJMP:", 4, 22);
        Assembling.fails(labels(200) + "\nX: ?", 7, 22);
        Assembling.fails(labels(200) + "\nX: @", 7, 22);
        Assembling.fails(labels(200) + "\nX: X:", 7, 22);
        Assembling.fails("Y: .LOC 100000\nY:", 5, 1);
    }

    private static void itemsBehindLabels() {
        Check.promise(15, FIRST);
        for (String sign : new String[] {",", "@", "#", ":"}) {
            Assembling.fails("JMP X\n" + sign, 2, 2);
            Assembling.fails("JMP X\nA: " + sign + "5", 2, 2);
        }
        Assembling.fails("JMP X\n?", 1, 2);
        Assembling.fails("JMP X\nA: B: 8", 1, 2);
        for (String begin : new String[] {"5 ,", "+ ,", "- ,", "FOO ,", "JMP ,"}) {
            Assembling.fails(begin + "\n@", 2, 2);
            Assembling.fails(begin + "\nY: Y:", 4, 2);
        }
    }

    private static void oneMoreBehindAName() {
        Check.promise(15, FIRST);
        Assembling.fails("JMP ?\nY: Y:", 1, 1);
        Assembling.fails("X ?\nY: Y:", 1, 1);
        Assembling.fails("A: X ?\nY: Y:", 1, 1);
        Assembling.fails("HALT ?\nY: Y:", 1, 1);
        Assembling.fails("JMP 1A\nY: Y:", 1, 1);
        Assembling.fails("5 ?\nY: Y:", 4, 2);
        Assembling.fails("+ ?\nY: Y:", 4, 2);
        Assembling.fails("- ?\nY: Y:", 4, 2);
        Assembling.fails("JMP 5 ?\nY: Y:", 4, 2);
        Assembling.fails("JMP @ ?\nY: Y:", 4, 2);
        Assembling.fails("5 1A\nY: Y:", 4, 2);
        Assembling.fails("1A\nY: Y:", 1, 1);
        Assembling.fails("JMP ,\nY: Y:", 4, 2);
        Assembling.fails("5 ?\nX ?", 1, 2);
    }

    private static void locationsFirst() {
        Check.promise(15, FIRST);
        Assembling.fails(".LOC X\nX:", 3, 1);
        Assembling.fails(".BLK X\nX:", 3, 1);
        Assembling.fails(".LOC 5+X\nX:\nY: Y:", 3, 1);
        Assembling.fails("JMP ,\n.LOC X\nX:", 3, 2);
        Assembling.fails("JMP ,\n.BLK 1 1", 2, 2);
        Assembling.fails("JMP ,\n.LOC", 2, 2);
        Assembling.fails("JMP ,\n.LOC 1 ?", 1, 2);
        Assembling.fails("JMP ,\n.LOC 100000", 5, 2);
        Assembling.fails("JMP ,\n.BLK 100001", 7, 2);
        Assembling.fails(".LOC 100000 ?", 1, 1);
        Assembling.fails(".LOC 100000,", 2, 1);
        Assembling.fails(".LOC 100000+X", 3, 1);
        Assembling.fails(".LOC X ?", 3, 1);
        Assembling.fails(".LOC X,", 3, 1);
        Assembling.fails(".BLK 100001 ?", 1, 1);
        Assembling.fails(".BLK 100001+X", 3, 1);
        Assembling.fails("+?\n.LOC X", 3, 2);
        Assembling.makesAt("X: .LOC X+5\nY: .BLK Y-2\n7", 8, 7);
        Assembling.makesAt("1\nX:\n.LOC X+X\n7", 0, 1, 2, 7);
    }

    private static void memoryLastOfFirst() {
        Check.promise(15, FIRST);
        Assembling.fails(".BLK 100000\nJMP ?", 1, 2);
        Assembling.fails(".BLK 100000\n@", 2, 2);
        Assembling.fails(".BLK 100000\nJMP: 5", 4, 2);
        Assembling.fails(".BLK 100000\nJMP X ?", 7, 2);
        Assembling.fails(".BLK 100000\nJMP ,", 7, 2);
        Assembling.fails(".BLK 100000\nMOV 4,4", 7, 2);
        Assembling.fails("JMP ,\n.BLK 77777\n5", 7, 3);
        Assembling.fails("JMP ,\n.BLK 77777\n5\nY: Y:", 7, 3);
    }

    private static void asTheyCome() {
        Check.promise(15, THEN);
        Assembling.fails("LDA X,?", 3, 1);
        Assembling.fails("JMP X ?", 3, 1);
        Assembling.fails("MOV X ?", 3, 1);
        Assembling.fails("MOV X,,", 3, 1);
        Assembling.fails("MOV ,X", 2, 1);
        Assembling.fails("MOV 0 ,? X", 1, 1);
        Assembling.fails("MOV 0,0 X ?", 2, 1);
        Assembling.fails("MOV 0,X 0", 3, 1);
        Assembling.fails("LDA 0 X", 2, 1);
        Assembling.fails("5 , ?", 2, 1);
        Assembling.fails("5 + X ?", 3, 1);
        Assembling.fails("HALT X ?", 2, 1);
        Assembling.fails("1+X+?", 3, 1);
        Assembling.fails("X+X\nJMP 1 ?", 3, 1);
        Assembling.fails("JMP 1 ?\nX", 1, 1);
    }

    private static void boundsThenAddresses() {
        Check.promise(15, THEN);
        Assembling.fails("LDA 4,X", 3, 1);
        Assembling.fails("LDA 4,5 5", 2, 1);
        Assembling.fails("LDA 4,5,1 ?", 1, 1);
        Assembling.fails("LDA 4,1000", 5, 1);
        Assembling.fails("LDA 4,1000,0", 5, 1);
        Assembling.fails("LDA 0,1000,4", 5, 1);
        Assembling.fails("JMP 1000,4", 5, 1);
        Assembling.fails("JMP 1000,0", 6, 1);
        Assembling.fails("JMP 400,X", 3, 1);
        Assembling.fails("JMP 400,0 ?", 1, 1);
        Assembling.fails("MOV 4,4,10", 5, 1);
        Assembling.fails("JMP 1000\nMOV 4,4", 6, 1);
        Assembling.fails("MOV 4,4\nJMP 1000", 5, 1);
        Assembling.fails("JMP 1000\nJMP X", 6, 1);
    }

    private static void twice() {
        Check.promise(15, "The text is gone through twice.");
        Assembling.makes("JMP X\nX: JMP X\nLDA 0,Y,Y-2\nY:", 1, 1, 0x2000 | 1 << 8 | 3);
        Assembling.fails("JMP X,4\nJMP: 5", 4, 2);
        Assembling.fails("5 5\nX", 2, 1);
        Assembling.fails("JMP 1000\n5 5\nX\n\n\n.LOC 100000", 5, 6);
    }

    private static void firstFaultCounts() {
        Check.promise(15, "The first fault met so counts.");
        Assembling.fails("?\n@\nX:X:", 1, 1);
        Assembling.fails("@\n?\nX:X:", 2, 1);
        Assembling.fails("X\nLDA 4,5\n5 5", 3, 1);
        Assembling.fails("1\n5 5\nX\nLDA 4,5", 2, 2);
        Assembling.fails("1\nX\n5 5\n.BLK 100000", 7, 4);
        Assembling.fails("X 5\n.LOC 100000", 5, 2);
        Assembling.fails("X:\nX:\nX:", 4, 2);
    }

    private static void nothingIsPut() {
        Check.promise(15, "or, if something is wrong, -1, and nothing was put.");
        for (String last : new String[] {"JMP X", "?", "@", "A: A:", "MOV 4,4", "JMP 1000,0", ".BLK 100000", "5 5"}) {
            NovaDesk x = new NovaDesk();
            int[] before = {77, 88, 99, 11};
            for (int i = 0; i < before.length; i++) {
                x.put(i, before[i]);
            }
            Check.same("assemble", Desk.assemble(x, "1\n2\n3\n" + last), -1);
            for (int i = 0; i < before.length; i++) {
                Check.same("word " + i + " by " + last, x.word(i), before[i]);
            }
            Check.same("nothing of it is put later", Desk.assemble(x, ""), 0);
            Check.same("word 0", x.word(0), 77);
            Check.same("the next text is", Desk.assemble(x, "5"), 1);
            Check.same("its word", x.word(0), 5);
            Check.same("none of the former", x.word(1), 88);
        }
    }

    private static void faultAnswers() {
        Check.promise(16, "Of the latest assemble(): the fault's number (what = 0), its line, from 1 on (1); 0 without one.");
        NovaDesk x = new NovaDesk();
        is(x, "before any", 0, 0);
        Desk.assemble(x, "?");
        is(x, "in the first line", 1, 1);
        Desk.assemble(x, "\n\n5 5\n");
        is(x, "of the latest", 2, 3);
        x.feed(0, 0, 0, 0, 0);
        x.end(0);
        x.run(1);
        is(x, "other calls leave it", 2, 3);
        Desk.assemble(x, "5");
        is(x, "without one", 0, 0);
        Desk.assemble(x, "\n".repeat(5998) + "A");
        is(x, "in a late line", 3, 5999);
        Desk.assemble(x, "");
        is(x, "an empty text is without one", 0, 0);
        String[] each = {"?", "@", "X", "X:X:", "MOV 4,4", "JMP 400", ".BLK 100001"};
        for (int i = 0; i < each.length; i++) {
            Desk.assemble(x, ";\n" + each[i]);
            is(x, each[i], i + 1, 2);
        }
    }

    private static void is(NovaDesk x, String when, int fault, int line) {
        Check.same(when + ": fault", x.fault(0), fault);
        Check.same(when + ": line", x.fault(1), line);
    }
}
