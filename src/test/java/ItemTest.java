/** Promise 15: lines, items, labels before statements, expressions and the names that have numbers. */
final class ItemTest {
    private static final String ITEMS = "ITEMS are names (first one of A to Z or '.', then such or 0 to 9; at most 6), numbers"
            + " (digits 0 to 7, below 65536; in this text all numbers are to the base 8), and each of + - , @ # : alone;";

    public static void main(String[] args) {
        lines();
        comments();
        names();
        longNames();
        numbers();
        longNumbers();
        everyCharacter();
        charactersOfNames();
        blanks();
        blanksThatMust();
        labelsOfLines();
        expressions();
        moduloWords();
        here();
        namesWithNumbers();
        Check.finish();
    }

    private static void lines() {
        Check.promise(15, "LINES end with 10 (the last one may lack it).");
        Assembling.makes("1\n2\n3", 1, 2, 3);
        Assembling.makes("1\n2\n3\n", 1, 2, 3);
        Assembling.makes("\n\n1\n \n\t\n2\n\n\n3\n\n", 1, 2, 3);
        Assembling.makes("");
        Assembling.makes("\n");
        Assembling.makes(" ");
        Assembling.fails("1\r\n2", 1, 1);
        Assembling.fails("1\n\n\n?", 1, 4);
        Assembling.fails("1\n\n\n?\n\n", 1, 4);
        Assembling.fails("1 2", 2, 1);
    }

    private static void comments() {
        Check.promise(15, "Behind ';' nothing counts.");
        Assembling.makes(";");
        Assembling.makes(";\n;x?8\n2;?\n3 ; 4\n4;;@\n;", 2, 3, 4);
        Assembling.makes("A:;B:\nA;A: A:", 0);
        Assembling.makes("1;\u0000\u00ff\u0080ABCDEFGH 99\n2", 1, 2);
        Assembling.makes("JMP 5;,1", 5);
        Assembling.fails(";;\nJMP;5", 2, 2);
        Assembling.fails("1;2\n8", 1, 2);
    }

    private static void names() {
        Check.promise(15, ITEMS);
        for (String name : new String[] {"A", "Z", "..", "A0", "Z9", ".0", "A.", "ABCDEF", "Z00009", "......", "A1.B2."}) {
            NovaDesk x = new NovaDesk();
            Assembling.makesIn(x, "1\n" + name + ": " + name + "+1", 2);
            Check.same("label " + name, Desk.label(x, name), 1);
            Check.same("word by " + name, x.word(1), 2);
        }
        Assembling.makes("ABCDE: 1\nABCDEF: 2\nABCDE\nABCDEF", 1, 2, 0, 1);
        Assembling.fails("a: 1", 1, 1);
        Assembling.fails("Aa: 1", 1, 1);
        Assembling.fails("0A: 1", 1, 1);
        Assembling.fails("_: 1", 1, 1);
    }

    private static void longNames() {
        Check.promise(15, ITEMS);
        Assembling.makes("1\nABCDEF: ABCDEF", 1, 1);
        Assembling.fails("ABCDEFG: 1", 1, 1);
        Assembling.fails("ABCDEF: 1\nABCDEFG", 1, 2);
        Assembling.fails("ABCDEF: 1\nJMP ABCDEFG", 1, 2);
        Assembling.fails("......." + ": 1", 1, 1);
        Assembling.fails("A" + "0".repeat(300), 1, 1);
        Assembling.fails("ABCDEF0", 1, 1);
        Assembling.fails("ABCDEF.", 1, 1);
        Assembling.fails("1\nA" + "B".repeat(5997), 1, 2);
    }

    private static void numbers() {
        Check.promise(15, ITEMS);
        Assembling.makes("0\n7\n10\n77\n100\n77777\n100000\n177777", 0, 7, 8, 63, 64, 32767, 32768, 65535);
        Assembling.makes("000000000000000000000000000000000012\n00\n0177777", 10, 0, 65535);
        Assembling.fails("8", 1, 1);
        Assembling.fails("9", 1, 1);
        Assembling.fails("18", 1, 1);
        Assembling.fails("81", 1, 1);
        Assembling.fails("79", 1, 1);
        Assembling.fails("0x1", 1, 1);
    }

    private static void longNumbers() {
        Check.promise(15, ITEMS);
        Assembling.fails("200000", 1, 1);
        Assembling.fails("177778", 1, 1);
        Assembling.fails("0200000", 1, 1);
        Assembling.fails("777777", 1, 1);
        // Each of these is small when bits above the 31st, the 32nd, the 63rd or the 64th are lost.
        Assembling.fails("20000000001", 1, 1);
        Assembling.fails("40000000001", 1, 1);
        Assembling.fails("1000000000000000000001", 1, 1);
        Assembling.fails("2000000000000000000001", 1, 1);
        Assembling.fails("1" + "0".repeat(5999), 1, 1);
        Assembling.makes("0".repeat(5999) + "5", 5);
    }

    /** Each of the 256 characters alone on a line, by what it is. */
    private static void everyCharacter() {
        Check.promise(15, ITEMS);
        for (int c = 0; c < 256; c++) {
            String text = "1\n" + (char) c;
            if (c == 10 || c == 32 || c == 9 || c == ';') {
                Assembling.makes(text, 1);
            } else if (c >= '0' && c <= '7') {
                Assembling.makes(text, 1, c - '0');
            } else if (c == '.') {
                Assembling.makes(text, 1, 1);
            } else if (c >= 'A' && c <= 'Z') {
                Assembling.fails(text, 3, 2);
            } else {
                Assembling.fails(text, "+-,@#:".indexOf(c) >= 0 ? 2 : 1, 2);
            }
        }
    }

    /** Each of the 256 characters behind a letter: those of names go on with it. */
    private static void charactersOfNames() {
        Check.promise(15, ITEMS);
        for (int c = 0; c < 256; c++) {
            String text = "Q" + (char) c + ":";
            boolean goesOn = c >= 'A' && c <= 'Z' || c >= '0' && c <= '9' || c == '.';
            NovaDesk x = new NovaDesk();
            int put = Desk.assemble(x, text);
            if (goesOn || c == 32 || c == 9) {
                Check.same("assemble of " + text, put, 0);
                Check.same("label of " + text, Desk.label(x, goesOn ? "Q" + (char) c : "Q"), 0);
            } else {
                Check.same("assemble of " + text, put, -1);
                // Behind a line's end or a label ':' begins no statement; else Q is a name without a number.
                boolean isColonAlone = c == 10 || c == ':';
                boolean isItem = "+-,@#;".indexOf(c) >= 0;
                Check.same("fault of " + text, x.fault(0), isColonAlone ? 2 : isItem ? 3 : 1);
            }
        }
    }

    private static void blanks() {
        Check.promise(15, "blanks (32, 9) may stand before each, and must where a name or number would go on.");
        int word = 0x8000 | 1 << 13 | 2 << 11 | 2 << 8 | 1 << 6 | 1 << 4 | 8 | 1;
        Assembling.makes("A:MOVZL#1,2,SKP", word);
        Assembling.makes(" A : MOVZL # 1 , 2 , SKP ", word);
        Assembling.makes("\t\tA\t:\tMOVZL\t#\t1\t,\t2\t,\tSKP\t", word);
        Assembling.makes(" \t A \t : \t MOVZL \t # \t 1 \t , \t 2 \t , \t SKP \t ;", word);
        Assembling.makes("LDA 3,@5", 0x2000 | 3 << 11 | 0x400 | 5);
        Assembling.makes("LDA\t3 , @ 5 , 0", 0x2000 | 3 << 11 | 0x400 | 5);
        Assembling.makes(" - 1 + 2 - . ", 1);
        Assembling.makes("JMP+5\nJMP@5\nJMP-1,2", 5, 0x405, 0x2FF);
        for (char c : new char[] {0, 8, 11, 12, 13, 31, 33, 127, 160}) {
            Assembling.fails("1\nJMP" + c + "5", 1, 2);
        }
    }

    private static void blanksThatMust() {
        Check.promise(15, "blanks (32, 9) may stand before each, and must where a name or number would go on.");
        Assembling.makes("JMP 5", 5);
        Assembling.fails("JMP5", 3, 1);
        Assembling.makes("JMP5: JMP 5", 5);
        Assembling.makes("12", 10);
        Assembling.fails("1 2", 2, 1);
        Assembling.fails("1A", 1, 1);
        Assembling.fails("1.", 1, 1);
        Assembling.fails("JMP 1A", 1, 1);
        Assembling.fails("JMP .1", 3, 1);
        Assembling.fails("LDA0,5", 3, 1);
        Assembling.makes("LDA 0,TTI", 0x2008);
        Assembling.fails("LDA 0TTI", 1, 1);
        Assembling.fails("A: B: JMP A B", 2, 1);
    }

    private static void labelsOfLines() {
        Check.promise(15, "A line has, first, LABELS: each a name and ':'; then nothing, or a STATEMENT.");
        NovaDesk x = new NovaDesk();
        Assembling.makesIn(x, "A:\nB: C:D :\n E : 1 ;\nF:2\nG:", 2);
        int[] due = {0, 0, 0, 0, 0, 1, 2};
        for (int i = 0; i < due.length; i++) {
            Check.same("label " + (char) ('A' + i), Desk.label(x, String.valueOf((char) ('A' + i))), due[i]);
        }
        Assembling.fails("1 A:", 2, 1);
        Assembling.fails("A: 1 B:", 2, 1);
        Assembling.fails("5: 1", 2, 1);
        Assembling.fails("A:: 1", 2, 1);
        Assembling.fails(": 1", 2, 1);
        Assembling.fails("A: 1 2", 2, 1);
        Assembling.fails("A: HALT HALT", 2, 1);
    }

    private static void expressions() {
        Check.promise(15, "EXPRESSIONS e: + or - or nothing, then a name, a number or the name '.' (where the statement's word"
                + " goes), and further ones behind + or -; modulo 2^16.");
        Assembling.makes("+5\n-5\n1+2-4\n-1+2\n+1-2\n5-.", 5, 65531, 65535, 1, 65535, 0);
        Assembling.makes("A: B-A\nB+A+B\nB: -A-B", 2, 4, 65534);
        Assembling.makes("1" + "+1".repeat(2999), 3000);
        Assembling.makes("-1" + "-1".repeat(2998), 65536 - 2999);
        for (String wrong : new String[] {"+", "-", "++1", "--1", "+-1", "-+1", "1+", "1-", "1++1", "1+-1", "1--1", "1+,",
            "1+@1", "1 1", "(1)", "1*2"}) {
            Assembling.fails("2\n" + wrong, wrong.indexOf('(') >= 0 || wrong.indexOf('*') >= 0 ? 1 : 2, 2);
        }
    }

    private static void moduloWords() {
        Check.promise(15, "and further ones behind + or -; modulo 2^16.");
        Assembling.makes("177777+1\n177777+177777\n-177777\n0-1\n-0\n100000+100000\n-100000", 0, 65534, 1, 65535, 0, 0, 32768);
        Assembling.makes("177777+1+5\n1-2+1\n-1+1", 5, 0, 0);
        Assembling.makes("MOV 177777+2,-1+3,-177771", 0x8000 | 1 << 13 | 2 << 11 | 2 << 8 | 7);
        Assembling.makes(".LOC 177777+1\n7", 7);
        Assembling.makes(".BLK 100000+100000\n7", 7);
        Assembling.makes("177777" + "+177777".repeat(800), 65536 - 801);
    }

    private static void here() {
        Check.promise(15, "a number or the name '.' (where the statement's word goes)");
        Assembling.makes(".\n.\n.+.", 0, 1, 4);
        Assembling.makesAt(".LOC 77776\n.\n.", 32766, 32766, 32767, 32767);
        Assembling.makesAt(".LOC 5\n.LOC .+3\n.", 8, 8);
        Assembling.makesAt(".LOC 5\n.BLK .\n.", 10, 10);
        Assembling.makesAt(".LOC 1\nMOV .,.+1,.+.", 1, 0x8000 | 1 << 13 | 2 << 11 | 2 << 8 | 2);
        Assembling.makesAt(".BLK 100000\n.LOC .-100000+3\n.", 3, 3);
    }

    private static void namesWithNumbers() {
        Check.promise(15, "Names have numbers if they are labels (where the next word goes), or TTI 10, TTO 11, RTC 12, CPU 77,"
                + " SKP 1, SZC 2, SNC 3, SZR 4, SNR 5, SEZ 6, SBN 7.");
        Assembling.makes("TTI\nTTO\nRTC\nCPU\nSKP\nSZC\nSNC\nSZR\nSNR\nSEZ\nSBN", 8, 9, 10, 63, 1, 2, 3, 4, 5, 6, 7);
        Assembling.makes("TTI+TTO\n-CPU", 17, 65536 - 63);
        Assembling.makes("A: 5\nB: A\nB\nC\nC:", 5, 0, 1, 4);
        Assembling.makesAt("A: .LOC 5\nB: A\nB", 5, 0, 6, 5);
        Assembling.makesAt("A: .BLK 5\nB: A\nB", 5, 0, 6, 5);
        Assembling.makesAt(".LOC 77777\n7\nE: .LOC 0\nE", 32767, 7, 0, 32768);
        Assembling.fails("TTJ", 3, 1);
        Assembling.fails("TT", 3, 1);
        Assembling.fails("TTIX", 3, 1);
    }
}
