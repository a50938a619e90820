/** Promise 17: label. */
final class LabelTest {
    public static void main(String[] args) {
        lettersOfNames();
        whatItIs();
        none();
        latestWithoutFault();
        Check.finish();
    }

    private static void lettersOfNames() {
        Check.promise(17, "What a label is, told by its four first and its two further letters (the highest byte of each first; 0"
                + " behind its end);");
        NovaDesk x = new NovaDesk();
        Assembling.makesIn(x, "A: 1\nAB: 1\nABC: 1\nABCD: 1\nABCDE: 1\nABCDEF: 1\n.A9.Z0: 1", 7);
        Check.same("A", x.label(0x41000000, 0), 0);
        Check.same("AB", x.label(0x41420000, 0), 1);
        Check.same("ABC", x.label(0x41424300, 0), 2);
        Check.same("ABCD", x.label(0x41424344, 0), 3);
        Check.same("ABCDE", x.label(0x41424344, 0x45000000), 4);
        Check.same("ABCDEF", x.label(0x41424344, 0x45460000), 5);
        Check.same(".A9.Z0", x.label(0x2E41392E, 0x5A300000), 6);
    }

    private static void whatItIs() {
        Check.promise(17, "What a label is");
        NovaDesk x = new NovaDesk();
        Assembling.makesIn(x, "A: .LOC 77777\nB: 1\nC:", 1);
        Check.same("0", Desk.label(x, "A"), 0);
        Check.same("the last word", Desk.label(x, "B"), 32767);
        Check.same("behind the last word", Desk.label(x, "C"), 32768);
        x.put(0, 5);
        x.set(5, 7);
        x.run(1);
        Check.same("other calls leave it", Desk.label(x, "B"), 32767);
        Check.same("so does a text that is not assembled", x.feed(0, 0, 0, 0, 0), 20);
        Check.same("still", Desk.label(x, "B"), 32767);
    }

    private static void none() {
        Check.promise(17, "NONE when it is none of the latest text that was assembled without a fault.");
        NovaDesk x = new NovaDesk();
        Check.same("before any text", Desk.label(x, "A"), -1);
        Check.same("no letters, before any text", x.label(0, 0), -1);
        Assembling.makesIn(x, "1\nA: ABCD: ABCDEF: TTI\nTTJ:", 2);
        int[][] others = {{0, 0}, {0x42000000, 0}, {0x41000000, 1}, {0x41000000, 0x41000000}, {0x41000001, 0}, {0x00000041, 0},
            {0x00410000, 0}, {0x41424344, 1}, {0x41424344, 0x45000000}, {0x41424344, 0x45464700}, {0x41424344, 0x45460001},
            {0x41424344, 0x00004546}, {0x41424300, 0}, {-1, -1}, {0, 0x41000000}, {0x61000000, 0}, {0xC1000000, 0},
            {0x41424344, 0xC5460000}, {Integer.MIN_VALUE, Integer.MAX_VALUE}, {0, 2}, {0x41000000, 2}};
        for (int[] other : others) {
            Check.same("label(" + other[0] + ", " + other[1] + ")", x.label(other[0], other[1]), -1);
        }
        for (String name : new String[] {"TTI", "CPU", "SBN", "JMP", ".LOC", ".", "HALT", "MOVZL"}) {
            Check.same("a name that is no label: " + name, Desk.label(x, name), -1);
        }
        Check.same("the labels are there", Desk.label(x, "ABCDEF"), 1);
    }

    private static void latestWithoutFault() {
        Check.promise(17, "NONE when it is none of the latest text that was assembled without a fault.");
        NovaDesk x = new NovaDesk();
        Assembling.makesIn(x, ".LOC 5\nA: 1\nB: 2", 2);
        for (String wrong : new String[] {"C: A: JMP X", "C: A: ?", "C: C:", "C: @", ".BLK 100001"}) {
            Check.same("assemble of " + wrong, Desk.assemble(x, wrong), -1);
            Check.same("a text with a fault leaves A", Desk.label(x, "A"), 5);
            Check.same("a text with a fault leaves B", Desk.label(x, "B"), 6);
            Check.same("and has no labels", Desk.label(x, "C"), -1);
        }
        Assembling.makesIn(x, "1\nC: C", 2);
        Check.same("the latest text's", Desk.label(x, "C"), 1);
        Check.same("no former one's: A", Desk.label(x, "A"), -1);
        Check.same("no former one's: B", Desk.label(x, "B"), -1);
        Check.same("a former label is no name", Desk.assemble(x, "C"), -1);
        Check.same("its fault", x.fault(0), 3);
        Check.same("a former label may be one again", Desk.assemble(x, "1\n2\nC: A: 3"), 3);
        Check.same("anew: C", Desk.label(x, "C"), 2);
        Check.same("anew: A", Desk.label(x, "A"), 2);
        Check.same("an empty text", Desk.assemble(x, ""), 0);
        Check.same("it has no labels", Desk.label(x, "C"), -1);
    }
}
