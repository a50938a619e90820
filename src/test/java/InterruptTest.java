/** The document's terms of interrupts. */
final class InterruptTest {
    private static final int INTEN = 0x607F;
    private static final int INTDS = 0x60BF;
    private static final int START = 0x6040;

    public static void main(String[] args) {
        each();
        onlyIfIonAndAsked();
        masked();
        wordZeroFirst();
        rowThatCounts();
        rowsOfFourteen();
        lost();
        holdsOneBack();
        whatHoldsBack();
        ofWhateverRun();
        lostOneBetween();
        noInstruction();
        atTheLastWord();
        Check.finish();
    }

    /** The printer is DONE and ION behind INTEN: the next instruction is done, and then it comes. */
    private static NovaDesk asking() {
        NovaDesk x = Desk.at(100, START | 9, Desk.NEXT, Desk.NEXT, Desk.NEXT, INTEN, Desk.NEXT, Desk.NEXT, Desk.NEXT);
        x.put(1, 300);
        x.put(300, Desk.NEXT);
        x.put(301, Desk.NEXT);
        x.run(6);
        Check.same("not yet: interrupts", x.register(10), 0);
        Check.same("not yet: the PC", x.register(5), 106);
        Check.same("not yet: ION", x.register(7), 1);
        return x;
    }

    private static void each() {
        Check.terms("the word at 0 becomes the PC, not ION, and the PC becomes E of an indirect instruction with E 1 (no"
                + " instruction is done by that).");
        NovaDesk x = asking();
        Check.same("one instruction is done behind it", x.run(1), 1);
        Check.same("the word at 0", x.word(0), 106);
        Check.same("not ION", x.register(7), 0);
        Check.same("the PC, behind the first one there", x.register(5), 301);
        Check.same("interrupts", x.register(10), 1);
        Check.same("instructions", x.register(9), 7);
        Check.same("word 1 stays", x.word(1), 300);
        x.run(2);
        Check.same("not again: it is not ION", x.register(10), 1);
        for (int d = 8; d <= 10; d++) {
            NovaDesk y = new NovaDesk();
            y.put(1, 300);
            y.tape(65);
            Desk.step(y, 100, INTEN);
            Desk.step(y, 100, START | d);
            Desk.idle(y, d == 10 ? 19 : 3);
            Check.same("DONE at the end of a run: none yet, by " + d, y.register(10), 0);
            Check.same("it is DONE", y.device(d, 2), 1);
            y.put(300, 0x633F);
            y.run(1);
            Check.same("before the next one, by " + d, y.register(10), 1);
            Check.same("who", y.register(0), d);
            Check.same("the word at 0", y.word(0), 3000);
        }
    }

    private static void onlyIfIonAndAsked() {
        Check.terms("Before an instruction, if ION and one asks");
        NovaDesk x = asking();
        Desk.step(x, 500, 0x6089);
        Check.same("one instruction there, CLEARed or not", x.register(10), 1);
        NovaDesk y = new NovaDesk();
        y.put(1, 300);
        Desk.step(y, 100, START | 9);
        Desk.idle(y, 50);
        Check.same("not ION: none", y.register(10), 0);
        NovaDesk z = new NovaDesk();
        z.put(1, 300);
        Desk.step(z, 100, INTEN);
        Desk.idle(z, 50);
        Check.same("no device: none", z.register(10), 0);
        Desk.step(z, 100, START | 10);
        Desk.idle(z, 18);
        Desk.step(z, 100, 0x608A);
        Desk.idle(z, 50);
        Check.same("CLEARed before it was DONE: none", z.register(10), 0);
        NovaDesk w = Desk.at(100, START | 9, Desk.NEXT, Desk.NEXT, Desk.NEXT, INTEN, INTDS, Desk.NEXT, Desk.NEXT);
        w.run(8);
        Check.same("INTDS at once behind INTEN: none", w.register(10), 0);
        Check.same("not ION", w.register(7), 0);
        NovaDesk v = Desk.at(100, START | 9, Desk.NEXT, Desk.NEXT, Desk.NEXT, INTEN, 0x6089, Desk.NEXT, Desk.NEXT);
        v.run(8);
        Check.same("CLEAR at once behind INTEN: none", v.register(10), 0);
        Check.same("still ION", v.register(7), 1);
    }

    private static void masked() {
        Check.terms("A device ASKS if it is DONE and its mask bit is 0.");
        int[] bits = {2, 1, 4};
        for (int d = 8; d <= 10; d++) {
            for (int mask : new int[] {bits[d - 8], 7 - bits[d - 8]}) {
                NovaDesk x = new NovaDesk();
                x.put(1, 300);
                x.tape(65);
                x.set(0, mask);
                Desk.step(x, 100, 0x643F);
                Desk.step(x, 100, INTEN);
                Desk.step(x, 100, START | d);
                Desk.idle(x, 30);
                Check.same("DONE of " + d, x.device(d, 2), 1);
                Check.same("interrupts of " + d + " by mask " + mask, x.register(10), mask == bits[d - 8] ? 0 : 1);
                x.set(0, 0);
                Desk.step(x, 100, 0x643F);
                Desk.idle(x, 1);
                Check.same("interrupts of " + d + " without a mask", x.register(10), 1);
            }
        }
    }

    private static void wordZeroFirst() {
        Check.terms("the word at 0 becomes the PC, not ION, and the PC becomes E of an indirect instruction with E 1");
        NovaDesk x = asking();
        x.put(0, 777);
        x.put(1, 0x8000);
        x.run(1);
        Check.same("a row by word 0 finds the new one", x.register(5), 107);
        Check.same("the word at 0", x.word(0), 106);
        NovaDesk y = asking();
        y.put(1, 32767);
        y.put(32767, Desk.NEXT);
        y.run(1);
        Check.same("15 bits: to the last word", y.register(5), 0);
    }

    private static void rowThatCounts() {
        Check.terms("the PC becomes E of an indirect instruction with E 1");
        NovaDesk x = asking();
        x.put(1, 0x8000 | 16);
        x.put(16, 0x8000 | 30);
        x.put(31, 401);
        x.put(400, Desk.NEXT);
        x.run(1);
        Check.same("the PC", x.register(5), 401);
        Check.same("up", x.word(16), 0x8000 | 31);
        Check.same("down", x.word(31), 400);
        Check.same("word 1 is not counted", x.word(1), 0x8000 | 16);
    }

    /** Word 1 and so many more words are a row. */
    private static NovaDesk row(int words, int end) {
        NovaDesk x = asking();
        x.put(1, words == 1 ? end : 0x8000 | 400);
        for (int i = 0; i < words - 1; i++) {
            x.put(400 + i, i == words - 2 ? end : 0x8000 | 401 + i);
        }
        return x;
    }

    private static void rowsOfFourteen() {
        Check.terms("a fifteenth word of one such row is not read: the machine is LOST there.");
        for (int words = 1; words <= 15; words++) {
            NovaDesk x = row(words, 300);
            Check.same("a row of " + words, x.run(1), words == 15 ? 0 : 1);
            Check.same("why", x.why(), words == 15 ? 2 : 0);
            Check.same("the PC", x.register(5), words == 15 ? 106 : 301);
            Check.same("interrupts", x.register(10), 1);
        }
    }

    private static void lost() {
        Check.terms("an interrupt's row that is lost: PC as it was, word 0 and ION changed).");
        NovaDesk x = asking();
        x.put(0, 777);
        x.put(1, 0x8000 | 20);
        x.put(20, 0x8000 | 899);
        x.put(900, 0x8000 | 900);
        Check.same("done", x.run(100), 0);
        Check.same("why", x.why(), 2);
        Check.same("the PC as it was", x.register(5), 106);
        Check.same("word 0", x.word(0), 106);
        Check.same("not ION", x.register(7), 0);
        Check.same("what was counted stays", x.word(20), 0x8000 | 900);
        Check.same("no instruction", x.register(9), 6);
        Check.promise(5, "10 how many interrupts (lost ones, too).");
        Check.same("interrupts", x.register(10), 1);
        Check.terms("an interrupt's row that is lost: PC as it was, word 0 and ION changed).");
        Check.same("then it goes on, not ION", x.run(2), 2);
        Check.same("at its PC", x.register(5), 108);
        Check.same("why then", x.why(), 0);
        Check.same("no further interrupt", x.register(10), 1);
        NovaDesk y = Desk.at(100, INTEN, START | 9, Desk.NEXT, Desk.NEXT, Desk.NEXT, Desk.NEXT);
        y.put(1, 0x8001);
        Check.promise(8, "how many were done (the one that halts too, one that is lost not).");
        Check.same("those before it are counted", y.run(100), 5);
        Check.same("why", y.why(), 2);
        Check.same("no tick goes by", y.device(9, 2), 1);
    }

    private static void holdsOneBack() {
        Check.terms("unless the one before (of whatever run) was one of 63, but by WHAT 7, with control 1 (ION before that or"
                + " not)");
        NovaDesk x = Desk.at(100, START | 9, Desk.NEXT, Desk.NEXT, Desk.NEXT, INTEN, INTEN, INTEN, Desk.NEXT, Desk.NEXT);
        x.put(1, 300);
        x.run(8);
        Check.same("each holds the next one's back", x.register(10), 0);
        Check.same("the PC", x.register(5), 108);
        x.run(1);
        Check.same("then it comes", x.register(10), 1);
        Check.same("word 0", x.word(0), 108);
        // ION already, and the printer is DONE just behind an INTEN.
        NovaDesk y = Desk.at(100, INTEN, START | 9, Desk.NEXT, Desk.NEXT, INTEN, Desk.NEXT, Desk.NEXT);
        y.put(1, 300);
        y.run(6);
        Check.same("ION before that: held back", y.register(10), 0);
        y.run(1);
        Check.same("by one instruction", y.register(10), 1);
        Check.same("word 0", y.word(0), 106);
    }

    /** By the first instruction behind which the printer is DONE: whether the next one comes before an interrupt. */
    private static void whatHoldsBack() {
        Check.terms("unless the one before (of whatever run) was one of 63, but by WHAT 7, with control 1 (ION before that or"
                + " not)");
        for (int a = 0; a <= 3; a++) {
            for (int what = 0; what <= 7; what++) {
                // 5 would stop the printer: what does not ask cannot be held back.
                if (what != 5) {
                    holds("63, what " + what, 0x607F | a << 11 | what << 8, what == 7 ? 1 : 0);
                    holds("63, what " + what + " with control 0", 0x603F | a << 11 | what << 8, 1);
                    holds("63, what " + what + " with control 3", 0x60FF | a << 11 | what << 8, 1);
                }
            }
        }
        holds("START of another device", START | 8, 1);
        holds("START of a device that is none", START | 62, 1);
        holds("START of device 31", START | 31, 1);
        holds("arithmetic with such bits", 0xE07F, 1);
        holds("JMP with such bits", 0x007F, 1);
        holds("LDA with such bits", 0x207F, 1);
        holds("STA with such bits", 0x407F, 1);
    }

    private static void holds(String what, int instruction, int due) {
        NovaDesk x = Desk.at(100, INTEN, START | 9, Desk.NEXT, Desk.NEXT, instruction, Desk.NEXT, Desk.NEXT);
        x.put(1, 300);
        x.put(300, Desk.NEXT);
        x.put(127, Desk.NEXT);
        x.run(5);
        Check.same(what + ": DONE", x.device(9, 2), 1);
        Check.same(what + ": ION", x.register(7), 1);
        x.run(1);
        Check.same("interrupt before the one behind " + what, x.register(10), due);
        x.run(1);
        Check.same("interrupt then, behind " + what, x.register(10), 1);
    }

    private static void ofWhateverRun() {
        Check.terms("unless the one before (of whatever run) was one of 63, but by WHAT 7, with control 1");
        NovaDesk x = Desk.at(100, START | 9, Desk.NEXT, Desk.NEXT, Desk.NEXT, INTEN, Desk.NEXT, Desk.NEXT);
        x.put(1, 300);
        x.run(5);
        x.run(1);
        Check.same("INTEN was the last of another run", x.register(10), 0);
        x.run(1);
        Check.same("then it comes", x.register(10), 1);
        NovaDesk y = Desk.at(100, START | 9, Desk.NEXT, Desk.NEXT, Desk.NEXT, 0x667F, Desk.NEXT, Desk.NEXT);
        y.put(1, 300);
        Check.same("halts", y.run(50), 5);
        y.set(5, 500);
        y.put(500, Desk.NEXT);
        y.tell(500);
        Check.refuses("run(0)", () -> y.run(0));
        y.run(1);
        Check.same("other calls are no instructions", y.register(10), 0);
        Check.same("the PC", y.register(5), 501);
        y.run(1);
        Check.same("then it comes, too", y.register(10), 1);
        Check.same("word 0", y.word(0), 501);
    }

    /** A lost instruction is not done: INTEN is still the one before. */
    private static void lostOneBetween() {
        Check.terms("unless the one before (of whatever run) was one of 63, but by WHAT 7, with control 1");
        NovaDesk x = Desk.at(100, START | 9, Desk.NEXT, Desk.NEXT, Desk.NEXT, INTEN, 0x0428, 0);
        x.put(1, 300);
        x.put(40, 0x8000 | 40);
        Check.same("lost behind INTEN", x.run(10), 5);
        Check.same("why", x.why(), 2);
        x.put(40, 500);
        x.put(500, Desk.NEXT);
        Check.same("mended", x.run(1), 1);
        Check.same("none yet", x.register(10), 0);
        Check.same("the PC", x.register(5), 500);
        x.run(1);
        Check.same("then it comes", x.register(10), 1);
    }

    private static void noInstruction() {
        Check.terms("(no instruction is done by that)");
        // The clock starts as the seventh instruction; the interrupt comes between its ticks.
        NovaDesk x = Desk.at(100, START | 9, Desk.NEXT, Desk.NEXT, Desk.NEXT, Desk.NEXT, START | 10, INTEN, Desk.NEXT);
        x.put(1, 300);
        x.put(300, 0x0100);
        x.run(8);
        x.run(1);
        Check.same("an interrupt", x.register(10), 1);
        x.run(15);
        Check.same("19 ticks", x.device(10, 2), 0);
        x.run(1);
        Check.same("20 ticks", x.device(10, 2), 1);
        Check.same("instructions", x.register(9), 25);
    }

    private static void atTheLastWord() {
        Check.terms("the word at 0 becomes the PC, not ION, and the PC becomes E of an indirect instruction with E 1");
        NovaDesk x = asking();
        x.set(5, 32767);
        x.run(1);
        Check.same("the word at 0", x.word(0), 32767);
        NovaDesk y = asking();
        y.set(5, 0);
        y.run(1);
        Check.same("the word at 0 of PC 0", y.word(0), 0);
        Check.same("the PC", y.register(5), 301);
    }
}
