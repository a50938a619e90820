/** Promises 1 to 5 and 12: a new object, put, word, set, register, reset. (What they refuse: RefusalTest.) */
final class ConsoleTest {
    public static void main(String[] args) {
        newObject();
        newMemory();
        lastCall();
        put();
        word();
        set();
        register();
        counters();
        reset();
        resetOfFaults();
        resetOfFullRows();
        resetKeepsMemory();
        Check.finish();
    }

    private static void newObject() {
        Check.promise(1, "All 0; nothing on the tape, nothing printed.");
        Check.same("NONE", NovaDesk.NONE, -1);
        isAsAtFirst("new", new NovaDesk());
        Check.terms("There are ACCUMULATORS 0 .. 3, CARRY (0 or 1), the PC, and ION (whether interrupts are let in), all 0"
                + " at first.");
        for (int r = 0; r <= 7; r++) {
            Check.same("register " + r, new NovaDesk().register(r), 0);
        }
        Check.promise(1, "All 0; nothing on the tape, nothing printed.");
        NovaDesk x = new NovaDesk();
        x.put(9, 5);
        x.tape(1);
        Check.same("another object has its own memory", new NovaDesk().word(9), 0);
        Check.same("another object has its own tape", new NovaDesk().tape(1), 1);
    }

    private static void isAsAtFirst(String when, NovaDesk x) {
        for (int r = 0; r <= 10; r++) {
            Check.same(when + " register " + r, x.register(r), 0);
        }
        for (int d = 8; d <= 10; d++) {
            for (int what = 0; what <= 2; what++) {
                Check.same(when + " device " + d + "," + what, x.device(d, what), 0);
            }
        }
        Check.same(when + " why", x.why(), 0);
        for (int i = 0; i < 5; i++) {
            Check.same(when + " printed " + i, x.printed(i), -1);
            Check.same(when + " told " + i, x.told(i), -1);
        }
        Check.same(when + " tear", x.tear(), 0);
        Check.same(when + " fault", x.fault(0), 0);
        Check.same(when + " fault's line", x.fault(1), 0);
        Check.refuses(when + " end(1)", () -> x.end(1));
        Check.same(when + " feed", x.feed(0, 0, 0, 0, 0), 20);
        Check.same(when + " tape", x.tape(1), 1);
    }

    private static void newMemory() {
        Check.terms("MEMORY has 32768 words (address 0 .. 32767; what is reckoned goes modulo that), all 0 at first.");
        for (int start = 0; start < 32768; start += 512) {
            NovaDesk x = new NovaDesk();
            int sum = 0;
            for (int address = start; address < start + 512; address++) {
                sum += x.word(address) == 0 ? 0 : 1;
            }
            Check.same("words that are not 0 from " + start + " on", sum, 0);
        }
    }

    private static void lastCall() {
        Check.about("What it is", "An object is used for at most 512 calls after it has been made");
        NovaDesk x = new NovaDesk();
        for (int i = 1; i <= 510; i++) {
            x.put(i, i);
        }
        Check.same("the 511th call", x.run(5000), 5000);
        Check.same("the 512th call", x.word(510), 510);
        NovaDesk y = new NovaDesk();
        for (int i = 1; i <= 511; i++) {
            y.run(5000);
        }
        Check.same("the most instructions that can be done in all", y.register(9), 511 * 5000);
    }

    private static void put() {
        Check.promise(2, "A word is put: what it was.");
        NovaDesk x = new NovaDesk();
        int[] addresses = {0, 1, 16, 31, 256, 16384, 32766, 32767};
        int[] words = {65535, 32768, 32767, 1, 0, 65534};
        for (int address : addresses) {
            int before = 0;
            for (int v : words) {
                Check.same("put(" + address + ", " + v + ")", x.put(address, v), before);
                before = v;
            }
        }
        for (int address : addresses) {
            Check.same("each address has its own word: " + address, x.word(address), 65534);
        }
        Check.same("no other one is changed: 2", x.word(2), 0);
        Check.same("no other one is changed: 32765", x.word(32765), 0);
        Check.terms("A WORD has 16 bits, 0 .. 65535, bit 15 the highest.");
        x.put(2, 65535);
        Check.same("the highest word", x.word(2), 65535);
        x.put(2, 0);
        Check.same("the least word", x.word(2), 0);
    }

    private static void word() {
        Check.promise(3, "A word of memory.");
        NovaDesk x = new NovaDesk();
        x.put(0, 40000);
        x.put(32767, 50000);
        Check.same("word(0)", x.word(0), 40000);
        Check.same("word(0) again: reading leaves it", x.word(0), 40000);
        Check.same("word(32767)", x.word(32767), 50000);
        x.put(16, 7);
        x.put(24, 7);
        Check.same("word(16) does not count", x.word(16), 7);
        Check.same("word(24) does not count", x.word(24), 7);
        Check.same("word(16) did not count", x.word(16), 7);
        Check.same("word(24) did not count", x.word(24), 7);
    }

    private static void set() {
        Check.promise(4, "A register: 0 to 3 accumulators, 4 CARRY, 5 PC, 6 switches becomes v: what it was.");
        NovaDesk x = new NovaDesk();
        int[] highest = {65535, 65535, 65535, 65535, 1, 32767, 65535};
        for (int r = 0; r <= 6; r++) {
            Check.same("set " + r, x.set(r, highest[r]), 0);
            Check.same("set " + r + " to 0", x.set(r, 0), highest[r]);
            Check.same("set " + r + " again", x.set(r, highest[r]), 0);
        }
        for (int r = 0; r <= 6; r++) {
            Check.same("register " + r, x.register(r), highest[r]);
        }
        for (int r = 0; r <= 6; r++) {
            x.set(r, r & 1);
        }
        for (int r = 0; r <= 10; r++) {
            Check.same("no other one is changed: " + r, x.register(r), r <= 6 ? r & 1 : 0);
        }
    }

    private static void register() {
        Check.promise(5, "A register (0 .. 6), 7 ION, 8 the mask (its three lowest bits)");
        NovaDesk x = new NovaDesk();
        for (int r = 0; r <= 6; r++) {
            x.set(r, r == 4 ? 1 : 100 + r);
        }
        for (int r = 0; r <= 6; r++) {
            Check.same("register " + r, x.register(r), r == 4 ? 1 : 100 + r);
        }
        Desk.step(x, 50, 0x607F);
        Check.same("ION", x.register(7), 1);
        Desk.step(x, 50, 0x60BF);
        Check.same("not ION", x.register(7), 0);
        int[] masks = {0, 1, 4, 7, 8, 15, 0xFFF8, 0xFFFF};
        for (int mask : masks) {
            x.set(0, mask);
            Desk.step(x, 50, 0x643F);
            Check.same("mask of " + mask, x.register(8), mask % 8);
        }
    }

    private static void counters() {
        Check.promise(5, "9 how many instructions were done in all, 10 how many interrupts (lost ones, too).");
        NovaDesk x = new NovaDesk();
        for (int i = 1; i <= 200; i++) {
            x.run(5000);
        }
        Check.same("a million instructions", x.register(9), 1000000);
        Check.same("no interrupts", x.register(10), 0);
        // INTEN again and again with a device that asks: an interrupt at each second instruction.
        NovaDesk y = Desk.at(100, 0x6049, Desk.NEXT, Desk.NEXT, Desk.NEXT, 0x607F, Desk.NEXT, 0);
        y.put(1, 104);
        y.run(6);
        Check.same("none yet", y.register(10), 0);
        y.run(5000);
        Check.same("an interrupt for each two instructions", y.register(10), 2500);
        Check.same("interrupts are no instructions", y.register(9), 5006);
        // Their rows are lost now: each of them is counted, and no instruction.
        y.put(1, 0x8001);
        Check.same("lost at once", y.run(5000), 0);
        Check.same("a lost one is counted", y.register(10), 2501);
        Check.same("no instruction is", y.register(9), 5006);
    }

    private static void reset() {
        Check.promise(12, "All but memory is as at first: the text, labels, faults and what was told, too.");
        NovaDesk x = Busy.desk();
        x.reset();
        Check.same("label", Desk.label(x, "HAND"), -1);
        Check.same("another label", Desk.label(x, "START"), -1);
        isAsAtFirst("reset", x);
        x.end(0);
        Check.same("a label of before is no name", Desk.assemble(x, "HAND"), -1);
        Check.same("its fault", x.fault(0), 3);

        NovaDesk y = Busy.desk();
        y.reset();
        Check.same("an empty text has no words", y.assemble(), 0);
        y.tape(77);
        Desk.step(y, 100, 0x6048);
        Desk.idle(y, 2);
        Check.same("ticks are counted anew", y.device(8, 2), 0);
        y.run(1);
        Check.same("the fourth one", y.device(8, 2), 1);
        Check.same("nothing of the former tape", y.device(8, 0), 77);
        Check.same("nothing behind it", y.tape(1), 1);
    }

    private static void resetOfFaults() {
        Check.promise(12, "All but memory is as at first: the text, labels, faults and what was told, too.");
        NovaDesk x = new NovaDesk();
        Desk.assemble(x, "\n?");
        Check.same("a fault", x.fault(0), 1);
        Check.same("its line", x.fault(1), 2);
        x.reset();
        Check.same("no fault", x.fault(0), 0);
        Check.same("no line", x.fault(1), 0);
        x.put(5, 0x8000 | 5);
        Desk.step(x, 100, 0x0405);
        Check.same("lost", x.why(), 2);
        x.reset();
        Check.same("why is 0 as before any run", x.why(), 0);
        x.reset();
        isAsAtFirst("reset twice", x);
    }

    private static void resetOfFullRows() {
        Check.promise(12, "All but memory is as at first: the text, labels, faults and what was told, too.");
        NovaDesk x = Desk.at(0, 0x6049, Desk.NEXT, Desk.NEXT);
        x.run(4400);
        Check.same("the paper is full", x.printed(999), 0);
        x.reset();
        Check.same("nothing printed", x.printed(0), -1);
        Check.same("nor at its end", x.printed(999), -1);
        Check.same("none in all", x.tear(), 0);
        Desk.feed(x, " ".repeat(6000));
        x.reset();
        Check.same("there is room for text", x.feed(0, 0, 0, 0, 0), 20);
    }

    private static void resetKeepsMemory() {
        Check.promise(12, "All but memory is as at first");
        NovaDesk x = new NovaDesk();
        for (int address = 0; address < 32768; address += 199) {
            x.put(address, 65535 - address);
        }
        x.put(32767, 12345);
        x.reset();
        for (int address = 0; address < 32768; address += 199) {
            Check.same("word " + address, x.word(address), 65535 - address);
        }
        Check.same("last word", x.word(32767), 12345);
    }
}
