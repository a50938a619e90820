/** Promises 1 to 5: a new object, put, word, set, register; and 12, reset. */
final class ConsoleTest {
    public static void main(String[] args) {
        newObject();
        words();
        registers();
        resets();
        Check.finish();
    }

    private static void newObject() {
        NovaDesk x = new NovaDesk();
        Check.same("NONE", NovaDesk.NONE, -1);
        isAsAtFirst("new", x);
        for (int address = 0; address < 32768; address += 331) {
            Check.same("new word " + address, x.word(address), 0);
        }
        Check.same("new last word", x.word(32767), 0);
    }

    private static void isAsAtFirst(String when, NovaDesk x) {
        for (int r = 0; r <= 10; r++) {
            Check.same(when + " register " + r, x.register(r), 0);
        }
        for (int d = 8; d <= 10; d++) {
            for (int what = 0; what <= 2; what++) {
                Check.same(when + " device " + d + "," + what, x.device(d, what), 0);
            }
        }
        Check.same(when + " why", x.why(), 0);
        Check.same(when + " printed", x.printed(0), -1);
        Check.same(when + " tear", x.tear(), 0);
        Check.same(when + " told", x.told(0), -1);
        Check.same(when + " fault", x.fault(0), 0);
        Check.same(when + " fault's line", x.fault(1), 0);
        Check.refuses(when + " end(1)", () -> x.end(1));
        Check.same(when + " tape", x.tape(1), 1);
    }

    private static void words() {
        NovaDesk x = new NovaDesk();
        Check.same("put", x.put(0, 65535), 0);
        Check.same("put again", x.put(0, 7), 65535);
        Check.same("put last", x.put(32767, 65535), 0);
        Check.same("word 0", x.word(0), 7);
        Check.same("word 32767", x.word(32767), 65535);
        Check.same("word 1", x.word(1), 0);
        Check.refuses("put(-1, 0)", () -> x.put(-1, 0));
        Check.refuses("put(32768, 0)", () -> x.put(32768, 0));
        Check.refuses("put(0, -1)", () -> x.put(0, -1));
        Check.refuses("put(0, 65536)", () -> x.put(0, 65536));
        Check.refuses("word(-1)", () -> x.word(-1));
        Check.refuses("word(32768)", () -> x.word(32768));
        Check.refuses("word(MIN)", () -> x.word(Integer.MIN_VALUE));
        Check.same("word 0 stays", x.word(0), 7);
    }

    private static void registers() {
        NovaDesk x = new NovaDesk();
        int[] highest = {65535, 65535, 65535, 65535, 1, 32767, 65535};
        for (int r = 0; r <= 6; r++) {
            int register = r;
            Check.same("set " + r, x.set(r, highest[r]), 0);
            Check.same("set again " + r, x.set(r, r & 1), highest[r]);
            Check.refuses("set too high " + r, () -> x.set(register, highest[register] + 1));
            Check.refuses("set below 0 " + r, () -> x.set(register, -1));
        }
        for (int r = 0; r <= 6; r++) {
            Check.same("register " + r, x.register(r), r & 1);
        }
        Check.refuses("set(7, 0)", () -> x.set(7, 0));
        Check.refuses("set(-1, 0)", () -> x.set(-1, 0));
        Check.refuses("register(-1)", () -> x.register(-1));
        Check.refuses("register(11)", () -> x.register(11));
    }

    private static void resets() {
        NovaDesk x = Desk.with("INTEN", "A: NIOS TTI", "NIOS RTC", "MSKO 1", "DOAS 0,TTO", "JMP .",
                ".LOC 40", "JMP .");
        for (int r = 0; r <= 6; r++) {
            x.set(r, r == 4 ? 1 : 77);
        }
        x.tape(65);
        x.tape(66);
        x.set(5, 0);
        x.put(1, x.word(1));
        x.run(9);
        x.tell(0);
        Check.same("busy before reset", x.device(10, 1), 1);
        Check.same("mask before reset", x.register(8), 77 & 7);
        x.put(100, 0x0400 | 101);
        x.put(101, 0x8000 | 101);
        x.set(5, 100);
        x.run(1);
        Check.same("lost before reset", x.why(), 2);
        x.feed(1, 2, 3, 4, 5);
        x.reset();
        Check.same("label after reset", Desk.label(x, "A"), -1);
        Check.same("memory after reset", x.word(101), 0x8000 | 101);
        isAsAtFirst("reset", x);
        Desk.step(x, 200, 0x607F);
        Check.same("ION", x.register(7), 1);
        x.reset();
        isAsAtFirst("reset of ION", x);
        Desk.assemble(x, "?");
        Check.same("fault", x.fault(0), 1);
        x.reset();
        isAsAtFirst("reset after a fault", x);
    }
}
