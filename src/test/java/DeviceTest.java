/** Promises 6, 7, 10, 11: device, tape, printed, tear; instructions of devices and interrupts. */
final class DeviceTest {
    public static void main(String[] args) {
        wrongInputs();
        tapeHolds();
        reader();
        printer();
        paper();
        clock();
        transfers();
        tests();
        noDevice();
        machineTransfers();
        mask();
        machineTests();
        interrupts();
        interruptWaits();
        lostInterrupt();
        Check.finish();
    }

    private static void is(NovaDesk x, String when, int device, int busy, int done) {
        Check.same(when + ": BUSY of " + device, x.device(device, 1), busy);
        Check.same(when + ": DONE of " + device, x.device(device, 2), done);
    }

    private static void wrongInputs() {
        NovaDesk x = new NovaDesk();
        Check.refuses("device(7, 0)", () -> x.device(7, 0));
        Check.refuses("device(11, 0)", () -> x.device(11, 0));
        Check.refuses("device(63, 0)", () -> x.device(63, 0));
        Check.refuses("device(8, -1)", () -> x.device(8, -1));
        Check.refuses("device(8, 3)", () -> x.device(8, 3));
        Check.refuses("tape(-1)", () -> x.tape(-1));
        Check.refuses("tape(256)", () -> x.tape(256));
        Check.same("printed(-1)", x.printed(-1), -1);
        Check.same("printed(MAX)", x.printed(Integer.MAX_VALUE), -1);
    }

    private static void tapeHolds() {
        NovaDesk x = new NovaDesk();
        for (int i = 1; i <= 500; i++) {
            Check.same("tape " + i, x.tape(i & 255), i);
        }
        Check.isFull("tape at 500", () -> x.tape(0));
        Check.refuses("a wrong character on a full tape", () -> x.tape(256));
        Desk.step(x, 0, 0x6048);
        Desk.idle(x, 3);
        Check.same("one is read", x.device(8, 0), 1);
        Check.same("and makes room", x.tape(9), 500);
        Check.isFull("tape at 500 again", () -> x.tape(0));
    }

    private static void reader() {
        NovaDesk x = Desk.with("NIOS TTI", "JMP .", "JMP .");
        x.run(3);
        is(x, "three ticks", 8, 1, 0);
        x.run(1);
        is(x, "the fourth without a tape", 8, 1, 0);
        x.run(10);
        x.tape(255);
        x.tape(7);
        is(x, "tape alone", 8, 1, 0);
        x.run(1);
        is(x, "a further tick", 8, 0, 1);
        Check.same("its word", x.device(8, 0), 255);
        Check.same("one is left", x.tape(8), 2);
        x.run(20);
        is(x, "not BUSY: no ticks", 8, 0, 1);
        Desk.step(x, 0, x.word(0));
        is(x, "START", 8, 1, 0);
        Check.same("the word stays by START", x.device(8, 0), 255);
        x.run(2);
        Desk.step(x, 0, x.word(0));
        x.run(2);
        is(x, "START counts anew", 8, 1, 0);
        x.run(1);
        is(x, "the fourth since", 8, 0, 1);
        Check.same("its next word", x.device(8, 0), 7);
        Desk.step(x, 2, 0x6088);
        is(x, "CLEAR of DONE", 8, 0, 0);
        Desk.step(x, 0, x.word(0));
        Desk.step(x, 2, 0x6088);
        Desk.idle(x, 10);
        is(x, "CLEAR of BUSY", 8, 0, 0);
        Check.same("nothing was read", x.tape(1), 2);
    }

    private static void printer() {
        NovaDesk x = Desk.with("DOAS 0,TTO", "DOA 1,TTO", "JMP .");
        x.set(0, 0xFF41);
        x.set(1, 0x142);
        x.run(1);
        Check.same("eight bits", x.device(9, 0), 0x41);
        x.run(2);
        is(x, "three ticks", 9, 1, 0);
        Check.same("not yet", x.printed(0), -1);
        x.run(1);
        is(x, "four", 9, 0, 1);
        Check.same("the word that it has then", x.printed(0), 0x42);
        Check.same("no more", x.printed(1), -1);
        x.run(10);
        Check.same("once only", x.tear(), 1);
        Desk.step(x, 5, 0x60C9);
        is(x, "control 3", 9, 0, 1);
    }

    private static void paper() {
        NovaDesk x = Desk.with("DOAS 0,TTO", "INC 0,0", "SKPDN TTO", "JMP .-1", "JMP 0");
        for (int i = 0; i < 2; i++) {
            x.run(5000);
        }
        // START, INC, SKPDN, JMP, SKPDN that skips, JMP: six for each.
        int[] due = {0, 1, 2};
        for (int i : due) {
            Check.same("printed " + i, x.printed(i), i);
        }
        Check.same("printed 999", x.printed(999), 999 & 255);
        Check.same("printed 1000", x.printed(1000), -1);
        Check.same("more were printed", x.tear(), 10000 / 6 + (10000 % 6 >= 4 ? 1 : 0));
        Check.same("nothing behind tear", x.printed(0), -1);
        Check.same("none any more", x.tear(), 0);
        x.run(6);
        Check.same("prints anew", x.tear(), 1);
    }

    private static void clock() {
        NovaDesk x = Desk.with("NIOS RTC", "JMP .");
        x.run(19);
        is(x, "19 ticks", 10, 1, 0);
        x.run(1);
        is(x, "20 ticks", 10, 0, 1);
        x.run(40);
        is(x, "then none", 10, 0, 1);
        Check.same("its word", x.device(10, 0), 0);
        Desk.step(x, 5, 0x6000 | 2 << 8 | 10);
        Check.same("its word stays 0", x.device(10, 0), 0);
    }

    private static void transfers() {
        for (int device = 8; device <= 10; device++) {
            for (int what = 0; what <= 6; what++) {
                NovaDesk x = new NovaDesk();
                x.tape(200);
                Desk.step(x, 0, 0x6048);
                Desk.idle(x, 3);
                x.set(2, 0x1FE);
                Desk.step(x, 50, 0x6000 | 2 << 11 | what << 8 | device);
                String when = "what " + what + " of " + device;
                int in = device == 8 && what == 1 ? 200 : 0;
                Check.same(when + ": A", x.register(2), what % 2 == 1 ? in : 0x1FE);
                Check.same(when + ": the reader's", x.device(8, 0), 200);
                Check.same(when + ": the printer's", x.device(9, 0), device == 9 && what == 2 ? 0xFE : 0);
                Check.same(when + ": goes on", x.register(5), 51);
            }
        }
    }

    private static void tests() {
        for (int device = 8; device <= 10; device++) {
            NovaDesk x = new NovaDesk();
            x.tape(1);
            skips(x, device, 0, 1, 0, 1);
            Desk.step(x, 0, 0x6040 | device);
            skips(x, device, 1, 0, 0, 1);
            Desk.idle(x, 30);
            skips(x, device, 0, 1, 1, 0);
        }
    }

    private static void skips(NovaDesk x, int device, int... due) {
        for (int control = 0; control < 4; control++) {
            // The printer and the reader are DONE within four ticks: each test starts it anew.
            boolean wasBusy = device != 63 && x.device(device, 1) == 1;
            Desk.step(x, 50, 0x6700 | control << 6 | device);
            Check.same("skip " + control + " of " + device, x.register(5) - 51, due[control]);
            if (wasBusy) {
                Desk.step(x, 0, 0x6040 | device);
            }
        }
    }

    private static void noDevice() {
        int[] others = {0, 7, 11, 62};
        for (int device : others) {
            NovaDesk x = new NovaDesk();
            x.set(1, 99);
            Desk.step(x, 50, 0x6000 | 1 << 11 | 2 << 8 | 1 << 6 | device);
            Check.same("out to none", x.register(1), 99);
            Check.same("goes on", x.register(5), 51);
            int[] due = {0, 1, 0, 1};
            for (int control = 0; control < 4; control++) {
                Desk.step(x, 50, 0x6700 | control << 6 | device);
                Check.same("skip " + control + " of none", x.register(5) - 51, due[control]);
            }
            for (int what = 1; what <= 5; what += 2) {
                x.set(1, 99);
                Desk.step(x, 50, 0x6000 | 1 << 11 | what << 8 | device);
                Check.same("in from none", x.register(1), 0);
            }
            for (int d = 8; d <= 10; d++) {
                is(x, "START of none", d, 0, 0);
            }
        }
    }

    private static void machineTransfers() {
        NovaDesk x = Desk.with("READS 2", "NIOS TTO", "NIOS TTI", "NIOS RTC", "JMP .");
        x.set(6, 54321);
        x.tape(5);
        x.run(1);
        Check.same("READS", x.register(2), 54321);
        Desk.step(x, 50, 0x633F);
        Check.same("INTA for none", x.register(0), 0);
        x.set(5, 1);
        x.run(4);
        Desk.step(x, 50, 0x633F);
        Check.same("INTA of the printer", x.register(0), 9);
        x.set(5, 4);
        x.run(3);
        Desk.step(x, 50, 0x633F);
        Check.same("INTA of the least", x.register(0), 8);
        x.set(1, 4);
        Desk.step(x, 50, 0x643F | 1 << 11);
        Check.same("MSKO", x.register(8), 4);
        x.set(3, 1234);
        Desk.step(x, 50, 0x653F | 3 << 11);
        Check.same("IORST leaves A", x.register(3), 1234);
        Check.same("IORST's mask", x.register(8), 0);
        for (int d = 8; d <= 10; d++) {
            is(x, "IORST", d, 0, 0);
        }
        Check.same("IORST leaves the words", x.device(8, 0), 5);
        for (int what = 0; what <= 4; what += 2) {
            x.set(3, 1234);
            Desk.step(x, 50, 0x603F | 3 << 11 | what << 8);
            Check.same("A stays by " + what, x.register(3), 1234);
        }
    }

    private static void mask() {
        NovaDesk x = new NovaDesk();
        x.tape(1);
        Desk.step(x, 0, 0x604A);
        Desk.idle(x, 20);
        Desk.step(x, 0, 0x6048);
        Desk.step(x, 0, 0x6049);
        Desk.idle(x, 4);
        int[] due = {8, 8, 9, 10, 8, 8, 9, 0};
        for (int m = 0; m < 8; m++) {
            x.set(0, 0xFFF8 | m);
            Desk.step(x, 50, 0x643F);
            Check.same("mask " + m, x.register(8), m);
            Desk.step(x, 50, 0x633F | 1 << 11);
            Check.same("who asks by mask " + m, x.register(1), due[m]);
        }
    }

    private static void machineTests() {
        NovaDesk x = new NovaDesk();
        skips(x, 63, 0, 1, 0, 1);
        Check.same("a test does not let in", x.register(7), 0);
        Desk.step(x, 50, 0x607F);
        Check.same("INTEN", x.register(7), 1);
        skips(x, 63, 1, 0, 0, 1);
        Check.same("a test does not shut out", x.register(7), 1);
        Desk.step(x, 50, 0x60BF);
        Check.same("INTDS", x.register(7), 0);
        Desk.step(x, 50, 0x61FF);
        Check.same("control 3", x.register(7), 0);
        for (int what = 1; what <= 6; what++) {
            Desk.step(x, 50, 0x607F | what << 8);
            Check.same("control 1 of " + what, x.register(7), 1);
            Check.same("goes on behind " + what, x.register(5), 51);
            Desk.step(x, 50, 0x60BF | what << 8);
            Check.same("control 2 of " + what, x.register(7), 0);
        }
    }

    private static void interrupts() {
        NovaDesk x = Desk.with(".LOC 1", "HAND", ".LOC 100", "INTEN", "NIOS TTO", "JMP .", ".LOC 200",
                "HAND: INTA 1", "NIOC TTO", "INTEN", "JMP @0");
        x.set(5, 64);
        Check.same("done", x.run(5), 5);
        Check.same("none yet", x.register(10), 0);
        is(x, "before", 9, 0, 1);
        Check.same("one more", x.run(1), 1);
        Check.same("one interrupt", x.register(10), 1);
        Check.same("instructions alone are counted", x.register(9), 6);
        Check.same("word 0", x.word(0), 66);
        Check.same("not ION", x.register(7), 0);
        Check.same("who", x.register(1), 9);
        Check.same("where", x.register(5), 129);
        x.run(3);
        Check.same("back", x.register(5), 66);
        Check.same("ION again", x.register(7), 1);
        x.run(20);
        Check.same("no further one", x.register(10), 1);

        x.put(1, 32768 | 20);
        x.put(20, 32768 | 25);
        x.put(26, 500);
        x.put(66, 0x6049);
        x.set(5, 66);
        x.put(67, 0x0100);
        x.run(5);
        Check.same("by a row that counts", x.register(10), 2);
        Check.same("up", x.word(20), 32768 | 26);
        Check.same("down", x.word(26), 499);
        Check.same("goes on there: a JMP 0", x.register(5), 0);
    }

    private static void interruptWaits() {
        NovaDesk x = Desk.with(".LOC 1", "300", ".LOC 100", "NIOS TTO", "JMP .+1", "JMP .+1", "JMP .+1",
                "INTEN", "INTEN", "DIBS 0,CPU", "MOV 0,0", "MOV 0,0");
        x.set(5, 64);
        x.run(7);
        Check.same("each lets the next one be done", x.register(10), 0);
        x.run(1);
        Check.same("one more is done", x.register(10), 0);
        Check.same("the PC", x.register(5), 72);
        x.run(1);
        Check.same("now", x.register(10), 1);
        Check.same("word 0", x.word(0), 72);

        NovaDesk y = Desk.with(".LOC 1", "300", ".LOC 100", "NIOS TTO", "JMP .+1", "JMP .+1", "JMP .+1",
                "DOCS 0,CPU", "SKPBZ CPU", "MOV 0,0");
        y.set(5, 64);
        Check.same("halts", y.run(10), 5);
        Check.same("ION", y.register(7), 1);
        y.set(5, 69);
        y.run(1);
        Check.same("the one before was of another run", y.register(10), 0);
        y.run(1);
        Check.same("a test of 63 does not hold it back", y.register(10), 1);

        NovaDesk z = Desk.with(".LOC 1", "300", ".LOC 100", "NIOS TTO", "JMP .+1", "JMP .+1", "JMP .+1",
                "INTEN", "JMP @50", ".LOC 50", "100050");
        z.set(5, 64);
        Check.same("lost behind INTEN", z.run(10), 5);
        Check.same("why", z.why(), 2);
        z.put(40, 320);
        Check.same("mended", z.run(1), 1);
        Check.same("INTEN is still the one before", z.register(10), 0);
        Check.same("the PC", z.register(5), 320);
        z.run(1);
        Check.same("then it comes", z.register(10), 1);

        NovaDesk m = Desk.with(".LOC 1", "300", ".LOC 100", "MSKO 0", "INTEN", "NIOS TTO", "JMP .", ".LOC 200",
                "IORST");
        m.set(0, 1);
        m.set(5, 64);
        m.run(50);
        Check.same("a masked one does not come", m.register(10), 0);
        Check.same("DONE all the same", m.device(9, 2), 1);
    }

    private static void lostInterrupt() {
        NovaDesk x = Desk.with(".LOC 1", "100025", ".LOC 21", "0", ".LOC 25", "100025", ".LOC 100", "NIOS TTO",
                "INTEN", "JMP .");
        x.put(21, 32768 | 300);
        x.put(301, 32768 | 301);
        x.set(5, 64);
        Check.same("done", x.run(100), 4);
        Check.same("why", x.why(), 2);
        Check.same("the PC stays", x.register(5), 66);
        Check.same("word 0", x.word(0), 66);
        Check.same("not ION", x.register(7), 0);
        Check.same("lost ones are counted", x.register(10), 1);
        Check.same("what was counted stays", x.word(21), 32768 | 301);
        Check.same("then it goes on", x.run(3), 3);
        Check.same("at the PC", x.register(5), 66);
    }
}
