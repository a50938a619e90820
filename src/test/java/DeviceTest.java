/** The document's terms of devices: their instructions, those of the machine (63), and promise 6. */
final class DeviceTest {
    public static void main(String[] args) {
        newDevices();
        fields();
        inputs();
        outputs();
        outputOfEightBits();
        controls();
        whatBeforeControl();
        tests();
        testsDoNoControl();
        noDevice();
        switches();
        whoAsks();
        mask();
        ioReset();
        accumulatorsOfMachine();
        machineTests();
        machineControls();
        Check.finish();
    }

    /** An object whose device is DONE (the reader by a character 200). */
    private static NovaDesk done(int device) {
        NovaDesk x = new NovaDesk();
        x.tape(200);
        Desk.step(x, 100, 0x6040 | device);
        Desk.idle(x, 20);
        return x;
    }

    private static NovaDesk busy(int device) {
        NovaDesk x = new NovaDesk();
        Desk.step(x, 100, 0x6040 | device);
        return x;
    }

    private static void newDevices() {
        Check.promise(6, "Of a device 8 .. 10: its word (what = 0; 0 of the clock), BUSY (1), DONE (2).");
        for (int d = 8; d <= 10; d++) {
            NovaDesk x = busy(d);
            Check.same("word of " + d, x.device(d, 0), 0);
            Desk.deviceIs(x, "started", d, 1, 0);
            for (int other = 8; other <= 10; other++) {
                if (other != d) {
                    Desk.deviceIs(x, "when " + d + " is BUSY", other, 0, 0);
                }
            }
            NovaDesk y = done(d);
            Desk.deviceIs(y, "done", d, 0, 1);
            Check.same("word of " + d + " that is DONE", y.device(d, 0), d == 8 ? 200 : 0);
            for (int other = 8; other <= 10; other++) {
                if (other != d) {
                    Desk.deviceIs(y, "when " + d + " is DONE", other, 0, 0);
                }
            }
        }
        NovaDesk x = new NovaDesk();
        x.set(0, 65535);
        for (int what = 0; what <= 6; what++) {
            Desk.step(x, 100, 0x6000 | what << 8 | 10);
            Check.same("0 of the clock behind what " + what, x.device(10, 0), 0);
        }
    }

    private static void fields() {
        Check.terms("Instructions of them: A (bits 12, 11), WHAT (10 .. 8), CONTROL (7, 6), DEVICE (5 .. 0).");
        for (int device = 0; device < 63; device++) {
            NovaDesk x = new NovaDesk();
            x.set(3, 255);
            Desk.step(x, 50, 0x6000 | 3 << 11 | 2 << 8 | 1 << 6 | device);
            for (int d = 8; d <= 10; d++) {
                Desk.deviceIs(x, "DOAS of " + device, d, d == device ? 1 : 0, 0);
            }
            Check.same("the printer's word by DOAS of " + device, x.device(9, 0), device == 9 ? 255 : 0);
        }
        for (int a = 0; a <= 3; a++) {
            NovaDesk x = new NovaDesk();
            x.set(a, 70 + a);
            Desk.step(x, 50, 0x6000 | a << 11 | 2 << 8 | 9);
            Check.same("DOA of accumulator " + a, x.device(9, 0), 70 + a);
        }
    }

    private static void inputs() {
        Check.terms("What: 0 nothing; 1, 3, 5 A becomes: of the reader by 1 its word, otherwise 0;");
        for (int device = 8; device <= 10; device++) {
            for (int what = 0; what <= 6; what++) {
                for (int a = 0; a <= 3; a++) {
                    NovaDesk x = done(8);
                    for (int r = 0; r <= 3; r++) {
                        x.set(r, 0x1FE);
                    }
                    Desk.step(x, 50, 0x6000 | a << 11 | what << 8 | device);
                    String when = "what " + what + " of " + device + " with accumulator " + a;
                    int in = device == 8 && what == 1 ? 200 : 0;
                    for (int r = 0; r <= 3; r++) {
                        Check.same(when + ": " + r, x.register(r), r == a && what % 2 == 1 ? in : 0x1FE);
                    }
                    Check.same(when + ": the reader's word stays", x.device(8, 0), 200);
                    Desk.deviceIs(x, when + ": without control", 8, 0, 1);
                    Check.same(when + ": the PC", x.register(5), 51);
                }
            }
        }
    }

    private static void outputs() {
        Check.terms("2, 4, 6: the printer's word becomes the lowest 8 bits of A by 2.");
        for (int device = 8; device <= 10; device++) {
            for (int what = 0; what <= 6; what++) {
                NovaDesk x = done(8);
                x.set(2, 0x1FE);
                Desk.step(x, 50, 0x6000 | 2 << 11 | what << 8 | device);
                String when = "what " + what + " of " + device;
                Check.same(when + ": the printer's word", x.device(9, 0), device == 9 && what == 2 ? 0xFE : 0);
                Check.same(when + ": the reader's word", x.device(8, 0), 200);
                Check.same(when + ": the clock's word", x.device(10, 0), 0);
            }
        }
    }

    private static void outputOfEightBits() {
        Check.terms("DEVICES: 8 the reader, 9 the printer, 10 the clock, each with a WORD (8 bits of the reader's and"
                + " printer's), BUSY and DONE; 63 the machine.");
        NovaDesk x = new NovaDesk();
        for (int v : new int[] {255, 256, 0, 1, 65535, 0xFF00, 0x80, 0x7F}) {
            x.set(1, v);
            Desk.step(x, 50, 0x6000 | 1 << 11 | 2 << 8 | 9);
            Check.same("the printer's word by " + v, x.device(9, 0), v % 256);
            Check.same("A stays", x.register(1), v);
        }
        for (int c : new int[] {255, 0, 128}) {
            x.tape(c);
            Desk.step(x, 50, 0x6048);
            Desk.idle(x, 3);
            Check.same("the reader's word by " + c, x.device(8, 0), c);
        }
    }

    private static void controls() {
        Check.terms("Otherwise, then, control: 1 START: BUSY, not DONE; 2 CLEAR: neither; 3 nothing.");
        int[][] due = {{0, 0}, {1, 0}, {0, 0}, {0, 0}};
        for (int d = 8; d <= 10; d++) {
            for (int what = 0; what <= 6; what++) {
                for (int control = 0; control <= 3; control++) {
                    int instruction = 0x6000 | what << 8 | control << 6 | d;
                    String when = "what " + what + " with control " + control;
                    NovaDesk x = new NovaDesk();
                    Desk.step(x, 50, instruction);
                    Desk.deviceIs(x, when + " of one that is neither", d, due[control][0], due[control][1]);
                    NovaDesk y = busy(d);
                    Desk.step(y, 50, instruction);
                    Desk.deviceIs(y, when + " of one that is BUSY", d, control == 2 ? 0 : 1, 0);
                    NovaDesk z = done(d);
                    Desk.step(z, 50, instruction);
                    Desk.deviceIs(z, when + " of one that is DONE", d, control == 1 ? 1 : 0, control % 3 == 0 ? 1 : 0);
                    Check.same(when + ": the PC", z.register(5), 51);
                }
            }
        }
    }

    private static void whatBeforeControl() {
        Check.terms("Otherwise, then, control: 1 START: BUSY, not DONE; 2 CLEAR: neither; 3 nothing.");
        NovaDesk x = done(8);
        x.tape(9);
        Desk.step(x, 50, 0x6000 | 1 << 11 | 1 << 8 | 1 << 6 | 8);
        Check.same("DIAS has the word of before", x.register(1), 200);
        Desk.deviceIs(x, "DIAS", 8, 1, 0);
        Check.same("the word stays by START", x.device(8, 0), 200);
        Desk.step(x, 50, 0x6000 | 2 << 11 | 1 << 8 | 2 << 6 | 8);
        Check.same("DIAC has it, too", x.register(2), 200);
        Desk.deviceIs(x, "DIAC", 8, 0, 0);
        Check.same("the word stays by CLEAR", x.device(8, 0), 200);
        NovaDesk y = new NovaDesk();
        y.set(0, 77);
        Desk.step(y, 50, 0x6000 | 2 << 8 | 1 << 6 | 9);
        Desk.idle(y, 3);
        Check.same("DOAS prints the word that it brings", y.printed(0), 77);
        Desk.step(y, 50, 0x6000 | 2 << 8 | 2 << 6 | 9);
        Check.same("DOAC leaves the word", y.device(9, 0), 77);
    }

    private static void skips(String when, NovaDesk x, int device, int control, int due) {
        Desk.step(x, 50, 0x6700 | control << 6 | device);
        Check.same("skip by control " + control + " of " + device + " that is " + when, x.register(5) - 51, due);
    }

    private static void tests() {
        Check.terms("7: the next one is skipped if, by control, it is BUSY, not BUSY, DONE, not DONE (a device that is none is"
                + " neither).");
        int[] neither = {0, 1, 0, 1};
        int[] busy = {1, 0, 0, 1};
        int[] done = {0, 1, 1, 0};
        for (int d = 8; d <= 10; d++) {
            for (int control = 0; control < 4; control++) {
                skips("neither", new NovaDesk(), d, control, neither[control]);
                skips("BUSY", busy(d), d, control, busy[control]);
                skips("DONE", done(d), d, control, done[control]);
            }
        }
    }

    private static void testsDoNoControl() {
        Check.terms("Otherwise, then, control: 1 START: BUSY, not DONE; 2 CLEAR: neither; 3 nothing.");
        for (int d = 8; d <= 10; d++) {
            for (int control = 0; control < 4; control++) {
                NovaDesk x = new NovaDesk();
                x.set(0, 99);
                Desk.step(x, 50, 0x6700 | control << 6 | d);
                Desk.deviceIs(x, "a test of one that is neither", d, 0, 0);
                Check.same("a test leaves A", x.register(0), 99);
                NovaDesk y = done(d);
                Desk.step(y, 50, 0x6700 | control << 6 | d);
                Desk.deviceIs(y, "a test of one that is DONE", d, 0, 1);
                NovaDesk z = busy(d);
                Desk.step(z, 50, 0x6700 | control << 6 | d);
                Desk.deviceIs(z, "a test of one that is BUSY", d, 1, 0);
            }
        }
    }

    private static void noDevice() {
        Check.terms("7: the next one is skipped if, by control, it is BUSY, not BUSY, DONE, not DONE (a device that is none is"
                + " neither).");
        int[] neither = {0, 1, 0, 1};
        for (int device = 0; device < 63; device += device == 7 ? 4 : 1) {
            NovaDesk x = new NovaDesk();
            for (int control = 0; control < 4; control++) {
                skips("none", x, device, control, neither[control]);
            }
            Desk.step(x, 50, 0x6040 | device);
            for (int control = 0; control < 4; control++) {
                skips("none, behind START", x, device, control, neither[control]);
            }
        }
        Check.terms("What: 0 nothing; 1, 3, 5 A becomes: of the reader by 1 its word, otherwise 0;");
        for (int device : new int[] {0, 7, 11, 62}) {
            for (int what = 0; what <= 6; what++) {
                NovaDesk x = done(8);
                x.set(1, 99);
                Desk.step(x, 50, 0x6000 | 1 << 11 | what << 8 | 1 << 6 | device);
                Check.same("what " + what + " of none: A", x.register(1), what % 2 == 1 ? 0 : 99);
                Check.same("what " + what + " of none: the PC", x.register(5), 51);
                Check.same("what " + what + " of none: the printer's word", x.device(9, 0), 0);
                Desk.deviceIs(x, "START of none", 8, 0, 1);
                Desk.deviceIs(x, "START of none", 9, 0, 0);
                Desk.deviceIs(x, "START of none", 10, 0, 0);
                Check.same("START of none is none of the machine", x.register(7), 0);
            }
        }
    }

    private static void switches() {
        Check.terms("Of 63: 1 A becomes the switches");
        NovaDesk x = new NovaDesk();
        for (int v : new int[] {65535, 0, 32768}) {
            x.set(6, v);
            for (int a = 0; a <= 3; a++) {
                x.set(a, 5);
                Desk.step(x, 50, 0x613F | a << 11);
                Check.same("switches " + v + " to " + a, x.register(a), v);
            }
        }
    }

    private static void whoAsks() {
        Check.terms("3 the number of the device that asks for an interrupt, the least one, 0 for none;");
        for (int d = 8; d <= 10; d++) {
            NovaDesk x = new NovaDesk();
            x.tape(1);
            x.set(1, 99);
            Desk.step(x, 50, 0x633F | 1 << 11);
            Check.same("none asks", x.register(1), 0);
            Desk.step(x, 50, 0x6040 | d);
            x.set(1, 99);
            Desk.step(x, 50, 0x633F | 1 << 11);
            Check.same("one that is BUSY does not ask", x.register(1), 0);
            Desk.idle(x, 20);
            Desk.step(x, 50, 0x633F | 1 << 11);
            Check.same("it asks", x.register(1), d);
            Desk.deviceIs(x, "asking who leaves it so", d, 0, 1);
        }
        // The printer's fourth tick goes by behind the instruction that asks who asks.
        NovaDesk x = Desk.at(100, 0x6049, Desk.NEXT, Desk.NEXT, 0x633F);
        x.set(0, 99);
        x.run(4);
        Check.same("ticks go by behind it", x.register(0), 0);
        Desk.deviceIs(x, "behind it", 9, 0, 1);
    }

    private static void mask() {
        Check.terms("4 A is the MASK (bit 0 the printer, 1 the reader, 2 the clock)");
        NovaDesk x = new NovaDesk();
        x.tape(1);
        Desk.step(x, 100, 0x604A);
        Desk.idle(x, 20);
        Desk.step(x, 100, 0x6048);
        Desk.step(x, 100, 0x6049);
        Desk.idle(x, 4);
        int[] due = {8, 8, 9, 10, 8, 8, 9, 0};
        for (int m = 0; m < 8; m++) {
            for (int above : new int[] {0, 0xFFF8}) {
                x.set(3, above | m);
                Desk.step(x, 50, 0x643F | 3 << 11);
                Check.same("mask " + m, x.register(8), m);
                Check.same("A stays", x.register(3), above | m);
                Desk.step(x, 50, 0x633F | 1 << 11);
                Check.same("who asks by mask " + m, x.register(1), due[m]);
            }
        }
        Check.terms("A device ASKS if it is DONE and its mask bit is 0.");
        Desk.step(x, 100, 0x6088);
        int[] dueThen = {9, 10, 9, 10, 9, 0, 9, 0};
        for (int m = 0; m < 8; m++) {
            x.set(0, m);
            Desk.step(x, 50, 0x643F);
            Desk.step(x, 50, 0x633F | 1 << 11);
            Check.same("who asks by mask " + m + " when the reader is not DONE", x.register(1), dueThen[m]);
        }
    }

    private static void ioReset() {
        Check.terms("5 all devices are neither BUSY nor DONE, the mask is 0 (A stays as it is, as by 0, 2, 4, 6);");
        NovaDesk x = done(8);
        x.set(0, 7);
        Desk.step(x, 50, 0x643F);
        Desk.step(x, 50, 0x6000 | 2 << 8 | 1 << 6 | 9);
        Desk.step(x, 50, 0x604A);
        Desk.step(x, 50, 0x607F);
        Desk.deviceIs(x, "before", 8, 0, 1);
        Desk.deviceIs(x, "before", 9, 1, 0);
        Desk.deviceIs(x, "before", 10, 1, 0);
        x.set(3, 1234);
        Desk.step(x, 50, 0x653F | 3 << 11);
        for (int d = 8; d <= 10; d++) {
            Desk.deviceIs(x, "IORST", d, 0, 0);
        }
        Check.same("the mask", x.register(8), 0);
        Check.same("A", x.register(3), 1234);
        Check.same("ION stays", x.register(7), 1);
        Check.same("the reader's word stays", x.device(8, 0), 200);
        Check.same("the printer's word stays", x.device(9, 0), 7);
        Desk.idle(x, 30);
        for (int d = 8; d <= 10; d++) {
            Desk.deviceIs(x, "nothing goes on behind IORST", d, 0, 0);
        }
        Check.same("nothing was printed", x.tear(), 0);
    }

    private static void accumulatorsOfMachine() {
        Check.terms("5 all devices are neither BUSY nor DONE, the mask is 0 (A stays as it is, as by 0, 2, 4, 6);");
        for (int what = 0; what <= 6; what++) {
            for (int a = 0; a <= 3; a++) {
                NovaDesk x = new NovaDesk();
                x.set(6, 4444);
                for (int r = 0; r <= 3; r++) {
                    x.set(r, 1230 + r);
                }
                Desk.step(x, 50, 0x603F | a << 11 | what << 8);
                int due = what == 1 ? 4444 : what == 3 ? 0 : 1230 + a;
                for (int r = 0; r <= 3; r++) {
                    Check.same("what " + what + " of 63: " + r, x.register(r), r == a ? due : 1230 + r);
                }
                Check.same("what " + what + " of 63: the PC", x.register(5), 51);
                Check.same("what " + what + " of 63: it halts", x.why(), what == 6 ? 1 : 0);
            }
        }
    }

    private static void machineTests() {
        Check.terms("7: if, by control, ION, not ION, never, always.");
        int[] dueOff = {0, 1, 0, 1};
        int[] dueOn = {1, 0, 0, 1};
        for (int a = 0; a <= 3; a++) {
            NovaDesk x = new NovaDesk();
            for (int control = 0; control < 4; control++) {
                skips("not ION", x, 63 | a << 11, control, dueOff[control]);
                Check.same("a test leaves ION", x.register(7), 0);
            }
            Desk.step(x, 50, 0x607F);
            for (int control = 0; control < 4; control++) {
                skips("ION", x, 63 | a << 11, control, dueOn[control]);
                Check.same("a test leaves ION", x.register(7), 1);
            }
        }
    }

    private static void machineControls() {
        Check.terms("Otherwise control 1: ION, 2: not ION.");
        for (int what = 0; what <= 6; what++) {
            int[] dueOff = {0, 1, 0, 0};
            int[] dueOn = {1, 1, 0, 1};
            for (int control = 0; control < 4; control++) {
                NovaDesk x = new NovaDesk();
                Desk.step(x, 50, 0x603F | what << 8 | control << 6);
                Check.same("what " + what + " control " + control, x.register(7), dueOff[control]);
                Check.same("the PC", x.register(5), 51);
                NovaDesk y = new NovaDesk();
                Desk.step(y, 50, 0x607F);
                Desk.step(y, 50, 0x603F | what << 8 | control << 6);
                Check.same("what " + what + " control " + control + " with ION", y.register(7), dueOn[control]);
            }
        }
    }
}
