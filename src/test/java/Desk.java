/** What tests do with a NovaDesk by several calls. */
final class Desk {
    /** An instruction that does nothing but let the next one come: JMP to the word behind it. */
    static final int NEXT = 0x0101;

    private Desk() {
    }

    /** Puts this text in place of the one that is there. */
    static void type(NovaDesk x, String text) {
        x.end(0);
        feed(x, text);
        x.end(text.length());
    }

    /** Feeds this text, with characters 0 behind it up to a multiple of twenty. */
    static void feed(NovaDesk x, String text) {
        int[] n = new int[5];
        for (int start = 0; start < text.length(); start += 20) {
            for (int i = 0; i < 5; i++) {
                n[i] = packed(text, start + 4 * i);
            }
            x.feed(n[0], n[1], n[2], n[3], n[4]);
        }
    }

    static int assemble(NovaDesk x, String text) {
        type(x, text);
        return x.assemble();
    }

    static int label(NovaDesk x, String name) {
        return x.label(packed(name, 0), packed(name, 4));
    }

    static int packed(String text, int start) {
        int n = 0;
        for (int i = start; i < start + 4; i++) {
            n = n << 8 | (i < text.length() ? text.charAt(i) : 0);
        }
        return n;
    }

    static String tell(NovaDesk x, int address) {
        int length = x.tell(address);
        StringBuilder told = new StringBuilder();
        for (int i = 0; i < length; i++) {
            told.append((char) x.told(i));
        }
        return told.toString();
    }

    /** A new object with these lines assembled and the PC at 0. */
    static NovaDesk with(String... lines) {
        NovaDesk x = new NovaDesk();
        String text = String.join("\n", lines);
        int put = assemble(x, text);
        Check.same("fault of: " + text + " in line " + x.fault(1), x.fault(0), 0);
        Check.same("something was put by: " + text, put > 0 ? 1 : 0, 1);
        return x;
    }

    /** A new object with these words from an address on, and the PC there. */
    static NovaDesk at(int address, int... words) {
        NovaDesk x = new NovaDesk();
        for (int i = 0; i < words.length; i++) {
            x.put(address + i, words[i]);
        }
        x.set(5, address);
        return x;
    }

    /** So many instructions that do nothing. */
    static void idle(NovaDesk x, int n) {
        x.put(3000, 0x0100);
        x.set(5, 3000);
        x.run(n);
    }

    /** One word done at an address of its own. */
    static int step(NovaDesk x, int address, int instruction) {
        x.put(address, instruction);
        x.set(5, address);
        return x.run(1);
    }

    static void deviceIs(NovaDesk x, String when, int device, int busy, int done) {
        Check.same(when + ": BUSY of " + device, x.device(device, 1), busy);
        Check.same(when + ": DONE of " + device, x.device(device, 2), done);
    }
}
