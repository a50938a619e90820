/** A text assembled by a new object, and what is due of it. */
final class Assembling {
    private Assembling() {
    }

    /** These words from 0 on, and no fault. */
    static void makes(String text, int... due) {
        NovaDesk x = new NovaDesk();
        makesIn(x, text, due.length);
        for (int i = 0; i < due.length; i++) {
            Check.same("word " + i + " of " + text, Integer.toOctalString(x.word(i)), Integer.toOctalString(due[i]));
        }
        Check.same("no word behind " + text, x.word(due.length), 0);
    }

    /** These words at these addresses: address, word, address, word and so on. */
    static void makesAt(String text, int... due) {
        NovaDesk x = new NovaDesk();
        makesIn(x, text, due.length / 2);
        for (int i = 0; i + 1 < due.length; i += 2) {
            Check.same("word at " + due[i] + " of " + text, Integer.toOctalString(x.word(due[i])),
                    Integer.toOctalString(due[i + 1]));
        }
    }

    /** So many words in this object, and no fault. */
    static void makesIn(NovaDesk x, String text, int words) {
        Check.same("assemble of " + text, Desk.assemble(x, text), words);
        Check.same("fault of " + text, x.fault(0), 0);
        Check.same("line of " + text, x.fault(1), 0);
    }

    static void fails(String text, int fault, int line) {
        NovaDesk x = new NovaDesk();
        Check.same("assemble of " + text, Desk.assemble(x, text), -1);
        Check.same("fault of " + text, x.fault(0), fault);
        Check.same("line of " + text, x.fault(1), line);
        for (int address = 0; address < 4; address++) {
            Check.same("nothing was put by " + text, x.word(address), 0);
        }
    }
}
