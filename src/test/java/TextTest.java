/** Promises 13 and 14: feed and end; and that assemble() empties the text. (What they refuse: RefusalTest.) */
final class TextTest {
    public static void main(String[] args) {
        feedsTwenty();
        highestByteFirst();
        everyByte();
        feedsToTheLast();
        keepsTheFirst();
        endOfEmpty();
        feedsBehindEnd();
        isEmptyThen();
        Check.finish();
    }

    private static void feedsTwenty() {
        Check.promise(13, "Twenty characters come behind the text, the highest byte of each number first: how many it has.");
        NovaDesk x = new NovaDesk();
        for (int i = 1; i <= 300; i++) {
            Check.same("feed " + i, x.feed(0x20202020, 0x20202020, 0x20202020, 0x20202020, 0x20202020), 20 * i);
        }
        x.end(5);
        Check.same("behind five", x.feed(0, 0, 0, 0, 0), 25);
        x.end(0);
        Check.same("behind none", x.feed(0, 0, 0, 0, 0), 20);
    }

    private static void highestByteFirst() {
        Check.promise(13, "Twenty characters come behind the text, the highest byte of each number first: how many it has.");
        NovaDesk x = new NovaDesk();
        x.feed(0x310A320A, 0x330A340A, 0x350A360A, 0x370A310A, 0x31310A32);
        x.feed(0x310A3331, 0x0A34310A, 0x35310A36, 0x310A3731, 0x0A303232);
        // The line 21 begins in the first twenty characters and ends in the next.
        Check.same("words", x.assemble(), 16);
        int[] due = {1, 2, 3, 4, 5, 6, 7, 1, 9, 17, 25, 33, 41, 49, 57, 18};
        for (int i = 0; i < due.length; i++) {
            Check.same("word " + i, x.word(i), due[i]);
        }
    }

    /** Characters have eight bits: those of the numbers' signs, too. */
    private static void everyByte() {
        Check.promise(13, "Twenty characters come behind the text, the highest byte of each number first: how many it has.");
        for (int place = 0; place < 20; place++) {
            for (int c : new int[] {0x80, 0xB1, 0xFF}) {
                int[] n = {0x20202020, 0x20202020, 0x20202020, 0x20202020, 0x20202020};
                int shift = 24 - 8 * (place % 4);
                n[place / 4] = n[place / 4] & ~(255 << shift) | c << shift;
                NovaDesk x = new NovaDesk();
                x.feed(n[0], n[1], n[2], n[3], n[4]);
                Check.same("a character " + c + " at " + place + " is no item", x.assemble(), -1);
                Check.same("fault", x.fault(0), 1);
                n[place / 4] = n[place / 4] & ~(255 << shift) | '5' << shift;
                x.feed(n[0], n[1], n[2], n[3], n[4]);
                Check.same("a digit at " + place, x.assemble(), 1);
                Check.same("its word", x.word(0), 5);
            }
        }
    }

    private static void feedsToTheLast() {
        Check.promise(13, "IllegalStateException: there would be more than 6000.");
        NovaDesk x = new NovaDesk();
        Desk.feed(x, "\n".repeat(5999) + "7");
        Check.isFull("6020", () -> x.feed(0, 0, 0, 0, 0));
        Check.same("the last character counts", x.assemble(), 1);
        Check.same("its word", x.word(0), 7);
        NovaDesk y = new NovaDesk();
        Desk.feed(y, "\n".repeat(5999) + "?");
        Check.same("a fault in the last line", y.assemble(), -1);
        Check.same("its line", y.fault(1), 6000);
    }

    private static void keepsTheFirst() {
        Check.promise(14, "The text keeps its first n characters.");
        int[][] cases = {{0, 0, 0}, {1, 1, 1}, {2, 1, 10}, {3, 1, 10}, {4, 2, 10}, {19, 2, 10}, {20, 3, 10}};
        for (int[] c : cases) {
            NovaDesk x = new NovaDesk();
            x.feed(0x31320A34, 0x0A202020, 0x20202020, 0x20202020, 0x20202033);
            x.end(c[0]);
            int n = c[0];
            Check.refuses("no more than " + n, () -> x.end(n + 1));
            Check.same("words of the first " + n, x.assemble(), c[1]);
            Check.same("the first word of the first " + n, x.word(0), c[2]);
        }
        NovaDesk x = new NovaDesk();
        x.feed(0x31320A34, 0x0A202020, 0x20202020, 0x20202020, 0x20202020);
        for (int n = 20; n >= 2; n--) {
            x.end(n);
            x.end(n);
        }
        Check.same("again and again", x.assemble(), 1);
    }

    private static void endOfEmpty() {
        Check.promise(14, "IllegalArgumentException: it has not so many, or n is below 0.");
        NovaDesk x = new NovaDesk();
        x.end(0);
        Check.refuses("end(1) of an empty text", () -> x.end(1));
        Check.refuses("end(-1) of an empty text", () -> x.end(-1));
        Check.same("it is empty", x.feed(0, 0, 0, 0, 0), 20);
        x.end(20);
        Check.refuses("end(21) of 20", () -> x.end(21));
        Desk.feed(x, " ".repeat(5980));
        x.end(6000);
        Check.refuses("end(6001) of 6000", () -> x.end(6001));
    }

    private static void feedsBehindEnd() {
        Check.promise(14, "The text keeps its first n characters.");
        NovaDesk x = new NovaDesk();
        x.feed(0x31323334, 0x35363738, 0x38383838, 0x38383838, 0x38383838);
        x.end(2);
        Check.same("the next ones come behind them", x.feed(0x33202020, 0x20202020, 0x20202020, 0x20202020, 0x20202020), 22);
        Check.same("one word", x.assemble(), 1);
        Check.same("123 to the base 8", x.word(0), 83);
    }

    private static void isEmptyThen() {
        Check.promise(15, "The text is assembled, and is empty then: how many words were put; or, if something is wrong, -1, and"
                + " nothing was put.");
        NovaDesk x = new NovaDesk();
        Check.same("an empty text has no words", x.assemble(), 0);
        Check.same("an empty text has no fault", x.fault(0), 0);
        Desk.type(x, "5");
        Check.same("one word", x.assemble(), 1);
        Check.refuses("empty then", () -> x.end(1));
        Check.same("no words then", x.assemble(), 0);
        Check.same("the word stays", x.word(0), 5);
        Desk.type(x, "6\n?");
        Check.same("a fault", x.assemble(), -1);
        Check.refuses("empty then, too", () -> x.end(1));
        Check.same("no words then, either", x.assemble(), 0);
        Check.same("and no fault", x.fault(0), 0);
        Desk.feed(x, "7\n" + "\n".repeat(5998));
        x.assemble();
        Check.same("a full text is empty then", x.feed(0x31202020, 0x20202020, 0x20202020, 0x20202020, 0x20202020), 20);
        Check.same("nothing of the former is left", x.assemble(), 1);
        Check.same("its word", x.word(0), 1);
    }
}
