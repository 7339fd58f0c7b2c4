/** Promises 1 to 5 and 40: a new object, ROWS, status(). */
public final class RowsTest {
    public static void main(String[] args) {
        newObject();
        row();
        set();
        copy();
        drop();
        status();
        Check.end();
    }

    private static void newObject() {
        SeenAgain x = new SeenAgain();
        for (int what = 0; what < 9; what++) {
            Check.due("1: new count(" + what + ")", x.count(what), 0);
        }
        Check.due("1: fault()", x.fault(), 0);
        Check.due("1: status()", x.status(), 0);
        Check.due("1: trace(0)", x.trace(0), Check.NONE);
        Check.due("1: undo()", x.undo(), Check.STATE);
        Check.due("1: visitor(0, 0)", x.visitor(0, 0), Check.BAD);
        Check.due("1: seat(0, 0, 0)", x.seat(0, 0, 0), Check.BAD);
        Check.due("1: write(0)", x.write(0), Check.STATE);
        Check.due("1: haunted()", x.haunted(), Check.STATE);
        Check.due("1: image(0)", x.image(0), Check.STATE);
        Check.due("1: restore(0)", x.restore(0), Check.STATE);
        Check.due("1: drop(7)", x.drop(7), Check.NULL);
        Check.due("1: NONE", SeenAgain.NONE, -1000000);
        Check.due("1: BAD", SeenAgain.BAD, -1000001);
        Check.due("1: STATE", SeenAgain.STATE, -1000002);
        Check.due("1: FULL", SeenAgain.FULL, -1000003);
    }

    private static void row() {
        SeenAgain x = new SeenAgain();
        Check.due("2: row(0, 0, 0)", x.row(0, 0, 0), 0);
        Check.due("2: row(7, 2, 40)", x.row(7, 2, 40), 40);
        Check.due("2: count(0)", x.count(0), 2);
        Check.due("2: row(7, 2, 41)", x.row(7, 2, 41), Check.BAD);
        Check.due("2: row(8, 0, 1)", x.row(8, 0, 1), Check.BAD);
        Check.due("2: row(-1, 0, 1)", x.row(-1, 0, 1), Check.BAD);
        Check.due("2: row(1, 3, 1)", x.row(1, 3, 1), Check.BAD);
        Check.due("2: row(1, -1, 1)", x.row(1, -1, 1), Check.BAD);
        Check.due("2: row(1, 0, -1)", x.row(1, 0, -1), Check.SIZE);
        Check.due("2: row(1, 3, -1), BAD first", x.row(1, 3, -1), Check.BAD);
        Check.due("2: row(7, 0, -5), found", x.row(7, 0, -5), Check.SIZE);
        Check.due("2: drop(7): row found nothing changed", x.drop(7), 40);
        x.row(2, 2, 3);
        x.set(2, 1, 77);
        Check.due("2: row in place of what is there", x.row(2, 2, 3), 3);
        Check.due("2: ITEMS are 0 at first", itemOf(x, 2, 1), 0);
        Check.due("2: a LANE is told anew", x.row(2, 0, 2), 2);
        Check.due("2: of bytes now", x.set(2, 0, 128), -128);
    }

    /** 0 if an ITEM is 0: no call tells one, but account() reads it as a ROOM, and here ROOM 0 alone is true. */
    private static int itemOf(SeenAgain x, int row, int i) {
        Check.read(x, "h6,1,0;r0,0,0,0,0,0,0,0;t9;");
        x.buy(0, 0, 0);
        x.row(6, 2, 8);
        for (int k = 1; k < 8; k++) {
            x.set(6, k, -1);
        }
        x.copy(row, i, 6, 0, 1);
        return x.account(1, 0, 6, 0);
    }

    private static void set() {
        SeenAgain x = new SeenAgain();
        x.row(0, 0, 2);
        x.row(1, 1, 2);
        x.row(2, 2, 2);
        Check.due("3: byte 127", x.set(0, 0, 127), 127);
        Check.due("3: byte 128", x.set(0, 1, 128), -128);
        Check.due("3: byte 255", x.set(0, 0, 255), -1);
        Check.due("3: byte 256", x.set(0, 0, 256), 0);
        Check.due("3: byte -129", x.set(0, 0, -129), 127);
        Check.due("3: short 32767", x.set(1, 0, 32767), 32767);
        Check.due("3: short 32768", x.set(1, 0, 32768), -32768);
        Check.due("3: short 65536", x.set(1, 1, 65536), 0);
        Check.due("3: int least", x.set(2, 0, Integer.MIN_VALUE), Integer.MIN_VALUE);
        Check.due("3: int most", x.set(2, 1, Integer.MAX_VALUE), Integer.MAX_VALUE);
        Check.due("3: place 2 of 2", x.set(0, 2, 1), Check.PLACE);
        Check.due("3: place -1", x.set(0, -1, 1), Check.PLACE);
        Check.due("3: place far", x.set(0, Integer.MAX_VALUE, 1), Check.PLACE);
        Check.due("3: missing", x.set(3, 0, 1), Check.NULL);
        Check.due("3: missing, NULL first", x.set(3, -1, 1), Check.NULL);
        Check.due("3: row 8", x.set(8, 0, 1), Check.BAD);
        Check.due("3: row -1", x.set(-1, 0, 1), Check.BAD);
    }

    private static void copy() {
        SeenAgain x = new SeenAgain();
        x.row(0, 0, 9);
        x.row(1, 0, 8);
        x.row(2, 1, 8);
        Check.due("4: all of b", x.copy(0, 1, 1, 0, 8), 8);
        Check.due("4: none at the ends", x.copy(0, 9, 1, 8, 0), 0);
        Check.due("4: beyond a", x.copy(0, 2, 1, 0, 8), Check.PLACE);
        Check.due("4: beyond b", x.copy(0, 0, 1, 1, 8), Check.PLACE);
        Check.due("4: i below 0", x.copy(0, -1, 1, 0, 1), Check.PLACE);
        Check.due("4: j below 0", x.copy(0, 0, 1, -1, 1), Check.PLACE);
        Check.due("4: n below 0", x.copy(0, 0, 1, 0, -1), Check.PLACE);
        Check.due("4: n far", x.copy(0, 1, 1, 1, Integer.MAX_VALUE), Check.PLACE);
        Check.due("4: i far", x.copy(0, Integer.MAX_VALUE, 1, 0, 1), Check.PLACE);
        Check.due("4: two LANES", x.copy(0, 0, 2, 0, 1), Check.STORE);
        Check.due("4: two LANES, STORE ahead of PLACE", x.copy(0, -1, 2, 0, 1), Check.STORE);
        Check.due("4: a missing", x.copy(3, 0, 2, 0, 1), Check.NULL);
        Check.due("4: b missing, NULL ahead", x.copy(0, -1, 3, 0, 1), Check.NULL);
        Check.due("4: row 8", x.copy(8, 0, 0, 0, 1), Check.BAD);
        Check.due("4: row -1, BAD ahead of NULL", x.copy(3, 0, -1, 0, 1), Check.BAD);
        overlap(1);
        overlap(-1);
    }

    /** ITEMS come "as they were ahead", whichever way ROWS overlap. */
    private static void overlap(int step) {
        SeenAgain x = Check.houseOf("h6,1,0;r1,1,1,1,1,1,1,1;t99;");
        for (int minute = 0; minute < 8; minute++) {
            x.buy(0, 1, minute);
        }
        x.row(0, 2, 9);
        for (int i = 0; i < 9; i++) {
            x.set(0, i, i == 4 ? 0 : 1);
        }
        Check.due("4: overlap", step > 0 ? x.copy(0, 0, 0, 1, 8) : x.copy(0, 1, 0, 0, 8), 8);
        Check.due("4: overlap by " + step, x.account(1, 0, 0, 0), 1 << 4 + step);
    }

    private static void drop() {
        SeenAgain x = new SeenAgain();
        x.row(5, 1, 7);
        Check.due("5: drop(5)", x.drop(5), 7);
        Check.due("5: count(0)", x.count(0), 0);
        Check.due("5: set(5, 0, 0)", x.set(5, 0, 0), Check.NULL);
        Check.due("5: again", x.drop(5), Check.NULL);
        Check.due("5: drop(8)", x.drop(8), Check.BAD);
        Check.due("5: drop(-1)", x.drop(-1), Check.BAD);
        x.row(5, 0, 0);
        Check.due("5: none", x.drop(5), 0);
    }

    private static void status() {
        SeenAgain x = Check.houseOf(Check.MANOR);
        x.drop(0);
        Check.due("40: NULL", x.status(), 1);
        x.drop(-1);
        Check.due("40: BAD leaves it", x.status(), 1);
        x.row(0, 0, 8);
        Check.due("40: none", x.status(), 0);
        x.set(0, 8, 1);
        Check.due("40: PLACE", x.status(), 2);
        x.as(0, 1);
        Check.due("40: KIND", x.status(), 3);
        x.as(0, 6);
        Check.due("40: as() BAD", x.status(), 3);
        x.as(0, 0);
        Check.due("40: as()", x.status(), 0);
        x.row(1, 1, -1);
        Check.due("40: SIZE", x.status(), 4);
        x.undo();
        x.kind(0);
        x.feed('h');
        x.house();
        x.buy(0, 0, 0);
        x.ask(0, 0);
        Check.due("40: other calls leave it", x.status(), 4);
        x.row(1, 1, 8);
        x.copy(0, 0, 1, 0, 1);
        Check.due("40: STORE", x.status(), 5);
        x.copy(0, 0, 0, 1, 1);
        Check.due("40: copy()", x.status(), 0);
        x.account(0, 0, 2, 0);
        Check.due("40: account() NULL", x.status(), 1);
        x.account(0, 0, 0, 1);
        Check.due("40: account() PLACE", x.status(), 2);
        x.set(0, 7, -2);
        x.drop(3);
        x.account(0, 0, 0, 0);
        Check.due("40: account() BAD", x.status(), 1);
        x.set(0, 7, -1);
        x.drop(3);
        x.account(0, 0, 0, 0);
        Check.due("40: account()", x.status(), 0);
        x.drop(3);
        x.drop(0);
        Check.due("40: drop()", x.status(), 0);
    }
}
