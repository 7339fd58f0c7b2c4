/**
 * Promises 2 to 37 and 40: each refusal, each finding, where several fit the one that is due, and that behind it all is
 * as it was but for status().
 */
public final class RefusalsTest {
    /** status() is 5 there, which no call that is refused may change. */
    private static final Run.Call FIFTH = x -> x.copy(0, 0, 1, 0, 0);

    private static final Run MANOR = new Run(x -> x.row(0, 0, 8), x -> x.row(1, 2, 9)).told(Check.MANOR)
        .then(x -> x.buy(1, 0, 0), x -> x.buy(2, 0, 0), x -> x.buy(2, 3, 7), x -> x.back(2, 3, 7))
        .then(x -> x.curtain(1, 0, 2), x -> x.write(2), x -> x.image(1), x -> x.write(3), x -> x.ask(2, 0))
        .fed("h2,1,").then(FIFTH);

    /** Two who have no coin where nothing is free but what is written down, and two who have some. */
    private static final Run POOR = new Run(x -> x.row(0, 0, 8), x -> x.row(1, 2, 9))
        .told("h2,1,2;g0,1;t0;t2;t1;t9;").then(x -> x.write(7), FIFTH);

    /** All 24 SEATS are sold, those of VISITOR 0 in MINUTES 0 to 3, in a HOUSE of 48. */
    private static final Run SOLD = new Run(x -> x.row(0, 0, 8), x -> x.row(1, 2, 9)).told("h6,1,0;g0,1;t0;t0;")
        .times(24, (x, i) -> x.buy(0, i % 6, i / 6)).then(FIFTH);

    public static void main(String[] args) {
        row();
        set();
        copy();
        drop();
        feed();
        house();
        undo();
        buy();
        back();
        curtain();
        write();
        account();
        images();
        asked();
        status();
        Check.end();
    }

    private static void row() {
        Check.stays("2: SIZE, where a ROW stands", MANOR, x -> x.row(0, 1, -1), Check.SIZE);
        Check.stays("2: SIZE, where none stands", MANOR, x -> x.row(7, 1, -1), Check.SIZE);
        Check.stays("2: SIZE, the least", MANOR, x -> x.row(0, 1, Integer.MIN_VALUE), Check.SIZE);
        Check.stays("2: n above 40", MANOR, x -> x.row(0, 1, 41), Check.BAD);
        Check.stays("2: ROW ahead of SIZE", MANOR, x -> x.row(8, 0, -1), Check.BAD);
        Check.stays("2: LANE ahead of SIZE", MANOR, x -> x.row(0, 3, -1), Check.BAD);
        Check.stays("2: LANE ahead of SIZE", MANOR, x -> x.row(0, -1, -1), Check.BAD);
    }

    private static void set() {
        Check.stays("3: NULL", MANOR, x -> x.set(2, 0, 1), Check.NULL);
        Check.stays("3: NULL ahead of PLACE", MANOR, x -> x.set(2, -1, 1), Check.NULL);
        Check.stays("3: NULL ahead of PLACE", MANOR, x -> x.set(2, 40, 1), Check.NULL);
        Check.stays("3: PLACE", MANOR, x -> x.set(0, 8, 1), Check.PLACE);
        Check.stays("3: PLACE", MANOR, x -> x.set(0, -1, 1), Check.PLACE);
        Check.stays("3: BAD ahead of PLACE", MANOR, x -> x.set(8, -1, 1), Check.BAD);
    }

    private static void copy() {
        Check.stays("4: BAD ahead of NULL", MANOR, x -> x.copy(8, 0, 2, 0, 1), Check.BAD);
        Check.stays("4: BAD ahead of NULL", MANOR, x -> x.copy(2, 0, 8, 0, 1), Check.BAD);
        Check.stays("4: BAD ahead of PLACE", MANOR, x -> x.copy(0, -1, -1, 0, 1), Check.BAD);
        Check.stays("4: NULL, a", MANOR, x -> x.copy(2, 0, 0, 0, 1), Check.NULL);
        Check.stays("4: NULL, b", MANOR, x -> x.copy(0, 0, 2, 0, 1), Check.NULL);
        Check.stays("4: NULL, both", MANOR, x -> x.copy(2, 0, 2, 0, 1), Check.NULL);
        Check.stays("4: NULL ahead of PLACE", MANOR, x -> x.copy(0, -1, 2, -1, -1), Check.NULL);
        Check.stays("4: NULL ahead of PLACE", MANOR, x -> x.copy(2, -1, 0, -1, -1), Check.NULL);
        Check.stays("4: STORE", MANOR, x -> x.copy(1, 0, 0, 0, 1), Check.STORE);
        Check.stays("4: STORE ahead of PLACE", MANOR, x -> x.copy(0, 8, 1, 0, 1), Check.STORE);
        Check.stays("4: STORE ahead of PLACE", MANOR, x -> x.copy(0, 0, 1, 9, 1), Check.STORE);
        Check.stays("4: STORE ahead of PLACE", MANOR, x -> x.copy(0, 0, 1, 0, -1), Check.STORE);
        Check.stays("4: PLACE, i", MANOR, x -> x.copy(0, 8, 0, 0, 1), Check.PLACE);
        Check.stays("4: PLACE, j", MANOR, x -> x.copy(0, 0, 0, 8, 1), Check.PLACE);
        Check.stays("4: PLACE, n", MANOR, x -> x.copy(0, 0, 0, 0, -1), Check.PLACE);
        Check.stays("4: PLACE, none of the ITEMS comes", MANOR.then(x -> x.set(0, 0, 3), FIFTH),
            x -> x.copy(0, 0, 0, 1, 8), Check.PLACE);
    }

    private static void drop() {
        Check.stays("5: NULL", MANOR, x -> x.drop(2), Check.NULL);
        Check.stays("5: NULL, dropped", MANOR.then(x -> x.drop(0), x -> x.row(0, 0, -1)), x -> x.drop(0), Check.NULL);
        Check.stays("5: BAD", MANOR, x -> x.drop(8), Check.BAD);
    }

    private static void feed() {
        Run all = new Run(x -> x.row(0, 0, 8), x -> x.row(1, 2, 9)).fed(Check.CASTLE).then(FIFTH);
        Check.due("6: the last byte", new Run().fed(Check.CASTLE).last(), 140);
        Check.stays("6: FULL", all, x -> x.feed(';'), Check.FULL);
        Check.stays("6: BAD ahead of FULL", all, x -> x.feed(256), Check.BAD);
        Check.stays("6: BAD ahead of FULL", all, x -> x.feed(-1), Check.BAD);
        Check.stays("6: BAD", MANOR, x -> x.feed(256), Check.BAD);
        Check.due("7: and it is read", all.then(SeenAgain::house).last(), 6);
        Check.due("6: room again", all.then(SeenAgain::house, x -> x.feed(0)).last(), 1);
    }

    /** A FAULT empties the tape and is told; all else stays, whatever had been read ahead of it. */
    private static void house() {
        Run before = MANOR.then(SeenAgain::house);
        Check.due("8: the end", before.made().fault(), 1);
        String[] texts = {"", "h", "h2,1,0", "h4,1,1;g2,3;g0,3;g0", "h3,1,5;r0,1,2,0,1,2,0", "h2,1,0;a0;d1;l2;t"};
        for (String text : texts) {
            Run behind = MANOR.then(SeenAgain::house).told(text);
            Check.due("7: a FAULT behind " + text, behind.last(), -1000100 - text.length());
            Check.due("7: what stays behind " + text, behind.portrait(), before.portrait());
            Check.due("40: status() behind " + text, behind.made().status(), 5);
        }
    }

    private static void undo() {
        Run none = MANOR.times(7, (x, i) -> x.undo()).then(FIFTH);
        Check.due("9: seven ACTS", none.made().count(7), 0);
        Check.stays("9: none", none, SeenAgain::undo, Check.STATE);
        Check.stays("9: none behind restore()", MANOR.then(x -> x.restore(1)), SeenAgain::undo, Check.STATE);
        Check.stays("9: none behind house()", MANOR.then(SeenAgain::house).told(Check.HUT), SeenAgain::undo,
            Check.STATE);
    }

    private static void buy() {
        Check.stays("10: he holds one there", MANOR, x -> x.buy(1, 0, 0), Check.STATE);
        Check.stays("10: none is left of these", MANOR, x -> x.buy(0, 0, 0), Check.FULL);
        Check.stays("10: none is left of these", MANOR, x -> x.buy(3, 0, 0), Check.FULL);
        Check.stays("10: BAD ahead of STATE", MANOR, x -> x.buy(1, 0, 8), Check.BAD);
        Check.stays("10: the PURSE is less by all", POOR, x -> x.buy(0, 0, 0), Check.FULL);
        Check.stays("10: the PURSE is less by 1", POOR, x -> x.buy(2, 0, 0), Check.FULL);
        Check.due("10: the PURSE is as much", POOR.then(x -> x.buy(1, 0, 0)).last(), 2);
        Check.due("10: nothing for nothing", POOR.then(x -> x.buy(0, 0, 7)).last(), 0);
        Check.stays("10: STATE ahead of the PURSE", POOR.then(x -> x.buy(1, 0, 0)), x -> x.buy(1, 0, 0), Check.STATE);
        Check.stays("10: none is left in all", SOLD, x -> x.buy(1, 0, 4), Check.FULL);
        Check.stays("10: none is left in all, nor of these", SOLD, x -> x.buy(1, 0, 0), Check.FULL);
        Check.stays("10: STATE ahead of FULL", SOLD, x -> x.buy(0, 5, 3), Check.STATE);
        Check.stays("10: BAD ahead of FULL", SOLD, x -> x.buy(2, 0, 4), Check.BAD);
    }

    private static void back() {
        Check.stays("11: he holds none", MANOR, x -> x.back(0, 0, 0), Check.STATE);
        Check.stays("11: he holds none any more", MANOR, x -> x.back(2, 3, 7), Check.STATE);
        Check.stays("11: he holds none then", MANOR, x -> x.back(2, 0, 1), Check.STATE);
        Check.stays("11: he holds none there", MANOR, x -> x.back(2, 1, 0), Check.STATE);
        Check.stays("11: BAD ahead of STATE", MANOR, x -> x.back(4, 0, 0), Check.BAD);
    }

    private static void curtain() {
        Check.stays("12: it was drawn", MANOR, x -> x.curtain(0, 1, 2), Check.STATE);
        Check.stays("12: it was drawn", MANOR, x -> x.curtain(1, 0, 2), Check.STATE);
        Check.stays("12: no window", MANOR, x -> x.curtain(0, 2, 2), Check.BAD);
        Check.stays("12: no window", MANOR, x -> x.curtain(3, 0, 2), Check.BAD);
        Check.stays("12: no window to itself", MANOR, x -> x.curtain(1, 1, 2), Check.BAD);
        // Shifted by 32 more a ROOM would be ROOM 0 again.
        Check.stays("12: no such ROOM", MANOR, x -> x.curtain(1, 32, 3), Check.BAD);
        Check.stays("12: no such ROOM", MANOR, x -> x.curtain(32, 1, 3), Check.BAD);
    }

    private static void write() {
        Check.stays("13: it was", MANOR, x -> x.write(2), Check.STATE);
        Check.stays("13: it was", MANOR, x -> x.write(3), Check.STATE);
        Check.stays("13: BAD", MANOR, x -> x.write(8), Check.BAD);
        Check.stays("13: BAD", MANOR, x -> x.write(-1), Check.BAD);
    }

    private static void account() {
        Check.stays("29: a set ahead of NULL", MANOR, x -> x.account(16, 0, 2, 0), Check.BAD);
        Check.stays("29: a PERSON ahead of NULL", MANOR, x -> x.account(0, 2, 2, 0), Check.BAD);
        Check.stays("29: a ROW ahead of PLACE", MANOR, x -> x.account(0, 0, 8, -1), Check.BAD);
        Check.stays("29: NULL ahead of PLACE", MANOR, x -> x.account(0, 0, 2, -1), Check.NULL);
        Check.stays("29: a set ahead of PLACE", MANOR, x -> x.account(-1, 0, 0, 1), Check.BAD);
        Run wrong = MANOR.then(x -> x.set(0, 0, 4), x -> x.set(0, 7, -2), FIFTH);
        Check.stays("29: PLACE ahead of ITEMS", wrong, x -> x.account(0, 0, 0, 1), Check.PLACE);
        for (int i = 0; i < 8; i++) {
            int k = i;
            Check.stays("29: ITEM " + i + " is no ROOM", MANOR.then(x -> x.set(0, k, 4), FIFTH),
                x -> x.account(15, 0, 0, 0), Check.BAD);
            Check.stays("29: ITEM " + i + " is below -1", MANOR.then(x -> x.set(0, k, -2), FIFTH),
                x -> x.account(15, 0, 0, 0), Check.BAD);
        }
    }

    private static void images() {
        Check.stays("33: BAD", MANOR, x -> x.image(2), Check.BAD);
        Check.stays("33: BAD", MANOR, x -> x.image(-1), Check.BAD);
        Check.stays("34: BAD", MANOR, x -> x.restore(2), Check.BAD);
        Check.stays("34: BAD", MANOR, x -> x.restore(-1), Check.BAD);
        Check.stays("34: none was kept", MANOR, x -> x.restore(0), Check.STATE);
    }

    private static void asked() {
        Check.stays("36: KIND", MANOR, x -> x.as(0, 1), Check.KIND);
        Check.stays("36: KIND", MANOR, x -> x.as(3, 5), Check.KIND);
        Check.stays("36: BAD ahead of KIND", MANOR, x -> x.as(4, 1), Check.BAD);
        Check.stays("36: BAD ahead of KIND", MANOR, x -> x.as(0, 6), Check.BAD);
        Check.due("38: THE TRACE ahead", MANOR.made().trace(0), 12);
        Check.stays("37: THE TRACE stays", MANOR, x -> x.ask(4, 0), Check.BAD);
        Check.stays("37: THE TRACE stays", MANOR, x -> x.ask(0, 2), Check.BAD);
    }

    /** Calls without a ROW never change it, whatever they answer, nor does status() itself. */
    private static void status() {
        Run found = MANOR.then(SeenAgain::house, FIFTH);
        Run.Call[] calls = {
            x -> x.feed('h'), SeenAgain::house, SeenAgain::fault, SeenAgain::undo, x -> x.buy(3, 1, 1),
            x -> x.back(1, 0, 0), x -> x.curtain(2, 1, 1), x -> x.write(0), x -> x.visitor(0, 0),
            x -> x.seat(0, 0, 0), x -> x.price(0, 0, 0), x -> x.looked(1, 0), x -> x.seen(1, 0, 0),
            x -> x.known(1, 0), x -> x.canBe(1, 0, 0, 0), x -> x.suspects(1, 0, 1), x -> x.settled(0),
            x -> x.cheapest(0, 0, 0), x -> x.nextSeat(0, 0, 1), x -> x.followed(0, 0, 0), x -> x.crowd(0, 0),
            x -> x.told(0, 0, 0), x -> x.believed(0, 0), x -> x.met(0, 1), x -> x.soldOut(0), SeenAgain::haunted,
            x -> x.image(0), x -> x.restore(1), x -> x.kind(0), x -> x.ask(0, 0), x -> x.trace(0), x -> x.count(0),
            SeenAgain::status};
        for (int i = 0; i < calls.length; i++) {
            Check.due("40: a call without a ROW, " + i, found.then(calls[i], SeenAgain::status).last(), 5);
        }
        Run.Call[] none = {
            x -> x.row(0, 0, 0), x -> x.set(0, 0, 0), x -> x.copy(0, 0, 0, 0, 0), x -> x.drop(0), x -> x.as(0, 0),
            x -> x.account(0, 0, 0, 0)};
        for (int i = 0; i < none.length; i++) {
            Check.due("40: it had none, " + i, found.then(none[i], SeenAgain::status).last(), 0);
        }
    }
}
