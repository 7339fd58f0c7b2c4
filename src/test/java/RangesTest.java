/**
 * Promises 2 to 39: of each number that a call is told the least and the greatest that is allowed, the first below and
 * the first above, the ends of int, and those that would wrap around where they are shifted by or multiplied.
 */
public final class RangesTest {
    /** A call that is told some numbers. */
    private interface Told {
        int on(SeenAgain x, int... n);
    }

    private static final int[] FAR = {31, 32, 33, 63, 64, 255, 256, 257, 65535, 65536, 1 << 28, 1 << 29, 715827883,
        1 << 30, Integer.MAX_VALUE - 1};

    private final Run ahead;
    private final int rooms;
    private final int people;
    private final int visitors;
    private final int bodies;

    /** With how many BODIES there are in THE TRACE of VISITOR 0's SIZE. */
    private RangesTest(String text, int rooms, int people, int visitors, int bodies) {
        this.rooms = rooms;
        this.people = people;
        this.visitors = visitors;
        this.bodies = bodies;
        // ROWS 0 and 7 stand; both IMAGES are kept; an ACT of each sort can be undone; status() is 1.
        ahead = new Run(x -> x.row(0, 2, 8), x -> x.row(7, 2, 40)).told(text)
            .then(x -> x.image(0), x -> x.write(5), x -> x.image(1), x -> x.curtain(0, 1, 6), x -> x.buy(0, 0, 6))
            .then(x -> x.buy(0, 1, 6), x -> x.back(0, 1, 6), x -> x.ask(0, 0), x -> x.drop(3));
    }

    public static void main(String[] args) {
        new RangesTest(Check.HUT, 2, 1, 1, 4).allCalls();
        new RangesTest(Check.MANOR, 4, 2, 4, 3).allCalls();
        new RangesTest(Check.CASTLE, 6, 4, 4, 4).allCalls();
        Check.end();
    }

    private void allCalls() {
        rows();
        told();
        done();
        seen();
        booked();
        tales();
        asked();
    }

    /** An ITEM beyond is found, not BAD; a ROW of fewer than none as well. */
    private void rows() {
        call("2: row, ROW", (x, n) -> x.row(n[0], 0, 4), 0, 7);
        call("2: row, LANE", (x, n) -> x.row(0, n[0], 4), 0, 2);
        call("2: row, n", (x, n) -> x.row(0, 0, n[0]), 0, 40, Check.SIZE, Check.BAD);
        call("3: set, ROW", (x, n) -> x.set(7 * n[0], 0, 4), 0, 1);
        call("3: set, i of 8", (x, n) -> x.set(0, n[0], 4), 0, 7, Check.PLACE, Check.PLACE);
        call("3: set, i of 40", (x, n) -> x.set(7, n[0], 4), 0, 39, Check.PLACE, Check.PLACE);
        call("4: copy, i of 40", (x, n) -> x.copy(7, n[0], 0, 0, 1), 0, 39, Check.PLACE, Check.PLACE);
        call("4: copy, i of 40, 8 ITEMS", (x, n) -> x.copy(7, n[0], 0, 0, 8), 0, 32, Check.PLACE, Check.PLACE);
        call("4: copy, i of 40, no ITEMS", (x, n) -> x.copy(7, n[0], 0, 0, 0), 0, 40, Check.PLACE, Check.PLACE);
        call("4: copy, j of 40", (x, n) -> x.copy(0, 0, 7, n[0], 1), 0, 39, Check.PLACE, Check.PLACE);
        call("4: copy, j of 40, 8 ITEMS", (x, n) -> x.copy(0, 0, 7, n[0], 8), 0, 32, Check.PLACE, Check.PLACE);
        call("4: copy, j of 40, no ITEMS", (x, n) -> x.copy(0, 0, 7, n[0], 0), 0, 40, Check.PLACE, Check.PLACE);
        call("4: copy, n", (x, n) -> x.copy(7, 0, 7, 0, n[0]), 0, 40, Check.PLACE, Check.PLACE);
        call("4: copy, n behind i", (x, n) -> x.copy(7, 30, 7, 0, n[0]), 0, 10, Check.PLACE, Check.PLACE);
        call("4: copy, n behind j", (x, n) -> x.copy(7, 0, 0, 5, n[0]), 0, 3, Check.PLACE, Check.PLACE);
        outside("3: set, ROW", (x, n) -> x.set(n[0], 0, 4), 0, 7);
        outside("4: copy, a", (x, n) -> x.copy(n[0], 0, 7, 0, 1), 0, 7);
        outside("4: copy, b", (x, n) -> x.copy(7, 0, n[0], 0, 1), 0, 7);
        outside("5: drop", (x, n) -> x.drop(n[0]), 0, 7);
    }

    private void told() {
        call("6: feed", (x, n) -> x.feed(n[0]), 0, 255);
    }

    private void done() {
        ofVisitor("10: buy", (x, n) -> x.buy(n[0], 0, 0));
        ofRoom("10: buy", (x, n) -> x.buy(0, n[0], 0));
        ofMinute("10: buy", (x, n) -> x.buy(0, 0, n[0]));
        ofVisitor("11: back", (x, n) -> x.back(n[0], 0, 6));
        ofRoom("11: back", (x, n) -> x.back(0, n[0], 6));
        ofMinute("11: back", (x, n) -> x.back(0, 0, n[0]));
        call("12: curtain, a", (x, n) -> x.curtain(n[0], 1, 0), 0, 0);
        call("12: curtain, b", (x, n) -> x.curtain(0, n[0], 0), 1, 1);
        ofMinute("12: curtain", (x, n) -> x.curtain(1, 0, n[0]));
        ofMinute("13: write", (x, n) -> x.write(n[0]));
        ofVisitor("14: visitor", (x, n) -> x.visitor(n[0], 2));
        call("14: visitor, what", (x, n) -> x.visitor(0, n[0]), 0, 2);
        ofRoom("15: seat", (x, n) -> x.seat(n[0], 0, 2));
        ofMinute("15: seat", (x, n) -> x.seat(0, n[0], 2));
        call("15: seat, what", (x, n) -> x.seat(0, 6, n[0]), 0, 2);
        ofVisitor("16: price", (x, n) -> x.price(n[0], 1, 0));
        ofRoom("16: price", (x, n) -> x.price(0, n[0], 6));
        ofMinute("16: price", (x, n) -> x.price(0, 0, n[0]));
    }

    private void seen() {
        ofVisitors("17: looked", (x, n) -> x.looked(n[0], 6));
        ofMinute("17: looked", (x, n) -> x.looked(1, n[0]));
        ofVisitors("18: seen", (x, n) -> x.seen(n[0], 0, 6));
        ofPerson("18: seen", (x, n) -> x.seen(1, n[0], 6));
        ofMinute("18: seen", (x, n) -> x.seen(1, 0, n[0]));
        ofVisitors("19: known", (x, n) -> x.known(n[0], 0));
        ofPerson("19: known", (x, n) -> x.known(1, n[0]));
        ofVisitors("20: canBe", (x, n) -> x.canBe(n[0], 0, 0, 6));
        ofPerson("20: canBe", (x, n) -> x.canBe(1, n[0], 0, 6));
        ofRoom("20: canBe", (x, n) -> x.canBe(1, 0, n[0], 6));
        ofMinute("20: canBe", (x, n) -> x.canBe(1, 0, 0, n[0]));
        ofVisitors("21: suspects", (x, n) -> x.suspects(n[0], 0, 255));
        ofRoom("21: suspects", (x, n) -> x.suspects(1, n[0], 255));
        call("21: suspects, MINUTES", (x, n) -> x.suspects(1, 0, n[0]), 0, 255);
    }

    private void booked() {
        ofMinute("22: settled", (x, n) -> x.settled(n[0]));
        ofVisitor("23: cheapest", (x, n) -> x.cheapest(n[0], 0, 0));
        ofMinute("23: cheapest", (x, n) -> x.cheapest(0, n[0], 1));
        call("23: cheapest, what", (x, n) -> x.cheapest(0, 0, n[0]), 0, 1);
        ofVisitor("24: nextSeat", (x, n) -> x.nextSeat(n[0], 0, 255));
        ofRoom("24: nextSeat", (x, n) -> x.nextSeat(0, n[0], 255));
        call("24: nextSeat, MINUTES", (x, n) -> x.nextSeat(0, 0, n[0]), 0, 255);
        ofVisitor("25: followed", (x, n) -> x.followed(n[0], 0, 0));
        ofPerson("25: followed", (x, n) -> x.followed(0, n[0], 1));
        call("25: followed, what", (x, n) -> x.followed(0, 0, n[0]), 0, 1);
    }

    private void tales() {
        ofVisitor("26: crowd", (x, n) -> x.crowd(n[0], 6));
        ofMinute("26: crowd", (x, n) -> x.crowd(0, n[0]));
        ofVisitor("27: told", (x, n) -> x.told(n[0], 0, 6));
        ofPerson("27: told", (x, n) -> x.told(0, n[0], 6));
        ofMinute("27: told", (x, n) -> x.told(0, 0, n[0]));
        ofPerson("28: believed", (x, n) -> x.believed(n[0], 6));
        ofMinute("28: believed", (x, n) -> x.believed(0, n[0]));
        ofVisitors("29: account", (x, n) -> x.account(n[0], 0, 7, 0));
        ofPerson("29: account", (x, n) -> x.account(1, n[0], 7, 0));
        call("29: account, i of 8", (x, n) -> x.account(1, 0, 0, n[0]), 0, 0, Check.PLACE, Check.PLACE);
        call("29: account, i of 40", (x, n) -> x.account(1, 0, 7, n[0]), 0, 32, Check.PLACE, Check.PLACE);
        outside("29: account, ROW", (x, n) -> x.account(1, 0, n[0], 0), 0, 7);
        if (people > 1) {
            call("30: met, a", (x, n) -> x.met(n[0], people - 1), 0, people - 2);
            call("30: met, b", (x, n) -> x.met(0, n[0]), 1, people - 1);
        }
        outside("30: met, a", (x, n) -> x.met(n[0], 0), 0, people - 1);
        outside("30: met, b", (x, n) -> x.met(0, n[0]), 0, people - 1);
        call("31: soldOut", (x, n) -> x.soldOut(n[0]), -1, 0, Check.BAD, Check.NONE);
        call("33: image", (x, n) -> x.image(n[0]), 0, 1);
        call("34: restore", (x, n) -> x.restore(n[0]), 0, 1);
    }

    private void asked() {
        ofVisitor("35: kind", (x, n) -> x.kind(n[0]));
        ofVisitor("36: as", (x, n) -> x.as(n[0], 0));
        call("36: as, KIND", (x, n) -> x.as(0, n[0]), 0, 5);
        ofVisitor("37: ask", (x, n) -> x.ask(n[0], 0));
        call("37: ask, what", (x, n) -> x.ask(0, n[0]), 0, 1);
        call("38: trace", (x, n) -> x.trace(n[0]), 0, bodies - 1, Check.NONE, Check.NONE);
        call("39: count", (x, n) -> x.count(n[0]), 0, 8);
    }

    private void ofVisitor(String what, Told call) {
        call(what + ", VISITOR", call, 0, visitors - 1);
    }

    private void ofVisitors(String what, Told call) {
        call(what + ", set of VISITORS", call, 0, (1 << visitors) - 1);
    }

    private void ofPerson(String what, Told call) {
        call(what + ", PERSON", call, 0, people - 1);
    }

    private void ofRoom(String what, Told call) {
        call(what + ", ROOM", call, 0, rooms - 1);
    }

    private void ofMinute(String what, Told call) {
        call(what + ", MINUTE", call, 0, 7);
    }

    private void call(String what, Told call, int least, int greatest) {
        call(what, call, least, greatest, Check.BAD, Check.BAD);
    }

    private void call(String what, Told call, int least, int greatest, int below, int above) {
        allowed(what, call, least);
        allowed(what, call, greatest);
        outside(what, call, least, greatest, below, above);
    }

    private void allowed(String what, Told call, int n) {
        int answer = call.on(ahead.made(), n);
        // A KIND that he is not is a KIND none the less.
        boolean told = answer != Check.BAD && answer != Check.NULL && answer != Check.PLACE && answer != Check.SIZE;
        Check.due(what + " " + n + " is allowed, but " + answer, told ? 1 : 0, 1);
    }

    private void outside(String what, Told call, int least, int greatest) {
        outside(what, call, least, greatest, Check.BAD, Check.BAD);
    }

    private void outside(String what, Told call, int least, int greatest, int below, int above) {
        stays(what, call, least - 1, below);
        stays(what, call, greatest + 1, above);
        stays(what, call, Integer.MIN_VALUE, below);
        stays(what, call, Integer.MAX_VALUE, above);
        for (int far : FAR) {
            if (far > greatest) {
                Check.due(what + " " + far, call.on(ahead.made(), far), above);
            }
            if (-far < least) {
                Check.due(what + " " + -far, call.on(ahead.made(), -far), below);
            }
        }
    }

    private void stays(String what, Told call, int n, int want) {
        Check.stays(what + " " + n, ahead, x -> call.on(x, n), want);
    }
}
