import java.util.ArrayDeque;
import java.util.ArrayList;
import java.util.Arrays;
import java.util.Deque;
import java.util.HashMap;
import java.util.List;
import java.util.Map;
import java.util.Set;
import java.util.TreeSet;

/** The document once more, told another way (sets of tuples, whole copies for undoing), to compare with. */
final class Model {
    static final int NONE = -1000000, BAD = -1000001, STATE = -1000002, FULL = -1000003;

    /** A HOUSE; "1,2,3" in held: VISITOR 1 in ROOM 2 in MINUTE 3; in drawn: between 1 and 2 in MINUTE 3. */
    static final class Home {
        int rooms;
        int seats;
        int fee;
        List<int[]> walls = new ArrayList<>();
        List<int[]> people = new ArrayList<>();
        String sorts = "";
        List<Integer> purses = new ArrayList<>();
        Set<String> held = new TreeSet<>();
        Set<String> drawn = new TreeSet<>();
        Set<Integer> written = new TreeSet<>();

        Home twin() {
            Home h = new Home();
            h.rooms = rooms;
            h.seats = seats;
            h.fee = fee;
            h.walls = new ArrayList<>(walls);
            h.people = new ArrayList<>(people);
            h.sorts = sorts;
            h.purses = new ArrayList<>(purses);
            h.held = new TreeSet<>(held);
            h.drawn = new TreeSet<>(drawn);
            h.written = new TreeSet<>(written);
            return h;
        }
    }

    private static final class Fault extends RuntimeException {
        private static final long serialVersionUID = 1;
        final int place;
        final int number;

        Fault(int place, int number) {
            super(null, null, false, false);
            this.place = place;
            this.number = number;
        }
    }

    Home home;
    final Home[] images = new Home[2];
    final Deque<Home> past = new ArrayDeque<>();
    final Map<Integer, int[]> rows = new HashMap<>();
    final Map<Integer, Integer> lanes = new HashMap<>();
    StringBuilder tape = new StringBuilder();
    final List<Integer> trace = new ArrayList<>();
    int fault;
    int status;

    // ---- tests of numbers

    private boolean in(int x, int end) {
        return 0 <= x && x < end;
    }

    private boolean room(int r) {
        return home != null && in(r, home.rooms);
    }

    private boolean person(int p) {
        return home != null && in(p, home.people.size());
    }

    private boolean guest(int v) {
        return home != null && in(v, home.sorts.length());
    }

    private boolean guests(int set) {
        return home != null && in(set, 1 << home.sorts.length());
    }

    private boolean minute(int m) {
        return in(m, 8);
    }

    private boolean minutes(int set) {
        return in(set, 256);
    }

    private int finding(int n) {
        status = n;
        return -1000010 - n;
    }

    private int fine(int answer) {
        status = 0;
        return answer;
    }

    // ---- rows

    int row(int row, int lane, int n) {
        if (!in(row, 8) || !in(lane, 3) || n > 40) {
            return BAD;
        }
        if (n < 0) {
            return finding(4);
        }
        rows.put(row, new int[n]);
        lanes.put(row, lane);
        return fine(n);
    }

    int set(int row, int i, int v) {
        if (!in(row, 8)) {
            return BAD;
        }
        if (!rows.containsKey(row)) {
            return finding(1);
        }
        if (!in(i, rows.get(row).length)) {
            return finding(2);
        }
        int bits = 8 << lanes.get(row);
        rows.get(row)[i] = v << 32 - bits >> 32 - bits;
        return fine(rows.get(row)[i]);
    }

    int copy(int a, int i, int b, int j, int n) {
        if (!in(a, 8) || !in(b, 8)) {
            return BAD;
        }
        if (!rows.containsKey(a) || !rows.containsKey(b)) {
            return finding(1);
        }
        if (!lanes.get(a).equals(lanes.get(b))) {
            return finding(5);
        }
        if (i < 0 || j < 0 || n < 0 || (long) i + n > rows.get(a).length || (long) j + n > rows.get(b).length) {
            return finding(2);
        }
        int[] ahead = rows.get(a).clone();
        for (int k = 0; k < n; k++) {
            rows.get(b)[j + k] = ahead[i + k];
        }
        return fine(n);
    }

    int drop(int row) {
        if (!in(row, 8)) {
            return BAD;
        }
        int[] was = rows.remove(row);
        return was == null ? finding(1) : fine(was.length);
    }

    // ---- what is told

    int feed(int letter) {
        if (!in(letter, 256)) {
            return BAD;
        }
        if (tape.length() == 140) {
            return FULL;
        }
        tape.append((char) letter);
        return tape.length();
    }

    private String text;
    private int at;

    /** What stands at the place at hand: a NUMBER's figures, a letter or SIGN, "" at the end, "?" for no TOKEN. */
    private String token() {
        if (at == text.length()) {
            return "";
        }
        String rest = text.substring(at);
        String figures = rest.split("[^0-9]", 2)[0];
        if (!figures.isEmpty()) {
            return figures.length() > 2 ? "?" : figures;
        }
        return rest.substring(0, 1).matches("[a-z,;]") ? rest.substring(0, 1) : "?";
    }

    private void sign(String wanted) {
        if (!token().equals(wanted)) {
            throw new Fault(at, 1);
        }
        at += wanted.length();
    }

    private int number(int least, int most, int unlike) {
        String t = token();
        if (!t.matches("[0-9]+")) {
            throw new Fault(at, 1);
        }
        int n = Integer.parseInt(t);
        if (n < least || n > most || n == unlike) {
            throw new Fault(at, 2);
        }
        at += t.length();
        return n;
    }

    private void begins(List<?> soFar, int room) {
        if (soFar.size() == room) {
            throw new Fault(at, 3);
        }
        at++;
    }

    private Home parse() {
        Home h = new Home();
        sign("h");
        h.rooms = number(2, 6, -1);
        sign(",");
        h.seats = number(1, 5, -1);
        sign(",");
        h.fee = number(0, 20, -1);
        sign(";");
        while (token().equals("g")) {
            begins(h.walls, 9);
            int a = number(0, h.rooms - 1, -1);
            sign(",");
            int b = number(0, h.rooms - 1, a);
            sign(";");
            h.walls.add(new int[] {a, b});
        }
        while (token().equals("r")) {
            begins(h.people, 4);
            int[] stays = new int[8];
            for (int m = 0; m < 8; m++) {
                stays[m] = number(0, h.rooms - 1, -1);
                sign(m < 7 ? "," : ";");
            }
            h.people.add(stays);
        }
        while (token().matches("[adltw]")) {
            String sort = token();
            begins(h.purses, 4);
            h.sorts += sort;
            h.purses.add(number(0, 99, -1));
            sign(";");
        }
        if (at < text.length()) {
            throw new Fault(at, 1);
        }
        return h;
    }

    int house() {
        text = tape.toString();
        tape = new StringBuilder();
        at = 0;
        try {
            home = parse();
        } catch (Fault f) {
            fault = f.number;
            return -1000100 - f.place;
        }
        past.clear();
        return home.rooms;
    }

    int fault() {
        return fault;
    }

    int undo() {
        if (past.isEmpty()) {
            return STATE;
        }
        home = past.pop();
        return past.size();
    }

    private void act() {
        past.push(home.twin());
        if (past.size() > 24) {
            past.removeLast();
        }
    }

    // ---- what is done

    private String at(int x, int y, int m) {
        return x + "," + y + "," + m;
    }

    private String curtainOf(int a, int b, int m) {
        return at(Math.min(a, b), Math.max(a, b), m);
    }

    private int heldIn(int room, int minute) {
        int n = 0;
        for (String seat : home.held) {
            n += seat.endsWith("," + room + "," + minute) ? 1 : 0;
        }
        return n;
    }

    private int cost(int v, int room, int minute) {
        int base = home.fee + heldIn(room, minute);
        base -= home.written.contains(minute) ? 2 : 0;
        base = base < 0 ? 0 : base;
        int writers = base == 0 ? 0 : base - 1;
        char sort = home.sorts.charAt(v);
        if (sort == 'a' && !home.people.isEmpty() && home.people.get(0)[minute] == room) {
            return 0;
        }
        return sort == 't' ? base : sort == 'l' ? base + 1 : sort == 'd' ? base >> 1 : writers;
    }

    private boolean sellable(int v, int room, int minute) {
        return heldIn(room, minute) != home.seats && home.held.size() != 24
            && home.purses.get(v) >= cost(v, room, minute);
    }

    int buy(int v, int room, int minute) {
        if (!guest(v) || !room(room) || !minute(minute)) {
            return BAD;
        }
        if (home.held.contains(at(v, room, minute))) {
            return STATE;
        }
        if (!sellable(v, room, minute)) {
            return FULL;
        }
        act();
        int price = cost(v, room, minute);
        home.held.add(at(v, room, minute));
        home.purses.set(v, home.purses.get(v) - price);
        return price;
    }

    int back(int v, int room, int minute) {
        if (!guest(v) || !room(room) || !minute(minute)) {
            return BAD;
        }
        if (!home.held.contains(at(v, room, minute))) {
            return STATE;
        }
        act();
        home.held.remove(at(v, room, minute));
        home.purses.set(v, home.purses.get(v) + home.fee / 2);
        return home.purses.get(v);
    }

    private boolean window(int a, int b) {
        for (int[] w : home.walls) {
            if (w[0] == a && w[1] == b || w[0] == b && w[1] == a) {
                return true;
            }
        }
        return false;
    }

    int curtain(int a, int b, int minute) {
        if (!room(a) || !room(b) || !minute(minute) || !window(a, b)) {
            return BAD;
        }
        if (home.drawn.contains(curtainOf(a, b, minute))) {
            return STATE;
        }
        act();
        home.drawn.add(curtainOf(a, b, minute));
        return home.drawn.size();
    }

    int write(int minute) {
        if (home == null) {
            return STATE;
        }
        if (!minute(minute)) {
            return BAD;
        }
        if (home.written.contains(minute)) {
            return STATE;
        }
        act();
        home.written.add(minute);
        return home.written.size();
    }

    private Set<Integer> view(int room, int minute) {
        Set<Integer> all = new TreeSet<>();
        for (int r = 0; r < home.rooms; r++) {
            if (r == room || window(r, room) && !home.drawn.contains(curtainOf(r, room, minute))) {
                all.add(r);
            }
        }
        return all;
    }

    private Set<Integer> lookedInto(int set, int minute) {
        Set<Integer> all = new TreeSet<>();
        for (String seat : home.held) {
            String[] n = seat.split(",");
            if ((set & 1 << Integer.parseInt(n[0])) != 0 && Integer.parseInt(n[2]) == minute) {
                all.addAll(view(Integer.parseInt(n[1]), minute));
            }
        }
        return all;
    }

    private int bits(Set<Integer> all) {
        int set = 0;
        for (int one : all) {
            set |= 1 << one;
        }
        return set;
    }

    private int seatsHeldBy(int v) {
        int n = 0;
        for (String seat : home.held) {
            n += seat.startsWith(v + ",") ? 1 : 0;
        }
        return n;
    }

    int visitor(int v, int what) {
        if (!guest(v) || !in(what, 3)) {
            return BAD;
        }
        if (what == 0) {
            return home.purses.get(v);
        }
        if (what == 1) {
            return seatsHeldBy(v);
        }
        Set<Integer> all = new TreeSet<>();
        for (int m = 0; m < 8; m++) {
            all.addAll(lookedInto(1 << v, m));
        }
        return bits(all);
    }

    int seat(int room, int minute, int what) {
        if (!room(room) || !minute(minute) || !in(what, 3)) {
            return BAD;
        }
        Set<Integer> all = new TreeSet<>();
        if (what == 0) {
            all = view(room, minute);
        }
        for (int v = 0; v < home.sorts.length(); v++) {
            if (what == 1 && home.held.contains(at(v, room, minute))) {
                all.add(v);
            }
        }
        for (int p = 0; p < home.people.size(); p++) {
            if (what == 2 && home.people.get(p)[minute] == room) {
                all.add(p);
            }
        }
        return bits(all);
    }

    int price(int v, int room, int minute) {
        return guest(v) && room(room) && minute(minute) ? cost(v, room, minute) : BAD;
    }

    // ---- foretold

    int looked(int set, int minute) {
        if (home == null) {
            return STATE;
        }
        return guests(set) && minute(minute) ? bits(lookedInto(set, minute)) : BAD;
    }

    int seen(int set, int p, int minute) {
        if (!guests(set) || !person(p) || !minute(minute)) {
            return BAD;
        }
        int where = home.people.get(p)[minute];
        return lookedInto(set, minute).contains(where) ? where : NONE;
    }

    int known(int set, int p) {
        if (!guests(set) || !person(p)) {
            return BAD;
        }
        int all = 0;
        for (int m = 0; m < 8; m++) {
            all |= seen(set, p, m) == NONE ? 0 : 1 << m;
        }
        return all;
    }

    int canBe(int set, int p, int room, int minute) {
        if (!guests(set) || !person(p) || !room(room) || !minute(minute)) {
            return BAD;
        }
        int where = seen(set, p, minute);
        return where == room || where == NONE && !lookedInto(set, minute).contains(room) ? 1 : 0;
    }

    int suspects(int set, int room, int minutes) {
        if (home == null) {
            return STATE;
        }
        if (!guests(set) || !room(room) || !minutes(minutes)) {
            return BAD;
        }
        int all = 0;
        for (int p = 0; p < home.people.size(); p++) {
            for (int m = 0; m < 8; m++) {
                if ((minutes & 1 << m) != 0 && canBe(set, p, room, m) == 1) {
                    all |= 1 << p;
                }
            }
        }
        return all;
    }

    private boolean leavesOneAtMost(int set, int minute) {
        Set<Integer> all = new TreeSet<>();
        for (int r = 0; r < home.rooms; r++) {
            if ((set & 1 << r) != 0) {
                all.addAll(view(r, minute));
            }
        }
        return home.rooms - all.size() <= 1;
    }

    int settled(int minute) {
        if (home == null) {
            return STATE;
        }
        if (!minute(minute)) {
            return BAD;
        }
        for (int size = 0; size <= home.rooms; size++) {
            for (int set = 0; set < 1 << home.rooms; set++) {
                if (Integer.bitCount(set) == size && leavesOneAtMost(set, minute)) {
                    return set;
                }
            }
        }
        return NONE;
    }

    int cheapest(int v, int minute, int what) {
        if (!guest(v) || !minute(minute) || !in(what, 2)) {
            return BAD;
        }
        int best = NONE;
        int least = Integer.MAX_VALUE;
        for (int set = (1 << home.rooms) - 1; set >= 0; set--) {
            int sum = 0;
            boolean left = true;
            for (int r = 0; r < home.rooms; r++) {
                if ((set & 1 << r) != 0 && !home.held.contains(at(v, r, minute))) {
                    sum += cost(v, r, minute);
                    left &= heldIn(r, minute) < home.seats;
                }
            }
            if (left && sum <= least && leavesOneAtMost(set, minute)) {
                least = sum;
                best = set;
            }
        }
        return best == NONE ? NONE : what == 0 ? best : least;
    }

    int nextSeat(int v, int room, int minutes) {
        if (!guest(v) || !room(room) || !minutes(minutes)) {
            return BAD;
        }
        Home was = home;
        int best = NONE;
        int fewest = 9;
        for (int i = 0; i < 48; i++) {
            if (i % 6 < home.rooms && !home.held.contains(at(v, i % 6, i / 6)) && sellable(v, i % 6, i / 6)) {
                home = was.twin();
                home.held.add(at(v, i % 6, i / 6));
                int n = Integer.bitCount(suspects(1 << v, room, minutes));
                home = was;
                if (n < fewest) {
                    fewest = n;
                    best = i;
                }
            }
        }
        return best;
    }

    int followed(int v, int p, int what) {
        if (!guest(v) || !person(p) || !in(what, 2)) {
            return BAD;
        }
        for (int length = 8; length > 0; length--) {
            for (int first = 0; first + length <= 8; first++) {
                long sum = 0;
                for (int m = first; m < first + length; m++) {
                    sum += toSee(v, p, m);
                }
                if (sum <= home.purses.get(v)) {
                    return what == 0 ? length : first;
                }
            }
        }
        return what == 0 ? 0 : NONE;
    }

    private int toSee(int v, int p, int minute) {
        if (seen(1 << v, p, minute) != NONE) {
            return 0;
        }
        int least = 1000000;
        for (int r = 0; r < home.rooms; r++) {
            if (heldIn(r, minute) < home.seats && view(r, minute).contains(home.people.get(p)[minute])) {
                least = Math.min(least, cost(v, r, minute));
            }
        }
        return least;
    }

    int crowd(int v, int minute) {
        if (!guest(v) || !minute(minute)) {
            return BAD;
        }
        int all = 0;
        for (int other = 0; other < home.sorts.length(); other++) {
            for (int r : lookedInto(1 << v, minute)) {
                all |= other != v && home.held.contains(at(other, r, minute)) ? 1 << other : 0;
            }
        }
        return all;
    }

    int told(int v, int p, int minute) {
        if (!guest(v) || !person(p) || !minute(minute)) {
            return BAD;
        }
        int where = seen(1 << v, p, minute);
        return where == NONE ? NONE : home.sorts.charAt(v) == 'l' ? (where + 1) % home.rooms : where;
    }

    int believed(int p, int minute) {
        if (!person(p) || !minute(minute)) {
            return BAD;
        }
        int[] votes = new int[6];
        for (int v = 0; v < home.sorts.length(); v++) {
            if (told(v, p, minute) != NONE) {
                votes[told(v, p, minute)]++;
            }
        }
        int most = Arrays.stream(votes).max().getAsInt();
        for (int r = 0; r < 6; r++) {
            if (most > 0 && votes[r] == most) {
                return r;
            }
        }
        return NONE;
    }

    int account(int set, int p, int row, int i) {
        if (!guests(set) || !person(p) || !in(row, 8)) {
            return BAD;
        }
        if (!rows.containsKey(row)) {
            return finding(1);
        }
        if (i < 0 || (long) i + 8 > rows.get(row).length) {
            return finding(2);
        }
        int untrue = 0;
        for (int m = 0; m < 8; m++) {
            int room = rows.get(row)[i + m];
            if (room != -1 && !room(room)) {
                return BAD;
            }
            untrue |= room != -1 && canBe(set, p, room, m) == 0 ? 1 << m : 0;
        }
        return fine(untrue);
    }

    int met(int a, int b) {
        if (!person(a) || !person(b) || a == b) {
            return BAD;
        }
        int all = 0;
        for (int m = 0; m < 8; m++) {
            all |= home.people.get(a)[m] == home.people.get(b)[m] ? 1 << m : 0;
        }
        return all;
    }

    int soldOut(int i) {
        if (home == null) {
            return STATE;
        }
        if (i < -1) {
            return BAD;
        }
        List<Integer> sold = new ArrayList<>();
        for (int k = 0; k < 48; k++) {
            if (heldIn(k % 6, k / 6) == home.seats) {
                sold.add(k);
            }
        }
        return i == -1 ? sold.size() : i < sold.size() ? sold.get(i) : NONE;
    }

    int haunted() {
        if (home == null) {
            return STATE;
        }
        int best = 0;
        for (int k = 47; k >= 0; k--) {
            best = heldIn(k % 6, k / 6) >= heldIn(best % 6, best / 6) ? k : best;
        }
        return home.held.isEmpty() ? 0 : best;
    }

    int image(int k) {
        if (!in(k, 2)) {
            return BAD;
        }
        if (home == null) {
            return STATE;
        }
        images[k] = home.twin();
        return 1;
    }

    int restore(int k) {
        if (!in(k, 2)) {
            return BAD;
        }
        if (images[k] == null) {
            return STATE;
        }
        home = images[k].twin();
        past.clear();
        return 1;
    }

    // ---- asked

    int kind(int one) {
        return guest(one) ? "-tldwa".indexOf(home.sorts.charAt(one)) : BAD;
    }

    int as(int one, int kind) {
        if (!guest(one) || !in(kind, 6)) {
            return BAD;
        }
        String[] are = {"tldwa", "tld", "l", "d", "wa", "a"};
        return are[kind].indexOf(home.sorts.charAt(one)) < 0 ? finding(3) : fine(one);
    }

    int ask(int one, int what) {
        if (!guest(one) || !in(what, 2)) {
            return BAD;
        }
        trace.clear();
        return what == 0 ? size(one) : mark(one);
    }

    private int size(int one) {
        return body(one, new int[] {0, 11, 12, 11, 13, 14}[kind(one)]);
    }

    private int mark(int one) {
        return body(one, new int[] {0, 21, 24, 22, 23, 23}[kind(one)]);
    }

    private int body(int one, int number) {
        trace.add(number);
        switch (number) {
            case 10: return home.purses.get(one);
            case 11: {
                int first = body(one, 10);
                return first + mark(one);
            }
            case 12: return 0 - body(one, 11);
            case 13: return body(one, 10) - 100;
            case 14: return 2 * body(one, 13);
            case 20: return one;
            case 21: return body(one, 20) + seatsHeldBy(one);
            case 22: return body(one, 21) - 1000;
            case 23: {
                int first = body(one, 20);
                return first - size(one);
            }
            default: return 2 * body(one, 21);
        }
    }

    int trace(int i) {
        return in(i, trace.size()) ? trace.get(i) : NONE;
    }

    int count(int what) {
        boolean no = home == null;
        switch (what) {
            case 0: return rows.size();
            case 1: return no ? 0 : home.rooms;
            case 2: return no ? 0 : home.walls.size();
            case 3: return no ? 0 : home.people.size();
            case 4: return no ? 0 : home.sorts.length();
            case 5: return no ? 0 : home.held.size();
            case 6: return no ? 0 : home.drawn.size();
            case 7: return past.size();
            case 8: return tape.length();
            default: return BAD;
        }
    }

    int status() {
        return status;
    }
}
