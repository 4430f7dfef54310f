import java.util.Arrays;

/** Finds all expressions of a wanted type, by growing price, over the members of a world. */
public final class WantedTypes {
    public static final int NONE = -1000000, BAD = -1000001, STATE = -1000002, FULL = -1000003;

    private static final int FINDINGS = -1000010;
    private static final int FOUND_NULL = 1;
    private static final int FOUND_PLACE = 2;
    private static final int FOUND_KIND = 3;
    private static final int FOUND_SIZE = 4;
    private static final int FOUND_STORE = 5;

    private static final int FAULTS = -1000100;

    private static final int MOST_TYPES = 8;
    private static final int MOST_MEMBERS = 12;
    private static final int MOST_COST = 9;
    private static final int MOST_PRICE = 24;
    private static final int MOST_LISTED = 999999999;

    private static final int LOCAL = 1;
    private static final int FAR = 2;
    private static final int OLD = 3;
    private static final int CALL = 4;
    private static final int MAKER = 5;

    private static final int ACT_HIDE = 0;
    private static final int ACT_COST = 1;
    private static final int ACT_ABOVE = 2;

    private static final int MOST_IMAGES = 2;

    private final World world = new World();
    private final World[] images = new World[MOST_IMAGES];
    private final Rows rows = new Rows();
    private final Reader reader = new Reader();
    private final Acts acts = new Acts();
    private final Reach reach = new Reach(world);
    private final Lists lists = new Lists(world);
    private final Words words = new Words(world, rows);
    private final Asks asks = new Asks(world);
    private int latestFault;
    private int latestFinding;

    public WantedTypes() {
        for (int k = 0; k < MOST_IMAGES; k++) {
            images[k] = new World();
        }
    }

    // ---- rows

    public int row(int row, int lane, int n) {
        if (!Rows.isRow(row) || !Rows.isLane(lane) || n > Rows.MOST_ITEMS) {
            return BAD;
        }
        if (n < 0) {
            return found(FOUND_SIZE);
        }
        rows.make(row, lane, n);
        return unfound(n);
    }

    public int set(int row, int i, int v) {
        if (!Rows.isRow(row)) {
            return BAD;
        }
        if (rows.isMissing(row)) {
            return found(FOUND_NULL);
        }
        if (!rows.hasPlaces(row, i, 1)) {
            return found(FOUND_PLACE);
        }
        return unfound(rows.put(row, i, v));
    }

    public int copy(int a, int i, int b, int j, int n) {
        if (!Rows.isRow(a) || !Rows.isRow(b)) {
            return BAD;
        }
        if (rows.isMissing(a) || rows.isMissing(b)) {
            return found(FOUND_NULL);
        }
        if (rows.lane[a] != rows.lane[b]) {
            return found(FOUND_STORE);
        }
        if (!rows.hasPlaces(a, i, n) || !rows.hasPlaces(b, j, n)) {
            return found(FOUND_PLACE);
        }
        System.arraycopy(rows.items[a], i, rows.items[b], j, n);
        return unfound(n);
    }

    public int drop(int row) {
        if (!Rows.isRow(row)) {
            return BAD;
        }
        if (rows.isMissing(row)) {
            return found(FOUND_NULL);
        }
        return unfound(rows.lose(row));
    }

    // ---- worlds, acts

    public int feed(int letter) {
        if (letter < 0 || letter > 255) {
            return BAD;
        }
        if (reader.isFull()) {
            return FULL;
        }
        return reader.append(letter);
    }

    public int world() {
        boolean whole = reader.readTape();
        reader.emptyTape();
        if (!whole) {
            latestFault = reader.fault;
            return FAULTS - reader.at;
        }
        standAs(reader.into);
        return world.members;
    }

    public int fault() {
        return latestFault;
    }

    public int hide(int member, int is) {
        if (!world.hasMember(member) || is < 0 || is > 1) {
            return BAD;
        }
        int was = world.isHidden(member) ? 1 : 0;
        if (is == was) {
            return STATE;
        }
        acts.keep(ACT_HIDE, member, was);
        change(ACT_HIDE, member, is);
        return world.hidden;
    }

    public int cost(int member, int v) {
        if (!world.hasMember(member) || v < 1 || v > MOST_COST) {
            return BAD;
        }
        int was = world.cost[member];
        acts.keep(ACT_COST, member, was);
        change(ACT_COST, member, v);
        return was;
    }

    public int above(int type, int other) {
        if (!world.hasType(type) || other < 0 || other > type) {
            return BAD;
        }
        int was = world.above[type];
        acts.keep(ACT_ABOVE, type, was);
        change(ACT_ABOVE, type, other);
        return was;
    }

    public int undo() {
        if (acts.kept == 0) {
            return STATE;
        }
        acts.kept--;
        int latest = acts.kept;
        change(acts.sort[latest], acts.which[latest], acts.was[latest]);
        return latest;
    }

    public int member(int member, int what) {
        if (!world.hasMember(member)) {
            return BAD;
        }
        switch (what) {
            case 0: return world.gives[member];
            case 1: return world.cost[member];
            case 2: return world.priceOf(member);
            case 3: return world.takes[member];
            case 4: return world.takes[member] > 0 ? world.first[member] : NONE;
            case 5: return world.takes[member] > 1 ? world.second[member] : NONE;
            case 6: return world.isHidden(member) ? 1 : 0;
            default: return BAD;
        }
    }

    public int type(int type, int what) {
        if (!world.hasType(type)) {
            return BAD;
        }
        switch (what) {
            case 0: return world.above[type];
            case 1: return world.of[type];
            case 2: return world.typesOf(type);
            case 3: return world.membersOf(type);
            default: return BAD;
        }
    }

    // ---- expressions

    public int many(int type, int price) {
        if (!world.hasType(type) || price < 1 || price > MOST_PRICE) {
            return BAD;
        }
        return lists.manyOfPrice(type, price);
    }

    public int cheapest(int type) {
        if (!world.hasType(type)) {
            return BAD;
        }
        return reach.leastListed(type, world.hidden);
    }

    public int listed(int type, int place, int j) {
        if (!world.hasType(type) || place < 0 || place >= MOST_LISTED || j < -1) {
            return BAD;
        }
        int price = lists.findPlace(type, place);
        if (price == NONE || j == -1) {
            return price;
        }
        int length = lists.spell(type, price);
        return j < length ? lists.code[j] : NONE;
    }

    public int word(int row, int i, int n, int what) {
        if (!Rows.isRow(row) || !Words.isLength(n) || what < 0 || what > 1) {
            return BAD;
        }
        if (world.types == 0) {
            return STATE;
        }
        int finding = words.take(row, i, n);
        if (finding != 0) {
            return found(finding);
        }
        if (!words.isWhole()) {
            return unfound(NONE);
        }
        return unfound(what == 0 ? words.given() : words.priceTogether());
    }

    public int place(int type, int row, int n) {
        if (!world.hasType(type) || !Rows.isRow(row) || !Words.isLength(n)) {
            return BAD;
        }
        int finding = words.take(row, 0, n);
        if (finding != 0) {
            return found(finding);
        }
        if (!words.isWhole() || !world.isOf(words.given(), type)) {
            return unfound(NONE);
        }
        int price = words.priceTogether();
        if (price > MOST_PRICE) {
            return unfound(NONE);
        }
        return unfound(lists.placeOf(type, words.code, n, price));
    }

    public int had() {
        if (world.types == 0) {
            return STATE;
        }
        return reach.typesHad(world.hidden);
    }

    public int needed(int type) {
        if (!world.hasType(type)) {
            return BAD;
        }
        return reach.membersNeeded(type);
    }

    public int without(int type, int member) {
        if (!world.hasType(type) || !world.hasMember(member)) {
            return BAD;
        }
        return reach.leastListed(type, world.hidden | 1 << member);
    }

    public int share(int member, int n) {
        if (!world.hasMember(member) || n < 0 || n > 999) {
            return BAD;
        }
        return world.isHidden(member) ? 0 : world.shareOf(member, n);
    }

    public int drawn(int type, int n, int seed, int what) {
        if (!world.hasType(type) || n < 1 || n > 60 || seed < 1 || seed > 999999 || what < 0 || what > 1) {
            return BAD;
        }
        int size = lists.size(type);
        if (size < 1) {
            return STATE;
        }
        long x = seed;
        int sum = 0;
        for (int time = 0; time < n; time++) {
            x = x * 16807 % 2147483647;
            int price = lists.findPlace(type, (int) (x % size));
            sum += what == 0 ? price : lists.spell(type, price);
        }
        return sum;
    }

    public int image(int k) {
        if (k < 0 || k >= MOST_IMAGES) {
            return BAD;
        }
        if (world.types == 0) {
            return STATE;
        }
        images[k].become(world);
        return 1;
    }

    public int restore(int k) {
        if (k < 0 || k >= MOST_IMAGES) {
            return BAD;
        }
        if (images[k].types == 0) {
            return STATE;
        }
        standAs(images[k]);
        return 1;
    }

    // ---- asked

    public int kind(int member) {
        return world.hasMember(member) ? world.kind[member] : BAD;
    }

    public int as(int member, int kind) {
        if (!world.hasMember(member) || kind < 0 || kind > MAKER) {
            return BAD;
        }
        return world.isKind(member, kind) ? unfound(member) : found(FOUND_KIND);
    }

    public int ask(int member, int what) {
        if (!world.hasMember(member) || what < 0 || what > 1) {
            return BAD;
        }
        asks.traced = 0;
        return what == 0 ? asks.sizeOf(member) : asks.markOf(member);
    }

    public int trace(int i) {
        return i >= 0 && i < asks.traced ? asks.numbers[i] : NONE;
    }

    public int count(int what) {
        switch (what) {
            case 0: return rows.present();
            case 1: return world.types;
            case 2: return world.members;
            case 3: return world.hidden;
            case 4: return acts.kept;
            case 5: return reader.bytes;
            default: return BAD;
        }
    }

    public int status() {
        return latestFinding;
    }

    private int found(int finding) {
        latestFinding = finding;
        return FINDINGS - finding;
    }

    private int unfound(int answer) {
        latestFinding = 0;
        return answer;
    }

    private void standAs(World other) {
        world.become(other);
        acts.kept = 0;
        lists.counted = false;
    }

    /** Acts and their undoing both come through here, so that no count outlives what it was made of. */
    private void change(int act, int which, int to) {
        switch (act) {
            case ACT_HIDE:
                world.putHidden(which, to);
                break;
            case ACT_COST:
                world.cost[which] = to;
                break;
            default:
                world.above[which] = to;
                world.seeAbove();
                break;
        }
        lists.counted = false;
    }

    /** Types and members; none at all while there are no types. */
    private static final class World {
        private int types;
        private int members;
        private int hidden;
        private final int[] above = new int[MOST_TYPES];
        /** Kept beside above, since every count asks for it many times. */
        private final int[] of = new int[MOST_TYPES];
        private final int[] kind = new int[MOST_MEMBERS];
        private final int[] gives = new int[MOST_MEMBERS];
        private final int[] cost = new int[MOST_MEMBERS];
        private final int[] takes = new int[MOST_MEMBERS];
        private final int[] first = new int[MOST_MEMBERS];
        private final int[] second = new int[MOST_MEMBERS];

        private void become(World other) {
            types = other.types;
            members = other.members;
            hidden = other.hidden;
            System.arraycopy(other.above, 0, above, 0, MOST_TYPES);
            System.arraycopy(other.of, 0, of, 0, MOST_TYPES);
            System.arraycopy(other.kind, 0, kind, 0, MOST_MEMBERS);
            System.arraycopy(other.gives, 0, gives, 0, MOST_MEMBERS);
            System.arraycopy(other.cost, 0, cost, 0, MOST_MEMBERS);
            System.arraycopy(other.takes, 0, takes, 0, MOST_MEMBERS);
            System.arraycopy(other.first, 0, first, 0, MOST_MEMBERS);
            System.arraycopy(other.second, 0, second, 0, MOST_MEMBERS);
        }

        /** One pass is enough: the type right above another one has the lesser number. */
        private void seeAbove() {
            for (int t = 0; t < types; t++) {
                int up = above[t];
                of[t] = up == t ? 1 << t : 1 << t | of[up];
            }
        }

        private boolean hasType(int type) {
            return type >= 0 && type < types;
        }

        private boolean hasMember(int member) {
            return member >= 0 && member < members;
        }

        private boolean isHidden(int member) {
            return (hidden >> member & 1) != 0;
        }

        private void putHidden(int member, int is) {
            hidden = is == 0 ? hidden & ~(1 << member) : hidden | 1 << member;
        }

        private boolean isOf(int type, int other) {
            return (of[type] >> other & 1) != 0;
        }

        private boolean givesOne(int member, int type) {
            return isOf(gives[member], type);
        }

        private boolean isKind(int member, int other) {
            int own = kind[member];
            switch (other) {
                case LOCAL: return own == LOCAL || own == FAR || own == OLD;
                case CALL: return own == CALL || own == MAKER;
                default: return other == 0 || own == other;
            }
        }

        private int priceOf(int member) {
            switch (kind[member]) {
                case FAR: return cost[member] + 2;
                case OLD: return cost[member] * 3;
                case MAKER: return cost[member] + takes[member];
                default: return cost[member];
            }
        }

        private int typesOf(int type) {
            int bits = 0;
            for (int t = 0; t < types; t++) {
                if (isOf(t, type)) {
                    bits |= 1 << t;
                }
            }
            return bits;
        }

        private int membersOf(int type) {
            int bits = 0;
            for (int m = 0; m < members; m++) {
                if (givesOne(m, type)) {
                    bits |= 1 << m;
                }
            }
            return bits;
        }

        /** Asked only of a member that is not hidden. */
        private int shareOf(int member, int n) {
            int prices = pricesShown();
            if (prices < 1) {
                return 0;
            }
            int over = n;
            int ahead = 0;
            for (int m = 0; m < members; m++) {
                if (!isHidden(m)) {
                    over -= n * priceOf(m) / prices;
                    ahead += m < member ? 1 : 0;
                }
            }
            return n * priceOf(member) / prices + (ahead < over ? 1 : 0);
        }

        private int pricesShown() {
            int sum = 0;
            for (int m = 0; m < members; m++) {
                if (!isHidden(m)) {
                    sum += priceOf(m);
                }
            }
            return sum;
        }
    }

    /** Rows live in one store made once, so that no run of calls fills the room with them. */
    private static final class Rows {
        private static final int MOST_ROWS = 8;
        private static final int MOST_ITEMS = 40;
        private static final int MISSING = -1;
        private static final int BYTES = 0;
        private static final int SHORTS = 1;
        private static final int INTS = 2;

        private final int[][] items = new int[MOST_ROWS][MOST_ITEMS];
        private final int[] lane = new int[MOST_ROWS];
        private final int[] length = new int[MOST_ROWS];

        private Rows() {
            Arrays.fill(lane, MISSING);
        }

        private static boolean isRow(int row) {
            return row >= 0 && row < MOST_ROWS;
        }

        private static boolean isLane(int lane) {
            return lane >= BYTES && lane <= INTS;
        }

        private boolean isMissing(int row) {
            return lane[row] == MISSING;
        }

        /** The end is told by a difference, which cannot run over as a sum could. */
        private boolean hasPlaces(int row, int from, int n) {
            return from >= 0 && n >= 0 && from <= length[row] - n;
        }

        private void make(int row, int newLane, int n) {
            lane[row] = newLane;
            length[row] = n;
            Arrays.fill(items[row], 0);
        }

        private int put(int row, int i, int v) {
            int kept = v;
            if (lane[row] == BYTES) {
                kept = (byte) v;
            } else if (lane[row] == SHORTS) {
                kept = (short) v;
            }
            items[row][i] = kept;
            return kept;
        }

        private int lose(int row) {
            lane[row] = MISSING;
            return length[row];
        }

        private int present() {
            int n = 0;
            for (int row = 0; row < MOST_ROWS; row++) {
                n += isMissing(row) ? 0 : 1;
            }
            return n;
        }
    }

    /** Reads the tape into a world of its own, so that a fault leaves the standing one as it is. */
    private static final class Reader {
        private static final int MOST_BYTES = 140;
        private static final int MOST_FIGURES = 2;
        private static final int NOT_THERE = 1;
        private static final int NOT_AS_TOLD = 2;
        private static final int NO_ROOM = 3;

        private final int[] tape = new int[MOST_BYTES];
        private int bytes;
        private final World into = new World();
        private int at;
        private int fault;

        private boolean isFull() {
            return bytes >= MOST_BYTES;
        }

        private int append(int letter) {
            tape[bytes] = letter;
            bytes++;
            return bytes;
        }

        private void emptyTape() {
            bytes = 0;
        }

        /** Of a fault, its number is left in fault and its place in at. */
        private boolean readTape() {
            at = 0;
            fault = 0;
            into.types = 0;
            into.members = 0;
            into.hidden = 0;
            return readLaw() && readTypes() && readMembers();
        }

        private boolean readLaw() {
            if (!take('w')) {
                return false;
            }
            int types = takeNumber(1, MOST_TYPES);
            into.types = Math.max(types, 0);
            return types >= 0 && take(';');
        }

        private boolean readTypes() {
            for (int t = 0; t < into.types; t++) {
                if (!take('u')) {
                    return false;
                }
                int above = takeNumber(0, t);
                if (above < 0 || !take(';')) {
                    return false;
                }
                into.above[t] = above;
            }
            into.seeAbove();
            return true;
        }

        /** The round behind the last room is there to tell the fault of a member too many. */
        private boolean readMembers() {
            for (int m = 0; m <= MOST_MEMBERS; m++) {
                if (m > 0 && at == bytes) {
                    return true;
                }
                if (!readMember(m)) {
                    return false;
                }
            }
            return false;
        }

        private boolean readMember(int m) {
            int kind = kindOf(here());
            if (kind == 0) {
                return refuse(NOT_THERE);
            }
            if (m >= MOST_MEMBERS) {
                return refuse(NO_ROOM);
            }
            at++;
            int gives = takeNumber(0, into.types - 1);
            if (gives < 0 || !take(',')) {
                return false;
            }
            int cost = takeNumber(1, MOST_COST);
            if (cost < 0) {
                return false;
            }
            into.kind[m] = kind;
            into.gives[m] = gives;
            into.cost[m] = cost;
            into.takes[m] = 0;
            into.members = m + 1;
            return (kind != CALL && kind != MAKER || readTaken(m)) && take(';');
        }

        private boolean readTaken(int m) {
            if (!take(',')) {
                return false;
            }
            into.first[m] = takeNumber(0, into.types - 1);
            into.takes[m] = 1;
            if (into.first[m] < 0 || here() != ',') {
                return into.first[m] >= 0;
            }
            at++;
            into.second[m] = takeNumber(0, into.types - 1);
            into.takes[m] = 2;
            return into.second[m] >= 0;
        }

        private static int kindOf(int letter) {
            switch (letter) {
                case 'l': return LOCAL;
                case 'f': return FAR;
                case 'o': return OLD;
                case 'c': return CALL;
                case 'm': return MAKER;
                default: return 0;
            }
        }

        private int here() {
            return byteAt(at);
        }

        private int byteAt(int i) {
            return i < bytes ? tape[i] : -1;
        }

        private boolean take(int sign) {
            if (here() != sign) {
                return refuse(NOT_THERE);
            }
            at++;
            return true;
        }

        /** The number from here on; -1 behind a fault. */
        private int takeNumber(int least, int most) {
            int figures = 0;
            int number = 0;
            while (figures <= MOST_FIGURES && isFigure(byteAt(at + figures))) {
                number = number * 10 + byteAt(at + figures) - '0';
                figures++;
            }
            if (figures == 0 || figures > MOST_FIGURES) {
                refuse(NOT_THERE);
                return -1;
            }
            if (number < least || number > most) {
                refuse(NOT_AS_TOLD);
                return -1;
            }
            at += figures;
            return number;
        }

        private static boolean isFigure(int letter) {
            return letter >= '0' && letter <= '9';
        }

        private boolean refuse(int number) {
            fault = number;
            return false;
        }
    }

    /** What can be undone, the latest last. */
    private static final class Acts {
        private static final int MOST_ACTS = 24;

        private final int[] sort = new int[MOST_ACTS];
        private final int[] which = new int[MOST_ACTS];
        private final int[] was = new int[MOST_ACTS];
        private int kept;

        private void keep(int newSort, int newWhich, int newWas) {
            if (kept == MOST_ACTS) {
                forgetOldest();
            }
            sort[kept] = newSort;
            which[kept] = newWhich;
            was[kept] = newWas;
            kept++;
        }

        private void forgetOldest() {
            kept = MOST_ACTS - 1;
            System.arraycopy(sort, 1, sort, 0, kept);
            System.arraycopy(which, 1, which, 0, kept);
            System.arraycopy(was, 1, was, 0, kept);
        }
    }

    /** The least price of any expression of each type, however high, with some members hidden. */
    private static final class Reach {
        /** Far above the price of the deepest cheapest expression, and still safe to add thrice. */
        private static final int NEVER = 100000000;

        private final World world;
        private final int[] least = new int[MOST_TYPES];

        private Reach(World world) {
            this.world = world;
        }

        private int leastListed(int type, int hidden) {
            seek(hidden);
            return least[type] <= MOST_PRICE ? least[type] : NONE;
        }

        private int typesHad(int hidden) {
            seek(hidden);
            int bits = 0;
            for (int t = 0; t < world.types; t++) {
                if (least[t] < NEVER) {
                    bits |= 1 << t;
                }
            }
            return bits;
        }

        private int membersNeeded(int type) {
            if ((typesHad(world.hidden) >> type & 1) == 0) {
                return 0;
            }
            int bits = 0;
            for (int m = 0; m < world.members; m++) {
                if ((typesHad(world.hidden | 1 << m) >> type & 1) == 0) {
                    bits |= 1 << m;
                }
            }
            return bits;
        }

        /**
         * In a cheapest expression no wanted type stands within an argument for that same type, so
         * it is no deeper than there are types, and each round reaches one level deeper.
         */
        private void seek(int hidden) {
            Arrays.fill(least, NEVER);
            boolean better = true;
            for (int round = 0; round <= MOST_TYPES && better; round++) {
                better = false;
                for (int m = 0; m < world.members; m++) {
                    if ((hidden >> m & 1) == 0 && lower(world.of[world.gives[m]], leastWith(m))) {
                        better = true;
                    }
                }
            }
        }

        private int leastWith(int member) {
            int price = world.priceOf(member);
            if (world.takes[member] > 0) {
                price += least[world.first[member]];
            }
            if (world.takes[member] > 1) {
                price += least[world.second[member]];
            }
            return price;
        }

        private boolean lower(int types, int price) {
            boolean better = false;
            for (int t = 0; t < world.types; t++) {
                if ((types >> t & 1) != 0 && price < least[t]) {
                    least[t] = price;
                    better = true;
                }
            }
            return better;
        }
    }

    /**
     * How many expressions there are, and which stands where. Counts are cut at MANY, which is more
     * than any place that can be asked for, so that a cut count is never subtracted.
     */
    private static final class Lists {
        private static final long MANY = 1000000000L;

        private final World world;
        private boolean counted;
        private final long[][] byMember = new long[MOST_MEMBERS][MOST_PRICE + 1];
        private final long[][] byType = new long[MOST_TYPES][MOST_PRICE + 1];
        /** rest[d][p]: how many ways there are to fill the d lowest of the wanted for p together. */
        private final long[][] rest = new long[MOST_PRICE + 1][MOST_PRICE + 1];
        private final int[] wanted = new int[MOST_PRICE + 1];
        private int open;
        private final int[] code = new int[MOST_PRICE];
        /** The place among the expressions of one price that was found latest. */
        private long within;

        private Lists(World world) {
            this.world = world;
            rest[0][0] = 1;
        }

        private int manyOfPrice(int type, int price) {
            countAll();
            return (int) Math.min(byType[type][price], MOST_LISTED);
        }

        private int size(int type) {
            return (int) Math.min(manyBelow(type, MOST_PRICE + 1), MOST_LISTED);
        }

        private long manyBelow(int type, int price) {
            countAll();
            long sum = 0;
            for (int p = 1; p < price; p++) {
                sum += byType[type][p];
            }
            return sum;
        }

        /** The price of the expression at a place; its place among those of that price is left in within. */
        private int findPlace(int type, int place) {
            countAll();
            within = place;
            for (int p = 1; p <= MOST_PRICE; p++) {
                if (within < byType[type][p]) {
                    return p;
                }
                within -= byType[type][p];
            }
            return NONE;
        }

        /** Writes the code of the expression that findPlace found: how many members it has. */
        private int spell(int type, int price) {
            int left = price;
            int length = 0;
            open = 0;
            want(type);
            for (int i = 0; i < MOST_PRICE && open > 0; i++) {
                open--;
                int member = choose(wanted[open], left);
                if (member < 0) {
                    return length;
                }
                code[i] = member;
                length = i + 1;
                left -= world.priceOf(member);
                wantTaken(member, left);
            }
            return length;
        }

        private int choose(int type, int left) {
            for (int m = 0; m < world.members; m++) {
                long ways = waysWith(m, type, left);
                if (within < ways) {
                    return m;
                }
                within -= ways;
            }
            return -1;
        }

        /** The place of a whole code of a type and of a price that is listed; NONE: too far behind. */
        private int placeOf(int type, int[] whole, int n, int price) {
            long ahead = manyBelow(type, price);
            int left = price;
            open = 0;
            want(type);
            for (int i = 0; i < n && open > 0; i++) {
                open--;
                for (int m = 0; m < whole[i]; m++) {
                    ahead += waysWith(m, wanted[open], left);
                }
                left -= world.priceOf(whole[i]);
                wantTaken(whole[i], left);
            }
            return ahead < MOST_LISTED ? (int) ahead : NONE;
        }

        /** How many ways go on with a member in place of the wanted type that was closed latest. */
        private long waysWith(int member, int type, int left) {
            if (world.isHidden(member) || !world.givesOne(member, type)) {
                return 0;
            }
            return ways(byMember[member], rest[open], left);
        }

        private void wantTaken(int member, int left) {
            if (world.takes[member] > 1) {
                want(world.second[member]);
                fillRest(left);
            }
            if (world.takes[member] > 0) {
                want(world.first[member]);
            }
        }

        /** Each type that is wanted costs 1 at least, so more than MOST_PRICE are never open at once. */
        private void want(int type) {
            if (open < MOST_PRICE) {
                wanted[open] = type;
                open++;
            }
        }

        /** Only below another wanted type is a rest ever asked for, and never above what is left. */
        private void fillRest(int left) {
            long[] own = byType[wanted[open - 1]];
            for (int p = 0; p <= left; p++) {
                rest[open][p] = ways(own, rest[open - 1], p);
            }
        }

        private void countAll() {
            if (counted) {
                return;
            }
            for (int p = 1; p <= MOST_PRICE; p++) {
                countPrice(p);
            }
            counted = true;
        }

        private void countPrice(int price) {
            for (int t = 0; t < world.types; t++) {
                byType[t][price] = 0;
            }
            for (int m = 0; m < world.members; m++) {
                long ways = world.isHidden(m) ? 0 : manyWith(m, price);
                byMember[m][price] = ways;
                if (ways > 0) {
                    addTo(world.of[world.gives[m]], price, ways);
                }
            }
        }

        private void addTo(int types, int price, long ways) {
            for (int t = 0; t < world.types; t++) {
                if ((types >> t & 1) != 0) {
                    byType[t][price] = Math.min(byType[t][price] + ways, MANY);
                }
            }
        }

        /** Asks only for counts of lesser prices, which stand already. */
        private long manyWith(int member, int price) {
            int left = price - world.priceOf(member);
            if (left < 0) {
                return 0;
            }
            switch (world.takes[member]) {
                case 0: return left == 0 ? 1 : 0;
                case 1: return byType[world.first[member]][left];
                default: return ways(byType[world.first[member]], byType[world.second[member]], left);
            }
        }

        /** Cut as soon as it is many: a product of two counts and one more never runs over a long. */
        private static long ways(long[] a, long[] b, int price) {
            long sum = 0;
            for (int p = 0; p <= price && sum < MANY; p++) {
                sum += a[p] * b[price - p];
            }
            return Math.min(sum, MANY);
        }
    }

    /** Items of a row, taken as a code. */
    private static final class Words {
        private static final int MOST_WORD = 24;

        private final World world;
        private final Rows rows;
        private final int[] code = new int[MOST_WORD];
        private int length;
        private final int[] wanted = new int[MOST_WORD + 2];

        private Words(World world, Rows rows) {
            this.world = world;
            this.rows = rows;
        }

        private static boolean isLength(int n) {
            return n >= 1 && n <= MOST_WORD;
        }

        /** The finding; 0: the word is taken. */
        private int take(int row, int i, int n) {
            if (rows.isMissing(row)) {
                return FOUND_NULL;
            }
            if (!rows.hasPlaces(row, i, n)) {
                return FOUND_PLACE;
            }
            System.arraycopy(rows.items[row], i, code, 0, n);
            length = n;
            return 0;
        }

        private boolean isWhole() {
            int open = 0;
            for (int i = 0; i < length; i++) {
                if (i > 0 && open == 0 || !fits(i, open)) {
                    return false;
                }
                open = wantTaken(code[i], Math.max(open - 1, 0));
            }
            return open == 0;
        }

        /** The first member may give any type. */
        private boolean fits(int i, int open) {
            int member = code[i];
            if (!world.hasMember(member) || world.isHidden(member)) {
                return false;
            }
            return i == 0 || world.givesOne(member, wanted[open - 1]);
        }

        private int wantTaken(int member, int open) {
            int now = open;
            if (world.takes[member] > 1) {
                wanted[now] = world.second[member];
                now++;
            }
            if (world.takes[member] > 0) {
                wanted[now] = world.first[member];
                now++;
            }
            return now;
        }

        private int given() {
            return world.gives[code[0]];
        }

        private int priceTogether() {
            int sum = 0;
            for (int i = 0; i < length; i++) {
                sum += world.priceOf(code[i]);
            }
            return sum;
        }
    }

    /** The bodies of the asks; each leaves its number as it begins. */
    private static final class Asks {
        private static final int MOST_TRACED = 16;

        private final World world;
        private final int[] numbers = new int[MOST_TRACED];
        private int traced;

        private Asks(World world) {
            this.world = world;
        }

        private int sizeOf(int member) {
            switch (world.kind[member]) {
                case CALL: case MAKER: return sizeOfCall(member);
                case FAR: return body12(member);
                default: return body11(member);
            }
        }

        private int markOf(int member) {
            return world.isKind(member, CALL) ? body23(member) : markOfLocal(member);
        }

        private int sizeOfCall(int member) {
            return world.isKind(member, MAKER) ? body14(member) : body13(member);
        }

        private int markOfLocal(int member) {
            switch (world.kind[member]) {
                case FAR: return body24(member);
                case OLD: return body22(member);
                default: return body21(member);
            }
        }

        private int body10(int member) {
            begin(10);
            return world.cost[member];
        }

        private int body11(int member) {
            begin(11);
            int lent = body10(member);
            return lent + markOfLocal(member);
        }

        private int body12(int member) {
            begin(12);
            return -body11(member);
        }

        private int body13(int member) {
            begin(13);
            return body10(member) - 100;
        }

        private int body14(int member) {
            begin(14);
            return body13(member) * 2;
        }

        /** Body 20, that is lent, has nothing to work out, and stands within this and 23 to keep calls flat. */
        private int body21(int member) {
            begin(21);
            begin(20);
            return member + world.gives[member];
        }

        private int body22(int member) {
            begin(22);
            return body21(member) - 1000;
        }

        private int body23(int member) {
            begin(23);
            begin(20);
            return member - sizeOfCall(member);
        }

        private int body24(int member) {
            begin(24);
            return body21(member) * 2;
        }

        private void begin(int number) {
            if (traced < MOST_TRACED) {
                numbers[traced] = number;
                traced++;
            }
        }
    }
}
