/** How much of a kind: nets, their forms and shares, limits, bounds shown by squares. README.md says how to use it. */
public final class ShareNets {
    public static final int BAD = -1, FULL = -2, NONE = -3, STATE = -4;
    public static final long NO = -1000000000000L;

    private static final int NOTHING = -11, OUTSIDE = -12, OTHER_SORT = -13, SIZE_BELOW_0 = -14, PARTED_BY_0 = -15;
    private static final int NO_ROW = -9, FAULT_AT_0 = -100, FEWER_ROWS = 222;

    private static final int NETS = 4, MOST_POSTS = 10, MOST_OUT = 4;
    private static final int MOST_PARTS = 5, SURE = 4, MOST_SHARES = 6;
    private static final int SHEETS = 4, MOST_ITEMS = 40, MISSING = -1, INTS = 2;
    private static final int SHELVES = 4, HOLDS_NOTHING = -1, HOLDS_SHARE = 0, HOLDS_ROW = 10;
    private static final int SHARE = 0, SUM = 1, SQUARE = 2, LAW = 3;
    private static final int MOST_FORMS = 11, FORMS_OF_3 = 4;

    // One row serves every m: the pairs of fewer places come first, so the FORMS of 1, 2 and 3
    // are the first 1, 2 and 4 of those of 4, and a CODE of fewer places has the same FORM among them.
    private static final int[] FORMS = {0, 1, 3, 7, 11, 12, 13, 15, 30, 31, 63};
    private static final int[] FORM_INDEX = {
        0, 1, 1, 2, 1, 2, 2, 3, 1, 2, 2, 4, 5, 6, 6, 7,
        1, 2, 5, 6, 2, 4, 6, 7, 2, 3, 6, 7, 6, 7, 8, 9,
        1, 5, 2, 6, 2, 6, 4, 7, 2, 6, 3, 7, 6, 8, 7, 9,
        2, 6, 6, 8, 3, 7, 7, 9, 4, 7, 7, 9, 7, 9, 9, 10};
    private static final int[] PAIR_LOW = {0, 0, 1, 0, 1, 2};
    private static final int[] PAIR_HIGH = {1, 2, 2, 3, 3, 3};

    private final World now = new World();
    private final World kept = new World();
    private boolean isKept = false;

    private final Tape tape = new Tape();
    private final Trace latest = new Trace();

    private final int[] rowForms = new int[MOST_FORMS];
    private final int[] rowCounts = new int[MOST_FORMS];
    private int rowsHeld = 0;

    private final Sheet[] sheets = new Sheet[SHEETS];
    private final int[] shelfHolds = new int[SHELVES];
    private final int[] shelfNumbers = new int[SHELVES];

    // Made once and used again, since what a run makes is counted.
    private final Tally tally = new Tally();
    private final Tally smallTally = new Tally();
    private final Net small = new Net();
    private final int[] lifted = new int[MOST_FORMS];
    private final int[] order = new int[MOST_POSTS];
    private final int[] image = new int[MOST_POSTS];

    public ShareNets() {
        for (int i = 0; i < SHEETS; i++) {
            sheets[i] = new Sheet();
        }
        for (int i = 0; i < SHELVES; i++) {
            shelfHolds[i] = HOLDS_NOTHING;
        }
    }

    // ---- nets

    public int feed(long eight, int n) {
        if (n < 1 || n > 8) {
            return BAD;
        }
        return tape.takeBytes(eight, n);
    }

    public int read(int net) {
        if (!isNet(net)) {
            return BAD;
        }
        int fault = tape.useUp();
        if (fault >= 0) {
            return FAULT_AT_0 - fault;
        }
        now.nets[net].become(tape.told);
        return now.nets[net].countRoads();
    }

    public int posts(int net, int n) {
        if (!isNet(net) || n < 1 || n > MOST_POSTS) {
            return BAD;
        }
        now.nets[net].clear(n);
        return n;
    }

    public int road(int net, int a, int b, boolean is) {
        if (!isPost(net, a) || !isPost(net, b) || a == b) {
            return BAD;
        }
        if (now.nets[net].hasRoad(a, b) == is) {
            return 0;
        }
        now.nets[net].setRoad(a, b, is);
        return 1;
    }

    public int netOf(int net, int what) {
        if (!isNet(net)) {
            return BAD;
        }
        Net one = now.nets[net];
        if (what == 0) {
            return one.size;
        }
        if (what == 1) {
            return one.countRoads();
        }
        return what >= 10 && isPost(net, what - 10) ? one.roads[what - 10] : BAD;
    }

    public int rows(int net, int sheet) {
        if (!isNet(net) || !isSheet(sheet)) {
            return BAD;
        }
        Sheet from = sheets[sheet];
        if (from.sort == MISSING) {
            return NOTHING;
        }
        if (from.sort != INTS) {
            return OTHER_SORT;
        }
        Net one = now.nets[net];
        one.clear(one.size);
        for (int p = 0; p < one.size && p < from.length; p++) {
            one.setLesserRoads(p, (int) from.items[p]);
        }
        return one.countRoads();
    }

    public int turn(int net) {
        if (!isNet(net)) {
            return BAD;
        }
        now.nets[net].turnRoads();
        return now.nets[net].countRoads();
    }

    public int same(int a, int b) {
        if (!isNet(a) || !isNet(b)) {
            return BAD;
        }
        Net one = now.nets[a];
        Net other = now.nets[b];
        if (one.size != other.size || one.countRoads() != other.countRoads()) {
            return 0;
        }
        orderPosts(one);
        return canMatch(one, other, 0, 0) ? 1 : 0;
    }

    // ---- forms

    public int form(int m, int code) {
        if (m < 1 || m > 4 || code < 0 || code >= 1 << pairsOf(m)) {
            return BAD;
        }
        return FORMS[FORM_INDEX[code]];
    }

    public int formAt(int m, int i) {
        if (m < 1 || m > 4 || i < 0) {
            return BAD;
        }
        return i < formsOf(m) ? FORMS[i] : NONE;
    }

    public int count(int net, int m, int form) {
        int index = indexOfForm(m, form);
        if (!isNet(net) || index < 0) {
            return BAD;
        }
        tally.take(now.nets[net], m);
        return tally.counts[index];
    }

    public int share(int net, int m, int form, int part) {
        int index = indexOfForm(m, form);
        if (!isNet(net) || index < 0 || !isFractionPart(part)) {
            return BAD;
        }
        Net one = now.nets[net];
        if (one.size < m) {
            return NONE;
        }
        tally.take(one, m);
        return (int) partOfFraction(tally.counts[index], setsOf(one.size, m), part);
    }

    public int lift(int m, int form, int k, int into, int part) {
        int index = indexOfForm(m, form);
        int intoIndex = indexOfForm(k, into);
        if (index < 0 || k < m || intoIndex < 0 || !isFractionPart(part)) {
            return BAD;
        }
        return (int) partOfFraction(countInForm(m, index, k, intoIndex), setsOf(k, m), part);
    }

    public int out(int m, int form, boolean is) {
        int index = indexOfForm(m, form);
        if (m < 2 || index < 0) {
            return BAD;
        }
        boolean was = (now.outs[m] >> index & 1) != 0;
        if (was == is) {
            return 0;
        }
        if (is && now.countOuts() >= MOST_OUT) {
            return FULL;
        }
        now.outs[m] ^= 1 << index;
        return 1;
    }

    public int free(int net) {
        if (!isNet(net)) {
            return BAD;
        }
        return isFreeNet(now.nets[net]) ? 1 : 0;
    }

    public int heap(int k) {
        return k < 2 || k > 4 ? BAD : freeForms(k);
    }

    public int most(int n, int m, int form) {
        int index = indexOfForm(m, form);
        if (n < 1 || n > 5 || index < 0) {
            return BAD;
        }
        int heap = freeForms(n == 5 ? 4 : n);
        int most = n == 5 ? mostInFive(m, index, heap) : mostInForms(n, m, index, heap);
        return most < 0 ? NONE : most;
    }

    // ---- the limit

    public int part(int weight) {
        if (weight < 1 || weight > 9) {
            return BAD;
        }
        if (now.limit.parts >= MOST_PARTS) {
            return FULL;
        }
        return now.limit.addPart(weight);
    }

    public int chance(int a, int b, int v) {
        Limit limit = now.limit;
        if (!limit.hasPart(a) || !limit.hasPart(b) || v < 0 || v > SURE) {
            return BAD;
        }
        int was = limit.chanceOf(a, b);
        limit.setChance(a, b, v);
        return was;
    }

    public int bare() {
        int had = now.limit.parts;
        now.limit.parts = 0;
        return had;
    }

    public long at(int m, int form, int part) {
        int index = indexOfForm(m, form);
        if (index < 0 || !isFractionPart(part)) {
            return BAD;
        }
        if (now.limit.parts == 0) {
            return NONE;
        }
        now.limit.spread(m);
        return partOfFraction(now.limit.above[index], now.limit.below(m), part);
    }

    public int freeAt() {
        if (now.limit.parts == 0) {
            return NONE;
        }
        return isFreeLimit() ? 1 : 0;
    }

    public int blow(int net) {
        if (!isNet(net)) {
            return BAD;
        }
        if (now.nets[net].size > MOST_PARTS) {
            return STATE;
        }
        now.limit.blowFrom(now.nets[net]);
        return now.limit.parts;
    }

    public int near(int net, int n) {
        if (!isNet(net) || n < 1 || n > MOST_POSTS) {
            return BAD;
        }
        Limit limit = now.limit;
        if (limit.parts == 0) {
            return NONE;
        }
        Net one = now.nets[net];
        one.clear(n);
        limit.deal(n);
        for (int b = 1; b < n; b++) {
            for (int a = 0; a < b; a++) {
                one.setRoad(a, b, happens(limit.chanceOf(limit.partOf[a], limit.partOf[b])));
            }
        }
        return one.countRoads();
    }

    public int mixed(int net, int k) {
        if (!isNet(net) || k < 0 || k > SURE) {
            return BAD;
        }
        Net one = now.nets[net];
        for (int b = 1; b < one.size; b++) {
            for (int a = 0; a < b; a++) {
                one.setRoad(a, b, now.nextNumber() % SURE < k);
            }
        }
        return one.countRoads();
    }

    public int draw(int net, int m) {
        if (!isNet(net) || m < 1 || m > 4) {
            return BAD;
        }
        Net one = now.nets[net];
        if (one.size < m) {
            return NONE;
        }
        int left = (1 << one.size) - 1;
        int code = 0;
        for (int i = 0; i < m; i++) {
            int post = bitAtPlace(left, now.nextNumber() % (one.size - i));
            left &= ~(1 << post);
            tally.chosen[i] = post;
            code |= tally.roadBits(one, i, post);
        }
        return FORMS[FORM_INDEX[code & 63]];
    }

    public int seed(int v) {
        int was = now.z;
        now.z = v;
        return was;
    }

    // ---- shares

    public int add(int kind, int a, int b) {
        if (!isShareTold(kind, a, b)) {
            return BAD;
        }
        if (now.sharesHeld >= MOST_SHARES) {
            return FULL;
        }
        int number = now.sharesHeld;
        now.shares[number] = makeShare(kind, number, a, b);
        now.weights[number] = 0;
        now.sharesHeld = number + 1;
        return number;
    }

    public int shareOf(int share, int what) {
        if (!isShare(share)) {
            return BAD;
        }
        Share one = now.shares[share];
        switch (what) {
            case 0: return one.kind;
            case 1: return one.a;
            case 2: return one.b;
            case 3: return now.weights[share];
            default: return BAD;
        }
    }

    public int weight(int share, int v) {
        if (!isShare(share) || v < 0 || v > 99) {
            return BAD;
        }
        int was = now.weights[share];
        now.weights[share] = v;
        return was;
    }

    public long gives(int share, int i) {
        if (!isShare(share) || i < 0 || i >= FORMS_OF_3) {
            return NO;
        }
        return thirdsGiven(now.shares[share], i);
    }

    public long value(int share, int net, int part) {
        if (!isShare(share) || !isNet(net) || !isFractionPart(part) || now.nets[net].size < 3) {
            return NO;
        }
        tally.take(now.nets[net], 3);
        long above = 0;
        for (int i = 0; i < FORMS_OF_3; i++) {
            above += (long) thirdsGiven(now.shares[share], i) * tally.counts[i];
        }
        return partOfFraction(above, 3L * setsOf(now.nets[net].size, 3), part);
    }

    public long valueAt(int share, int part) {
        if (!isShare(share) || !isFractionPart(part) || now.limit.parts == 0) {
            return NO;
        }
        now.limit.spread(3);
        long above = 0;
        for (int i = 0; i < FORMS_OF_3; i++) {
            above += thirdsGiven(now.shares[share], i) * now.limit.above[i];
        }
        return partOfFraction(above, 3 * now.limit.below(3), part);
    }

    public long bound(int m, int form, int part) {
        if (!isBoundForm(m, form) || !isFractionPart(part)) {
            return NO;
        }
        int heap = freeForms(3);
        return heap == 0 ? NO : partOfFraction(greatestHeight(m, form, heap), 36, part);
    }

    public long slack(int m, int form, int i, int part) {
        if (!isBoundForm(m, form) || !isFractionPart(part) || i < 0 || i >= FORMS_OF_3) {
            return NO;
        }
        int heap = freeForms(3);
        if ((heap >> i & 1) == 0) {
            return NO;
        }
        return partOfFraction(greatestHeight(m, form, heap) - height(m, form, i), 36, part);
    }

    public int tight(int m, int form) {
        if (!isBoundForm(m, form)) {
            return BAD;
        }
        int heap = freeForms(3);
        if (heap == 0) {
            return NONE;
        }
        int greatest = greatestHeight(m, form, heap);
        int tight = 0;
        for (int i = 0; i < FORMS_OF_3; i++) {
            if ((heap >> i & 1) != 0 && height(m, form, i) == greatest) {
                tight |= 1 << i;
            }
        }
        return tight;
    }

    public int met(int m, int form) {
        int index = isBoundForm(m, form) ? indexOfForm(m, form) : -1;
        if (index < 0) {
            return BAD;
        }
        int heap = freeForms(3);
        if (heap == 0 || now.limit.parts == 0) {
            return NONE;
        }
        if (!isFreeLimit()) {
            return 0;
        }
        now.limit.spread(m);
        long greatest = greatestHeight(m, form, heap);
        return now.limit.above[index] * 36 == greatest * now.limit.below(m) ? 1 : 0;
    }

    // ---- rows

    public int prove(int net, int m) {
        if (!isNet(net) || m < 1 || m > 4) {
            return BAD;
        }
        tally.take(now.nets[net], m);
        rowsHeld = 0;
        for (int i = 0; i < formsOf(m); i++) {
            if (tally.counts[i] > 0) {
                rowForms[rowsHeld] = FORMS[i];
                rowCounts[rowsHeld] = tally.counts[i];
                rowsHeld++;
            }
        }
        return rowsHeld;
    }

    public int row(int i, int what) {
        if (!isInRow(i, what)) {
            return NO_ROW;
        }
        return what == 0 ? rowForms[i] : rowCounts[i];
    }

    public int alterRow(int i, int what, int v) {
        if (!isInRow(i, what)) {
            return NO_ROW;
        }
        int[] column = what == 0 ? rowForms : rowCounts;
        int was = column[i];
        column[i] = v;
        return was;
    }

    public int judge(int net, int m) {
        if (!isNet(net) || m < 1 || m > 4) {
            return BAD;
        }
        tally.take(now.nets[net], m);
        int right = 0;
        for (int i = 0; i < formsOf(m); i++) {
            if (tally.counts[i] == 0) {
                continue;
            }
            if (right >= rowsHeld) {
                return FEWER_ROWS;
            }
            if (rowForms[right] != FORMS[i] || rowCounts[right] != tally.counts[i]) {
                return right + 1;
            }
            right++;
        }
        return right < rowsHeld ? right + 1 : 0;
    }

    // ---- the host

    public int sheet(int sheet, int sort, int n) {
        if (!isSheet(sheet) || sort != MISSING && (!isSort(sort) || n > MOST_ITEMS)) {
            return BAD;
        }
        if (sort != MISSING && n < 0) {
            return SIZE_BELOW_0;
        }
        sheets[sheet].become(sort, sort == MISSING ? 0 : n);
        return 1;
    }

    public int put(int sheet, int i, int v) {
        if (!isSheet(sheet)) {
            return BAD;
        }
        Sheet one = sheets[sheet];
        if (one.sort == MISSING) {
            return NOTHING;
        }
        if (i < 0 || i >= one.length) {
            return OUTSIDE;
        }
        one.items[i] = one.narrow(v);
        return 1;
    }

    public int item(int sheet, int sort, int i) {
        if (!isSheet(sheet) || !isSort(sort)) {
            return BAD;
        }
        Sheet one = sheets[sheet];
        if (one.sort == MISSING) {
            return NOTHING;
        }
        if (one.sort != sort) {
            return OTHER_SORT;
        }
        return i < 0 || i >= one.length ? OUTSIDE : (int) one.items[i];
    }

    public int shelf(int shelf, int what, int n) {
        if (!isShelf(shelf)) {
            return BAD;
        }
        if (what == 0 && isShare(n)) {
            return fillShelf(shelf, HOLDS_SHARE, n);
        }
        if (what == 1 && isSheet(n)) {
            Sheet row = sheets[n];
            return fillShelf(shelf, row.sort == MISSING ? HOLDS_NOTHING : HOLDS_ROW + row.sort, row.length);
        }
        return what == 2 ? fillShelf(shelf, HOLDS_NOTHING, 0) : BAD;
    }

    public int taken(int shelf, int as) {
        boolean asKind = as >= SHARE && as <= LAW;
        if (!isShelf(shelf) || !asKind && !isSort(as - HOLDS_ROW)) {
            return BAD;
        }
        if (shelfHolds[shelf] >= HOLDS_ROW) {
            return shelfHolds[shelf] == as ? shelfNumbers[shelf] : OTHER_SORT;
        }
        Share thing = shareOn(shelf);
        if (thing == null) {
            return NOTHING;
        }
        return asKind && isOfKind(thing, as) ? thing.number : OTHER_SORT;
    }

    public int act(int shelf, int act, int x) {
        latest.clear();
        Share thing = shareOn(shelf);
        if (thing == null) {
            return 0;
        }
        int answer = 0;
        switch (act) {
            case 0: answer = thing.counts(x, latest); break;
            case 1: answer = thing.joins(x, latest); break;
            case 2: answer = thing.parts(x, latest); break;
            case 3: answer = thing.tells(x, latest); break;
            default: break;
        }
        return latest.partedBy0 ? PARTED_BY_0 : answer;
    }

    public int trace(int i) {
        return i < 0 || i >= latest.size ? NONE : latest.bodies[i];
    }

    public int many(int what) {
        switch (what) {
            case 0: return now.limit.parts;
            case 1: return now.sharesHeld;
            case 2: return now.countOuts();
            case 3: return rowsHeld;
            case 4: return tape.size;
            case 5: return latest.size;
            default: return BAD;
        }
    }

    // ---- kept

    public int keep() {
        kept.become(now);
        isKept = true;
        return 1;
    }

    public int again() {
        if (!isKept) {
            return NONE;
        }
        now.become(kept);
        return 1;
    }

    // ---- what there is

    private static boolean isNet(int net) {
        return net >= 0 && net < NETS;
    }

    private boolean isPost(int net, int post) {
        return isNet(net) && post >= 0 && post < now.nets[net].size;
    }

    private boolean isShare(int share) {
        return share >= 0 && share < now.sharesHeld;
    }

    private static boolean isFractionPart(int part) {
        return part == 0 || part == 1;
    }

    private static boolean isSheet(int sheet) {
        return sheet >= 0 && sheet < SHEETS;
    }

    private static boolean isSort(int sort) {
        return sort >= 0 && sort <= 3;
    }

    private static boolean isShelf(int shelf) {
        return shelf >= 0 && shelf < SHELVES;
    }

    private boolean isInRow(int i, int what) {
        return i >= 0 && i < rowsHeld && (what == 0 || what == 1);
    }

    // ---- numbers

    private static int pairsOf(int m) {
        return m * (m - 1) / 2;
    }

    private static int formsOf(int m) {
        switch (m) {
            case 1: return 1;
            case 2: return 2;
            case 3: return FORMS_OF_3;
            case 4: return MOST_FORMS;
            default: return 0;
        }
    }

    /** The place of a FORM among those of m, or -1: m is not 1 to 4, or there is no such FORM. */
    private static int indexOfForm(int m, int form) {
        for (int i = 0; i < formsOf(m); i++) {
            if (FORMS[i] == form) {
                return i;
            }
        }
        return -1;
    }

    /** SHARES of KIND share and BOUNDS are of FORMS of 2 and 3 alone. */
    private static boolean isBoundForm(int m, int form) {
        return (m == 2 || m == 3) && indexOfForm(m, form) >= 0;
    }

    private static int setsOf(int n, int m) {
        int sets = 1;
        for (int i = 0; i < m; i++) {
            sets = sets * (n - i) / (i + 1);
        }
        return sets;
    }

    private static long partOfFraction(long above, long below, int part) {
        long common = commonDivisor(Math.abs(above), below);
        if (common <= 0) {
            return NO;
        }
        return part == 0 ? above / common : below / common;
    }

    private static long commonDivisor(long a, long b) {
        long greater = a;
        long lesser = b;
        for (int i = 0; i < 200 && lesser != 0; i++) {
            long rest = greater % lesser;
            greater = lesser;
            lesser = rest;
        }
        return greater;
    }

    private static int bitAtPlace(int set, int place) {
        int seen = 0;
        for (int bit = 0; bit < MOST_POSTS; bit++) {
            if ((set >> bit & 1) != 0) {
                if (seen == place) {
                    return bit;
                }
                seen++;
            }
        }
        return 0;
    }

    // ---- nets alike, nets that are free

    /** Each POST next to as many as can be before it, or apart from them in a dense NET: so what can't match shows early. */
    private void orderPosts(Net net) {
        boolean dense = 2 * net.countRoads() > pairsOf(net.size);
        int placed = 0;
        for (int place = 0; place < net.size; place++) {
            int best = 0;
            int bestTies = -1;
            for (int post = 0; post < net.size; post++) {
                int ties = Integer.bitCount((dense ? ~net.roads[post] : net.roads[post]) & placed);
                if ((placed >> post & 1) == 0 && ties > bestTies) {
                    best = post;
                    bestTies = ties;
                }
            }
            order[place] = best;
            placed |= 1 << best;
        }
    }

    /** Whether POSTS of one from place on, in order, can stand for those of the other that are not used yet. */
    private boolean canMatch(Net one, Net other, int place, int used) {
        if (place >= one.size || place >= MOST_POSTS) {
            return true;
        }
        int roads = one.roads[order[place]];
        int usedRoads = imageOfRoads(roads, place);
        for (int post = 0; post < other.size; post++) {
            if ((used >> post & 1) == 0 && (other.roads[post] & used) == usedRoads
                && Integer.bitCount(other.roads[post]) == Integer.bitCount(roads)) {
                image[place] = post;
                if (canMatch(one, other, place + 1, used | 1 << post)) {
                    return true;
                }
            }
        }
        return false;
    }

    private int imageOfRoads(int roads, int places) {
        int set = 0;
        for (int i = 0; i < places; i++) {
            if ((roads >> order[i] & 1) != 0) {
                set |= 1 << image[i];
            }
        }
        return set;
    }

    private boolean isFreeNet(Net net) {
        for (int m = 2; m <= 4; m++) {
            if (now.outs[m] != 0) {
                smallTally.take(net, m);
                if (holdsOut(m)) {
                    return false;
                }
            }
        }
        return true;
    }

    private boolean holdsOut(int m) {
        for (int i = 0; i < formsOf(m); i++) {
            if ((now.outs[m] >> i & 1) != 0 && smallTally.counts[i] != 0) {
                return true;
            }
        }
        return false;
    }

    private int freeForms(int k) {
        int heap = 0;
        for (int i = 0; i < formsOf(k); i++) {
            small.becomeCode(k, FORMS[i]);
            if (isFreeNet(small)) {
                heap |= 1 << i;
            }
        }
        return heap;
    }

    /** COUNT of the FORM of m at index in a NET of k POSTS with the FORM at intoIndex. */
    private int countInForm(int m, int index, int k, int intoIndex) {
        small.becomeCode(k, FORMS[intoIndex]);
        smallTally.take(small, m);
        return smallTally.counts[index];
    }

    /** MOST, or -1 if there is no FREE NET. */
    private int mostInForms(int n, int m, int index, int heap) {
        int most = -1;
        for (int i = 0; i < formsOf(n); i++) {
            if ((heap >> i & 1) != 0) {
                most = Math.max(most, countInForm(m, index, n, i));
            }
        }
        return most;
    }

    /** Every NET of five POSTS is, but for their order, a FORM of four with one more POST. */
    private int mostInFive(int m, int index, int heap) {
        for (int i = 0; i < MOST_FORMS; i++) {
            lifted[i] = countInForm(m, index, 4, i);
        }
        int most = -1;
        for (int i = 0; i < MOST_FORMS; i++) {
            if ((heap >> i & 1) == 0) {
                continue;
            }
            small.becomeCode(4, FORMS[i]);
            small.size = 5;
            for (int roads = 0; roads < 16; roads++) {
                small.setLesserRoads(4, roads);
                most = Math.max(most, countInFive(m, heap));
            }
        }
        return most;
    }

    /** COUNT by its sets of four, of which 5 - m hold each set of m; -1 if one of these is not free. */
    private int countInFive(int m, int heap) {
        smallTally.take(small, 4);
        int together = 0;
        for (int i = 0; i < MOST_FORMS; i++) {
            if (smallTally.counts[i] != 0 && (heap >> i & 1) == 0) {
                return -1;
            }
            together += smallTally.counts[i] * lifted[i];
        }
        return m >= 1 && m <= 4 ? together / (5 - m) : -1;
    }

    // ---- the limit, chances

    private boolean isFreeLimit() {
        for (int m = 2; m <= 4; m++) {
            if (now.outs[m] != 0) {
                now.limit.spread(m);
                for (int i = 0; i < formsOf(m); i++) {
                    if ((now.outs[m] >> i & 1) != 0 && now.limit.above[i] != 0) {
                        return false;
                    }
                }
            }
        }
        return true;
    }

    private boolean happens(int chance) {
        if (chance == 0 || chance == SURE) {
            return chance == SURE;
        }
        return now.nextNumber() % SURE < chance;
    }

    // ---- shares and bounds

    private static boolean isShareTold(int kind, int a, int b) {
        switch (kind) {
            case SHARE: return isBoundForm(a, b);
            case SUM:
            case LAW: return a >= 0 && a <= 9999;
            case SQUARE: return a >= -9 && a <= 9 && b >= -9 && b <= 9;
            default: return false;
        }
    }

    private static Share makeShare(int kind, int number, int a, int b) {
        switch (kind) {
            case SUM: return new Sum(SUM, number, a, b);
            case SQUARE: return new Square(number, a, b);
            case LAW: return new Law(number, a, b);
            default: return new Share(SHARE, number, a, b);
        }
    }

    /** GIVES for the i-th FORM of 3, in thirds. */
    private static int thirdsGiven(Share share, int i) {
        switch (share.kind) {
            case SHARE: return thirdsOfLift(share.a, share.b, i);
            case SQUARE: return thirdsOfSquare(FORMS[i], share.a, share.b);
            default: return 3 * (digitAt(share.a, i) - 4);
        }
    }

    /** 3 times LIFT into the i-th FORM of 3, which is the one with i ROADS. */
    private static int thirdsOfLift(int m, int form, int i) {
        if (m == 3) {
            return FORMS[i] == form ? 3 : 0;
        }
        return form == 1 ? i : 3 - i;
    }

    /** Each two of the three pairs meet in one POST, so the three products are those of two pairs. */
    private static int thirdsOfSquare(int form, int a, int b) {
        int first = (form & 1) != 0 ? a : b;
        int second = (form & 2) != 0 ? a : b;
        int third = (form & 4) != 0 ? a : b;
        return first * second + first * third + second * third;
    }

    private static int digitAt(int number, int place) {
        int rest = number;
        for (int i = 0; i < place; i++) {
            rest /= 10;
        }
        return rest % 10;
    }

    /** What BOUND is the greatest of, for the i-th FORM of 3, in parts of 36: so WEIGHT by 12 of a third is WEIGHT. */
    private int height(int m, int form, int i) {
        int together = 12 * thirdsOfLift(m, form, i);
        for (int n = 0; n < now.sharesHeld; n++) {
            if (now.shares[n].kind == SQUARE) {
                together += now.weights[n] * thirdsGiven(now.shares[n], i);
            }
        }
        return together;
    }

    private int greatestHeight(int m, int form, int heap) {
        int greatest = Integer.MIN_VALUE;
        for (int i = 0; i < FORMS_OF_3; i++) {
            if ((heap >> i & 1) != 0) {
                greatest = Math.max(greatest, height(m, form, i));
            }
        }
        return greatest;
    }

    // ---- shelves

    private int fillShelf(int shelf, int holds, int number) {
        shelfHolds[shelf] = holds;
        shelfNumbers[shelf] = number;
        return 1;
    }

    /** The SHARE on a SHELF; null if there is no such SHELF, or nothing or a row is on it. */
    private Share shareOn(int shelf) {
        if (!isShelf(shelf) || shelfHolds[shelf] != HOLDS_SHARE || !isShare(shelfNumbers[shelf])) {
            return null;
        }
        return now.shares[shelfNumbers[shelf]];
    }

    private static boolean isOfKind(Share thing, int kind) {
        switch (kind) {
            case SHARE: return true;
            case SUM: return thing instanceof Sum;
            case SQUARE: return thing instanceof Square;
            case LAW: return thing instanceof Law;
            default: return false;
        }
    }

    /** All that keep() keeps. */
    private static final class World {
        final Net[] nets = new Net[NETS];
        final int[] outs = new int[5];
        final Limit limit = new Limit();
        final Share[] shares = new Share[MOST_SHARES];
        final int[] weights = new int[MOST_SHARES];
        int sharesHeld = 0;
        int z = 1;

        World() {
            for (int i = 0; i < NETS; i++) {
                nets[i] = new Net();
            }
        }

        void become(World other) {
            for (int i = 0; i < NETS; i++) {
                nets[i].become(other.nets[i]);
            }
            for (int m = 0; m < outs.length; m++) {
                outs[m] = other.outs[m];
            }
            limit.become(other.limit);
            for (int i = 0; i < MOST_SHARES; i++) {
                shares[i] = other.shares[i];
                weights[i] = other.weights[i];
            }
            sharesHeld = other.sharesHeld;
            z = other.z;
        }

        int countOuts() {
            int held = 0;
            for (int m = 2; m <= 4; m++) {
                held += Integer.bitCount(outs[m]);
            }
            return held;
        }

        int nextNumber() {
            z = z * 1103515245 + 12345;
            return z >>> 16;
        }
    }

    /** POSTS and the ROADS of each one, as bits. */
    private static final class Net {
        final int[] roads = new int[MOST_POSTS];
        int size = 1;

        void clear(int posts) {
            size = posts;
            for (int p = 0; p < MOST_POSTS; p++) {
                roads[p] = 0;
            }
        }

        void become(Net other) {
            size = other.size;
            for (int p = 0; p < MOST_POSTS; p++) {
                roads[p] = other.roads[p];
            }
        }

        void becomeCode(int m, int code) {
            clear(m);
            for (int pair = 0; pair < pairsOf(m) && pair < PAIR_LOW.length; pair++) {
                if ((code >> pair & 1) != 0) {
                    setRoad(PAIR_LOW[pair], PAIR_HIGH[pair], true);
                }
            }
        }

        boolean hasRoad(int a, int b) {
            return (roads[a] >> b & 1) != 0;
        }

        void setRoad(int a, int b, boolean is) {
            if (is) {
                roads[a] |= 1 << b;
                roads[b] |= 1 << a;
            } else {
                roads[a] &= ~(1 << b);
                roads[b] &= ~(1 << a);
            }
        }

        void setLesserRoads(int post, int bits) {
            for (int a = 0; a < post; a++) {
                setRoad(a, post, (bits >> a & 1) != 0);
            }
        }

        void turnRoads() {
            int all = (1 << size) - 1;
            for (int p = 0; p < size; p++) {
                roads[p] ^= all & ~(1 << p);
            }
        }

        int countRoads() {
            int ends = 0;
            for (int p = 0; p < size; p++) {
                ends += Integer.bitCount(roads[p]);
            }
            return ends / 2;
        }
    }

    /** How many sets of m POSTS of a NET have each FORM. */
    private static final class Tally {
        final int[] counts = new int[MOST_FORMS];
        final int[] chosen = new int[4];

        void take(Net net, int m) {
            for (int i = 0; i < MOST_FORMS; i++) {
                counts[i] = 0;
            }
            choose(net, m, 0, 0, 0);
        }

        private void choose(Net net, int m, int depth, int from, int code) {
            if (depth >= m || depth >= 4) {
                counts[FORM_INDEX[code & 63]]++;
                return;
            }
            int last = net.size - (m - depth);
            for (int post = from; post <= last; post++) {
                chosen[depth] = post;
                choose(net, m, depth + 1, post + 1, code | roadBits(net, depth, post));
            }
        }

        /** What a POST at a place adds to the CODE of those chosen before it. */
        int roadBits(Net net, int place, int post) {
            int bits = 0;
            for (int i = 0; i < place; i++) {
                if (net.hasRoad(chosen[i], post)) {
                    bits |= 1 << (pairsOf(place) + i);
                }
            }
            return bits;
        }
    }

    /** Weighted PARTS with CHANCES. */
    private static final class Limit {
        final int[] weights = new int[MOST_PARTS];
        final int[] chances = new int[MOST_PARTS * MOST_PARTS];
        int parts = 0;

        /** After spread(m): AT of the i-th FORM of m is above[i] by below(m). */
        final long[] above = new long[MOST_FORMS];

        /** After deal(n): the PART of each POST. In spread(): of the POSTS that are drawn. */
        final int[] partOf = new int[MOST_POSTS];
        private final int[] dealt = new int[MOST_PARTS];
        private final int[] rests = new int[MOST_PARTS];

        void become(Limit other) {
            parts = other.parts;
            for (int i = 0; i < weights.length; i++) {
                weights[i] = other.weights[i];
            }
            for (int i = 0; i < chances.length; i++) {
                chances[i] = other.chances[i];
            }
        }

        boolean hasPart(int part) {
            return part >= 0 && part < parts;
        }

        int addPart(int weight) {
            int number = parts;
            weights[number] = weight;
            parts = number + 1;
            for (int other = 0; other < parts; other++) {
                setChance(other, number, 0);
            }
            return number;
        }

        int chanceOf(int a, int b) {
            return chances[a * MOST_PARTS + b];
        }

        void setChance(int a, int b, int v) {
            chances[a * MOST_PARTS + b] = v;
            chances[b * MOST_PARTS + a] = v;
        }

        void blowFrom(Net net) {
            parts = 0;
            for (int post = 0; post < net.size && post < MOST_PARTS; post++) {
                addPart(1);
                for (int other = 0; other < post; other++) {
                    setChance(other, post, net.hasRoad(other, post) ? SURE : 0);
                }
            }
        }

        int allWeights() {
            int all = 0;
            for (int part = 0; part < parts; part++) {
                all += weights[part];
            }
            return all;
        }

        long below(int m) {
            long below = 1;
            for (int i = 0; i < m; i++) {
                below *= allWeights();
            }
            for (int pair = 0; pair < pairsOf(m); pair++) {
                below *= SURE;
            }
            return below;
        }

        void spread(int m) {
            for (int i = 0; i < MOST_FORMS; i++) {
                above[i] = 0;
            }
            drawParts(m, 0, 0, 0, 1);
        }

        /** A FORM is the same in all orders: POSTS by PARTS stand for every order, counted in ways. */
        private void drawParts(int m, int depth, int from, int alike, long ways) {
            if (depth >= m || depth >= 4) {
                drawRoads(pairsOf(m), 0, 0, ways);
                return;
            }
            for (int part = from; part < parts; part++) {
                int run = depth > 0 && part == partOf[depth - 1] ? alike + 1 : 1;
                partOf[depth] = part;
                drawParts(m, depth + 1, part, run, ways * weights[part] * (depth + 1) / run);
            }
        }

        private void drawRoads(int pairs, int pair, int code, long ways) {
            if (ways == 0) {
                return;
            }
            if (pair >= pairs || pair >= PAIR_LOW.length) {
                above[FORM_INDEX[code & 63]] += ways;
                return;
            }
            int chance = chanceOf(partOf[PAIR_LOW[pair]], partOf[PAIR_HIGH[pair]]);
            drawRoads(pairs, pair + 1, code, ways * (SURE - chance));
            drawRoads(pairs, pair + 1, code | 1 << pair, ways * chance);
        }

        /** Says of which PART each of n POSTS is that are NEAR this. */
        void deal(int n) {
            int left = n - dealCut(n);
            for (int i = 0; i < left && i < MOST_PARTS; i++) {
                int part = greatestRest();
                dealt[part]++;
                rests[part] = -1;
            }
            int post = 0;
            for (int part = 0; part < parts; part++) {
                for (int i = 0; i < dealt[part] && post < MOST_POSTS; i++) {
                    partOf[post] = part;
                    post++;
                }
            }
        }

        private int dealCut(int n) {
            int all = allWeights();
            int together = 0;
            for (int part = 0; part < parts && all > 0; part++) {
                dealt[part] = n * weights[part] / all;
                rests[part] = n * weights[part] % all;
                together += dealt[part];
            }
            return together;
        }

        private int greatestRest() {
            int greatest = 0;
            for (int part = 1; part < parts; part++) {
                if (rests[part] > rests[greatest]) {
                    greatest = part;
                }
            }
            return greatest;
        }
    }

    /** Bytes that are told to be a NET. */
    private static final class Tape {
        private static final int MOST_BYTES = 160;

        final Net told = new Net();
        int size = 0;
        private final int[] bytes = new int[MOST_BYTES];

        /** The NAME, NUMBER or other byte at hand: from start on, up to end; start is size at the end. */
        private int start = 0;
        private int end = 0;

        int takeBytes(long eight, int n) {
            if (size + n > MOST_BYTES) {
                return FULL;
            }
            for (int i = 0; i < n; i++) {
                bytes[size + i] = (int) (eight >>> 8 * i) & 255;
            }
            size += n;
            return size;
        }

        /** The FAULT; -1 if there is none: told is the NET then. */
        int useUp() {
            end = 0;
            goOn();
            int fault = isText() ? -1 : start;
            size = 0;
            return fault;
        }

        /** Every FAULT is at the start of what is at hand when this or what it calls answers false. */
        private boolean isText() {
            if (!isName("posts")) {
                return false;
            }
            goOn();
            int posts = numberAtHand();
            if (posts < 1 || posts > MOST_POSTS) {
                return false;
            }
            told.clear(posts);
            goOn();
            if (!isByte(';')) {
                return false;
            }
            goOn();
            for (int i = 0; i < MOST_BYTES && start < size; i++) {
                if (!isPhrase()) {
                    return false;
                }
            }
            return true;
        }

        private boolean isPhrase() {
            boolean all = isName("all");
            boolean ring = isName("ring");
            if (!all && !ring && !isName("road")) {
                return false;
            }
            goOn();
            int least = all ? 1 : ring ? 3 : 2;
            int seen = 0;
            int first = 0;
            int before = 0;
            for (int i = 0; i < MOST_POSTS && (i < least || !isByte(';')); i++) {
                int post = numberAtHand();
                if (post < 0 || post >= told.size || (seen >> post & 1) != 0) {
                    return false;
                }
                first = i == 0 ? post : first;
                joinPost(post, all ? seen : i == 0 ? 0 : 1 << before);
                seen |= 1 << post;
                before = post;
                goOn();
            }
            if (!isByte(';')) {
                return false;
            }
            if (ring) {
                told.setRoad(before, first, true);
            }
            goOn();
            return true;
        }

        private void joinPost(int post, int others) {
            for (int other = 0; other < told.size; other++) {
                if ((others >> other & 1) != 0) {
                    told.setRoad(other, post, true);
                }
            }
        }

        private void goOn() {
            start = end;
            for (int i = 0; i < MOST_BYTES && byteAt(start) == ' '; i++) {
                start++;
            }
            end = start < size ? start + 1 : start;
            for (int i = 0; i < MOST_BYTES && goesOnAt(end); i++) {
                end++;
            }
        }

        /** Whether the byte at a place belongs to the NAME or NUMBER that began at start. */
        private boolean goesOnAt(int place) {
            int first = byteAt(start);
            int next = byteAt(place);
            return isLetter(first) && isLetter(next) || isDigit(first) && isDigit(next);
        }

        private int byteAt(int place) {
            return place >= 0 && place < size && place < MOST_BYTES ? bytes[place] : -1;
        }

        private static boolean isLetter(int one) {
            return one >= 'a' && one <= 'z';
        }

        private static boolean isDigit(int one) {
            return one >= '0' && one <= '9';
        }

        private boolean isByte(int one) {
            return byteAt(start) == one;
        }

        private boolean isName(String name) {
            if (end - start != name.length()) {
                return false;
            }
            for (int i = 0; i < name.length(); i++) {
                if (byteAt(start + i) != name.charAt(i)) {
                    return false;
                }
            }
            return true;
        }

        /** The NUMBER at hand; -1 if it is none, or one of more than two digits. */
        private int numberAtHand() {
            if (!isDigit(byteAt(start)) || end - start > 2) {
                return -1;
            }
            int number = 0;
            for (int i = start; i < end; i++) {
                number = number * 10 + byteAt(i) - '0';
            }
            return number;
        }
    }

    /** A row of numbers of a sort, or missing; items are held as the sort leaves them. */
    private static final class Sheet {
        final long[] items = new long[MOST_ITEMS];
        int sort = MISSING;
        int length = 0;

        void become(int newSort, int n) {
            sort = newSort;
            length = n;
            for (int i = 0; i < MOST_ITEMS; i++) {
                items[i] = 0;
            }
        }

        long narrow(int v) {
            switch (sort) {
                case 0: return (byte) v;
                case 1: return (short) v;
                default: return v;
            }
        }
    }

    /** The bodies that ran in the latest act(). */
    private static final class Trace {
        private static final int MOST_BODIES = 30;

        final int[] bodies = new int[MOST_BODIES];
        int size = 0;
        boolean partedBy0 = false;

        void clear() {
            size = 0;
            partedBy0 = false;
        }

        void begin(int body) {
            if (size < MOST_BODIES) {
                bodies[size] = body;
                size++;
            }
        }
    }

    /** A thing of KIND share; its WEIGHT stands in World, so that this never changes and can be kept as it is. */
    private static class Share {
        final int kind;
        final int number;
        final int a;
        final int b;

        Share(int kind, int number, int a, int b) {
            this.kind = kind;
            this.number = number;
            this.a = a;
            this.b = b;
        }

        int counts(int x, Trace trace) {
            trace.begin(10);
            return x + number;
        }

        int joins(int x, Trace trace) {
            trace.begin(11);
            return counts(x, trace) * 2;
        }

        /** No body begins after this one in any act, so the answer is free once it parts by 0. */
        int parts(int x, Trace trace) {
            trace.begin(12);
            int by = a - number;
            if (by == 0) {
                trace.partedBy0 = true;
                return 0;
            }
            return x / by;
        }

        int tells(int x, Trace trace) {
            trace.begin(13);
            return joins(x, trace) ^ a;
        }
    }

    private static class Sum extends Share {
        Sum(int kind, int number, int a, int b) {
            super(kind, number, a, b);
        }

        int joins(int x, Trace trace) {
            trace.begin(20);
            return super.joins(x, trace) - a;
        }

        int parts(int x, Trace trace) {
            trace.begin(21);
            return super.parts(x + 1, trace);
        }
    }

    private static final class Square extends Sum {
        Square(int number, int a, int b) {
            super(SQUARE, number, a, b);
        }

        int counts(int x, Trace trace) {
            trace.begin(30);
            return super.counts(x, trace) * 3;
        }

        int joins(int x, Trace trace) {
            trace.begin(31);
            return super.joins(x, trace) + parts(number, trace);
        }
    }

    private static final class Law extends Sum {
        Law(int number, int a, int b) {
            super(LAW, number, a, b);
        }

        int counts(int x, Trace trace) {
            trace.begin(40);
            return 0 - super.counts(x, trace);
        }

        int tells(int x, Trace trace) {
            trace.begin(41);
            return super.tells(x, trace) * 2;
        }
    }
}
