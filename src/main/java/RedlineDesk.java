/**
 * A desk for one text with changes by several hands, as ../shared/DOC.md tells it.
 * Words in the comments are the document's own: THE ROW, LETTER, TOKEN, VIEW, BEHIND, STANDS, ..
 */
public final class RedlineDesk {
    public static final int BAD = -1, NOT = -2, FULL = -3, CAST = -13;

    private static final int MOST_PIECES = 240;
    private static final int MOST_CHANGES = 24;
    private static final int MOST_BYTES = 120;
    private static final int MOST_TYPED = 8;
    private static final int LEAST_BYTE = 32;
    private static final int GREATEST_BYTE = 126;
    private static final int HANDS = 4;
    private static final int MOST_LOOK = 7;

    private static final int PUT = 0, STRUCK = 1, MOVED = 2, SHAPED = 3, REMARK = 4;
    private static final int OPEN = 0, TAKEN = 1, REFUSED = 2;
    private static final int NOW = 1, ALL = 2, VIEW_OF_HAND_0 = 3, VIEWS = 7;

    private final Tape tape = new Tape();
    private final Row row = new Row();
    private final Row spare = new Row();
    private final Ledger ledger = new Ledger();
    private final View shown = new View();
    private final Comparison comparison = new Comparison();

    public RedlineDesk() {
    }

    // ---- 1 texts

    public int type(long w, int n) {
        if (n < 1 || n > MOST_TYPED || !areBytes(w, n)) {
            return BAD;
        }
        if (n > MOST_BYTES - tape.size) {
            return FULL;
        }
        for (int i = n - 1; i >= 0; i--) {
            tape.add(byteOf(w, i));
        }
        return tape.size;
    }

    public int begin() {
        row.size = 0;
        ledger.size = 0;
        row.insertLetters(0, tape, 0, tape.size, 0);
        tape.size = 0;
        return row.size;
    }

    public int length(int view) {
        if (!isView(view)) {
            return BAD;
        }
        lookAt(view);
        return shown.size;
    }

    public int told(int view, int place, int what) {
        if (!isView(view) || what < 0 || what > 7) {
            return BAD;
        }
        lookAt(view);
        int spot = shown.spotAt(place);
        if (!row.has(spot)) {
            return BAD;
        }
        switch (what) {
            case 0:
                return row.sign[spot];
            case 1:
                return lookOf(spot);
            case 2:
                return latest(row.in[spot] & ledger.ofKind(PUT));
            case 3:
                return shown.homes[spot];
            default:
                return Integer.bitCount(row.in[spot] & ledger.ofKind(what - 3));
        }
    }

    public int place(int view, int place, int other) {
        if (!isView(view) || !isView(other)) {
            return BAD;
        }
        lookAt(view);
        int spot = shown.spotAt(place);
        if (!row.has(spot)) {
            return BAD;
        }
        lookAt(other);
        for (int p = 0; p < shown.size; p++) {
            if (shown.spotAt(p) == spot) {
                return p;
            }
        }
        return NOT;
    }

    // ---- 2 changes

    public int put(int hand, int a) {
        if (!isHand(hand)) {
            return BAD;
        }
        lookAt(VIEW_OF_HAND_0 + hand);
        if (!isPlace(a)) {
            return BAD;
        }
        if (tape.size == 0) {
            return NOT;
        }
        if (tape.size > row.room() || ledger.isFull()) {
            return FULL;
        }
        int made = ledger.add(PUT, hand, 0);
        putBehind(a, made, 0, tape.size);
        tape.size = 0;
        return made;
    }

    public int strike(int hand, int a, int b) {
        return mark(STRUCK, hand, a, b, 0);
    }

    public int shape(int hand, int a, int b, int look) {
        if (!isLook(look)) {
            return BAD;
        }
        return mark(SHAPED, hand, a, b, look);
    }

    public int remark(int hand, int a, int b) {
        return mark(REMARK, hand, a, b, 0);
    }

    public int move(int hand, int a, int b, int c) {
        if (!isHand(hand)) {
            return BAD;
        }
        lookAt(VIEW_OF_HAND_0 + hand);
        if (!isSpan(a, b) || !isPlace(c) || (c > a && c < b)) {
            return BAD;
        }
        int around = movesBehind(c);
        int carried = tokensCarried(a, b);
        if ((reachedFrom(around) & carried) != 0) {
            return NOT;
        }
        if (row.room() < 1 || ledger.isFull()) {
            return FULL;
        }
        int made = ledger.add(MOVED, hand, 0);
        enter(a, b, made);
        row.enterTokens(carried, bit(made));
        row.insertToken(spotBehind(c), made, around);
        return made;
    }

    public int settle(int change, boolean taken) {
        if (!ledger.names(change)) {
            return BAD;
        }
        if (ledger.state[change] != OPEN) {
            return NOT;
        }
        ledger.state[change] = taken ? TAKEN : REFUSED;
        return 1;
    }

    public int cut(int change, int k) {
        if (!ledger.names(change)) {
            return BAD;
        }
        if (ledger.kind[change] == MOVED) {
            return CAST;
        }
        if (ledger.state[change] != OPEN || k < 1 || k >= row.lettersIn(bit(change))) {
            return NOT;
        }
        if (ledger.isFull()) {
            return FULL;
        }
        int made = ledger.add(ledger.kind[change], ledger.hand[change], ledger.look[change]);
        row.handOver(bit(change), bit(made), k);
        return made;
    }

    public int change(int change, int what) {
        if (!ledger.names(change)) {
            return BAD;
        }
        switch (what) {
            case 0:
                return ledger.kind[change];
            case 1:
                return ledger.hand[change];
            case 2:
                return ledger.state[change];
            case 3:
                return ledger.look[change];
            case 4:
                return row.lettersIn(bit(change));
            default:
                return BAD;
        }
    }

    public int span(int change, int view, boolean last) {
        if (!ledger.names(change) || !isView(view)) {
            return BAD;
        }
        lookAt(view);
        int found = NOT;
        for (int p = 0; p < shown.size && (last || found == NOT); p++) {
            int spot = shown.spotAt(p);
            if (row.has(spot) && (row.in[spot] & bit(change)) != 0) {
                found = p;
            }
        }
        return found;
    }

    public int look(int change, int look) {
        if (!ledger.names(change) || !isLook(look)) {
            return BAD;
        }
        if (ledger.kind[change] != SHAPED) {
            return CAST;
        }
        if (ledger.state[change] != OPEN) {
            return NOT;
        }
        int before = ledger.look[change];
        ledger.look[change] = look;
        return before;
    }

    public int clash(int a, int b) {
        if (!ledger.names(a) || !ledger.names(b) || a == b) {
            return BAD;
        }
        return clashOf(a, b);
    }

    public int clashes() {
        int found = 0;
        for (int a = 1; a <= MOST_CHANGES && ledger.names(a); a++) {
            for (int b = a + 1; b <= MOST_CHANGES && ledger.names(b); b++) {
                if (clashOf(a, b) != 0) {
                    found++;
                }
            }
        }
        return found;
    }

    // ---- 3 comparing, cleaning

    public int compare(int hand) {
        if (!isHand(hand)) {
            return BAD;
        }
        lookAt(NOW);
        comparison.read(row, shown, tape);
        if (comparison.changesDue() > ledger.room() || comparison.lettersDue() > row.room()) {
            return FULL;
        }
        int before = ledger.size;
        makeCompared(hand);
        tape.size = 0;
        return ledger.size - before;
    }

    public int clean() {
        int open = ledger.inState(OPEN);
        int moved = ledger.ofKind(MOVED);
        if ((open & moved) != 0) {
            return NOT;
        }
        int taken = ledger.inState(TAKEN);
        int refused = ledger.inState(REFUSED);
        int gone = (ledger.ofKind(PUT) & refused) | (ledger.ofKind(STRUCK) & taken);
        shown.gatherAll(row, taken, taken & moved, gone);
        spare.size = 0;
        for (int p = 0; p < shown.size; p++) {
            int spot = shown.spotAt(p);
            wearTaken(spot, taken);
            spare.addFrom(row, spot, open);
        }
        row.takeAll(spare);
        return row.size;
    }

    public int count(int what) {
        switch (what) {
            case 0:
                return row.size - row.tokens();
            case 1:
                return row.tokens();
            case 2:
                return ledger.size;
            case 3:
                return Integer.bitCount(ledger.inState(OPEN));
            case 4:
                return Integer.bitCount(ledger.inState(TAKEN));
            case 5:
                return Integer.bitCount(ledger.inState(REFUSED));
            case 6:
                return tape.size;
            default:
                return BAD;
        }
    }

    // ---- what the calls are made of

    private static boolean isView(int view) {
        return view >= 0 && view < VIEWS;
    }

    private static boolean isHand(int hand) {
        return hand >= 0 && hand < HANDS;
    }

    private static boolean isLook(int look) {
        return look >= 1 && look <= MOST_LOOK;
    }

    private static int byteOf(long w, int i) {
        return (int) ((w >>> (8 * i)) & 255);
    }

    private static boolean areBytes(long w, int n) {
        for (int i = 0; i < n; i++) {
            int b = byteOf(w, i);
            if (b < LEAST_BYTE || b > GREATEST_BYTE) {
                return false;
            }
        }
        return true;
    }

    /** A set of CHANGES is one int; CHANGE n is its bit n. */
    private static int bit(int change) {
        return change >= 1 && change <= MOST_CHANGES ? 1 << change : 0;
    }

    private static int latest(int changes) {
        for (int n = MOST_CHANGES; n >= 1; n--) {
            if ((changes & bit(n)) != 0) {
                return n;
            }
        }
        return 0;
    }

    /** The CHANGES with a greater number than this one. */
    private static int laterThan(int change) {
        return change >= 0 && change <= MOST_CHANGES ? -1 << (change + 1) : 0;
    }

    private void lookAt(int view) {
        int counts = ledger.counting(view);
        int hides = (ledger.ofKind(PUT) & ~counts) | (ledger.ofKind(STRUCK) & counts);
        shown.gatherAll(row, counts, ledger.ofKind(MOVED) & counts, hides);
    }

    private boolean isPlace(int a) {
        return a >= 0 && a <= shown.size;
    }

    private boolean isSpan(int a, int b) {
        return a >= 0 && a < b && b <= shown.size;
    }

    private int spotBehind(int a) {
        return a == 0 ? 0 : shown.spotAt(a - 1) + 1;
    }

    private int movesBehind(int a) {
        int spot = shown.spotAt(a - 1);
        return row.has(spot) ? row.in[spot] & ledger.ofKind(MOVED) : 0;
    }

    private int lookOf(int spot) {
        int worn = latest(row.in[spot] & ledger.ofKind(SHAPED) & shown.counts & laterThan(row.since[spot]));
        return worn == 0 ? row.own[spot] : ledger.look[worn];
    }

    private int mark(int kind, int hand, int a, int b, int look) {
        if (!isHand(hand)) {
            return BAD;
        }
        lookAt(VIEW_OF_HAND_0 + hand);
        if (!isSpan(a, b)) {
            return BAD;
        }
        if (ledger.isFull()) {
            return FULL;
        }
        int made = ledger.add(kind, hand, look);
        enter(a, b, made);
        return made;
    }

    private void enter(int a, int b, int change) {
        for (int p = a; p < b; p++) {
            row.enter(shown.spotAt(p), bit(change));
        }
    }

    private void putBehind(int a, int change, int from, int to) {
        row.insertLetters(spotBehind(a), tape, from, to, movesBehind(a) | bit(change));
    }

    /** The MOVED ones whose TOKENS a move of this SPAN takes along. */
    private int tokensCarried(int a, int b) {
        int first = row.size;
        int last = -1;
        int homes = 0;
        for (int p = a; p < b; p++) {
            int spot = shown.spotAt(p);
            first = Math.min(first, spot);
            last = Math.max(last, spot);
            homes |= 1 << shown.homeAt(spot);
        }
        int carried = 0;
        for (int spot = first + 1; spot < last; spot++) {
            if (row.isToken(spot) && (homes & (1 << shown.homeAt(spot))) != 0) {
                carried |= bit(row.token[spot]);
            }
        }
        return carried;
    }

    /** These MOVED ones, those in which their TOKENS are, those in which the TOKENS of these are, and so on. */
    private int reachedFrom(int moves) {
        int reached = moves;
        for (int round = 0; round < MOST_CHANGES; round++) {
            reached |= row.aroundTokens(reached);
        }
        return reached;
    }

    private int clashOf(int a, int b) {
        if (ledger.state[a] != OPEN || ledger.state[b] != OPEN || ledger.hand[a] == ledger.hand[b]) {
            return 0;
        }
        int rule = clashRule(a, b);
        return rule != 0 && row.anyLetterIn(bit(a) | bit(b)) ? rule : 0;
    }

    private int clashRule(int a, int b) {
        int low = Math.min(ledger.kind[a], ledger.kind[b]);
        int high = Math.max(ledger.kind[a], ledger.kind[b]);
        if (low == PUT && high == STRUCK) {
            return 1;
        }
        if (low == MOVED && high == MOVED) {
            return 2;
        }
        if (low == SHAPED && high == SHAPED && ledger.look[a] != ledger.look[b]) {
            return 3;
        }
        if (low == STRUCK && (high == SHAPED || high == REMARK)) {
            return 4;
        }
        return 0;
    }

    private void makeCompared(int hand) {
        comparison.restart();
        for (int gap = 0; gap <= MOST_BYTES && comparison.nextGap(); gap++) {
            if (comparison.strikes() > 0) {
                enter(comparison.nowFrom, comparison.nowTo, ledger.add(STRUCK, hand, 0));
            }
            if (comparison.puts() > 0) {
                int made = ledger.add(PUT, hand, 0);
                putBehind(comparison.nowTo, made, comparison.tapeFrom, comparison.tapeTo);
                // what is behind in THE ROW has gone on by as many pieces as were put
                lookAt(NOW);
            }
        }
    }

    private void wearTaken(int spot, int taken) {
        if (!row.has(spot)) {
            return;
        }
        int worn = latest(row.in[spot] & ledger.ofKind(SHAPED) & taken & laterThan(row.since[spot]));
        if (worn != 0) {
            row.own[spot] = ledger.look[worn];
            row.since[spot] = worn;
        }
    }

    private static final class Tape {
        final int[] bytes = new int[MOST_BYTES];
        int size;

        void add(int b) {
            if (size >= 0 && size < MOST_BYTES) {
                bytes[size] = b;
                size++;
            }
        }

        int byteAt(int i) {
            return i >= 0 && i < size && i < MOST_BYTES ? bytes[i] : 0;
        }
    }

    /** The CHANGES by their numbers, 1 .. size. */
    private static final class Ledger {
        final int[] kind = new int[MOST_CHANGES + 1];
        final int[] hand = new int[MOST_CHANGES + 1];
        final int[] state = new int[MOST_CHANGES + 1];
        final int[] look = new int[MOST_CHANGES + 1];
        int size;

        boolean names(int change) {
            return change >= 1 && change <= size && change <= MOST_CHANGES;
        }

        int room() {
            return MOST_CHANGES - size;
        }

        boolean isFull() {
            return room() < 1;
        }

        int add(int kindOfIt, int handOfIt, int lookOfIt) {
            if (size < 0 || size >= MOST_CHANGES) {
                return 0;
            }
            size++;
            kind[size] = kindOfIt;
            hand[size] = handOfIt;
            state[size] = OPEN;
            look[size] = lookOfIt;
            return size;
        }

        int ofKind(int wanted) {
            int found = 0;
            for (int n = 1; n <= MOST_CHANGES && names(n); n++) {
                if (kind[n] == wanted) {
                    found |= bit(n);
                }
            }
            return found;
        }

        int inState(int wanted) {
            int found = 0;
            for (int n = 1; n <= MOST_CHANGES && names(n); n++) {
                if (state[n] == wanted) {
                    found |= bit(n);
                }
            }
            return found;
        }

        int ofHand(int wanted) {
            int found = 0;
            for (int n = 1; n <= MOST_CHANGES && names(n); n++) {
                if (hand[n] == wanted) {
                    found |= bit(n);
                }
            }
            return found;
        }

        int counting(int view) {
            if (view < NOW) {
                return 0;
            }
            int taken = inState(TAKEN);
            if (view == NOW) {
                return taken;
            }
            int open = inState(OPEN);
            return taken | (view == ALL ? open : open & ofHand(view - VIEW_OF_HAND_0));
        }
    }

    /** THE ROW: its pieces, LETTERS and TOKENS, from the left; a spot is an index in it. */
    private static final class Row {
        final int[] sign = new int[MOST_PIECES];
        /** The CHANGE whose TOKEN the piece is; 0: it is a LETTER. */
        final int[] token = new int[MOST_PIECES];
        /** All CHANGES in which the piece is, its PUT too. */
        final int[] in = new int[MOST_PIECES];
        final int[] own = new int[MOST_PIECES];
        /** The CHANGE that the own LOOK came from: no SHAPED one up to it counts for this LETTER. */
        final int[] since = new int[MOST_PIECES];
        int size;

        boolean has(int spot) {
            return spot >= 0 && spot < size && spot < MOST_PIECES;
        }

        int room() {
            return MOST_PIECES - size;
        }

        boolean isToken(int spot) {
            return has(spot) && token[spot] != 0;
        }

        int tokens() {
            int found = 0;
            for (int spot = 0; spot < MOST_PIECES && has(spot); spot++) {
                if (token[spot] != 0) {
                    found++;
                }
            }
            return found;
        }

        void enter(int spot, int changes) {
            if (has(spot)) {
                in[spot] |= changes;
            }
        }

        void enterTokens(int tokens, int changes) {
            for (int spot = 0; spot < MOST_PIECES && has(spot); spot++) {
                if ((bit(token[spot]) & tokens) != 0) {
                    in[spot] |= changes;
                }
            }
        }

        int aroundTokens(int tokens) {
            int around = 0;
            for (int spot = 0; spot < MOST_PIECES && has(spot); spot++) {
                if ((bit(token[spot]) & tokens) != 0) {
                    around |= in[spot];
                }
            }
            return around;
        }

        int lettersIn(int change) {
            int found = 0;
            for (int spot = 0; spot < MOST_PIECES && has(spot); spot++) {
                if (token[spot] == 0 && (in[spot] & change) != 0) {
                    found++;
                }
            }
            return found;
        }

        /** Whether some LETTER is in each of these. */
        boolean anyLetterIn(int changes) {
            for (int spot = 0; spot < MOST_PIECES && has(spot); spot++) {
                if (token[spot] == 0 && (in[spot] & changes) == changes) {
                    return true;
                }
            }
            return false;
        }

        void handOver(int change, int other, int kept) {
            int seen = 0;
            for (int spot = 0; spot < MOST_PIECES && has(spot); spot++) {
                if (token[spot] == 0 && (in[spot] & change) != 0) {
                    seen++;
                    if (seen > kept) {
                        in[spot] = in[spot] & ~change | other;
                    }
                }
            }
        }

        void insertLetters(int at, Tape tape, int from, int to, int changes) {
            if (!makeRoom(at, to - from)) {
                return;
            }
            for (int i = from; i < to; i++) {
                write(at + i - from, tape.byteAt(i), 0, changes);
            }
        }

        void insertToken(int at, int change, int changes) {
            if (makeRoom(at, 1)) {
                write(at, 0, change, changes);
            }
        }

        private boolean makeRoom(int at, int n) {
            if (size < 0 || at < 0 || at > size || n < 0 || n > room()) {
                return false;
            }
            int behind = size - at;
            System.arraycopy(sign, at, sign, at + n, behind);
            System.arraycopy(token, at, token, at + n, behind);
            System.arraycopy(in, at, in, at + n, behind);
            System.arraycopy(own, at, own, at + n, behind);
            System.arraycopy(since, at, since, at + n, behind);
            size += n;
            return true;
        }

        private void write(int spot, int signOfIt, int tokenOfIt, int changes) {
            if (has(spot)) {
                sign[spot] = signOfIt;
                token[spot] = tokenOfIt;
                in[spot] = changes;
                own[spot] = 0;
                since[spot] = 0;
            }
        }

        /** A piece of another row comes behind this one, in no CHANGES but these. */
        void addFrom(Row other, int spot, int changes) {
            if (!other.has(spot) || !makeRoom(size, 1)) {
                return;
            }
            int at = size - 1;
            write(at, other.sign[spot], other.token[spot], other.in[spot] & changes);
            own[at] = other.own[spot];
            since[at] = other.since[spot];
        }

        void takeAll(Row other) {
            size = 0;
            for (int spot = 0; spot < MOST_PIECES && other.has(spot); spot++) {
                addFrom(other, spot, -1);
            }
        }
    }

    /** What one VIEW shows: the spots of its LETTERS by their places, and where each piece of THE ROW STANDS. */
    private static final class View {
        final int[] spots = new int[MOST_PIECES];
        final int[] homes = new int[MOST_PIECES];
        int size;
        int counts;
        private int hides;

        /** LETTERS in one of the hiding CHANGES are left out; moving are the MOVED ones that count. */
        void gatherAll(Row row, int counting, int moving, int hiding) {
            counts = counting;
            hides = hiding;
            size = 0;
            for (int spot = 0; spot < MOST_PIECES && row.has(spot); spot++) {
                homes[spot] = latest(row.in[spot] & moving);
            }
            gather(this, row, 0, 0);
        }

        /** No CHANGE stands within itself, so that the depth stays below the number of CHANGES. */
        private static void gather(View view, Row row, int home, int depth) {
            if (depth > MOST_CHANGES) {
                return;
            }
            for (int spot = 0; spot < MOST_PIECES && row.has(spot); spot++) {
                if (view.homes[spot] != home) {
                    continue;
                }
                int token = row.token[spot];
                if (token == 0) {
                    view.addUnlessHidden(row, spot);
                } else if ((bit(token) & view.counts) != 0) {
                    gather(view, row, token, depth + 1);
                }
            }
        }

        private void addUnlessHidden(Row row, int spot) {
            if (row.has(spot) && (row.in[spot] & hides) == 0 && size >= 0 && size < MOST_PIECES) {
                spots[size] = spot;
                size++;
            }
        }

        /** -1 where no LETTER is SHOWN. */
        int spotAt(int p) {
            return p >= 0 && p < size && p < MOST_PIECES ? spots[p] : -1;
        }

        int homeAt(int spot) {
            return spot >= 0 && spot < MOST_PIECES ? homes[spot] : 0;
        }
    }

    /** NOW and THE TAPE side by side: the gaps between the LETTERS that are kept, from the left. */
    private static final class Comparison {
        private final int[] now = new int[MOST_PIECES];
        private final int[] typed = new int[MOST_BYTES];
        private int nowSize;
        private int typedSize;
        /** Bit j of words 2 i and 2 i + 1: with i LETTERS of NOW and j bytes behind us, NOW's next one is STRUCK. */
        private final long[] strikesNext = new long[2 * MOST_PIECES];
        /** How many alike ones there are at most behind j bytes of THE TAPE. */
        private final int[] most = new int[MOST_BYTES + 1];
        int nowFrom;
        int nowTo;
        int tapeFrom;
        int tapeTo;

        void read(Row row, View view, Tape tape) {
            nowSize = 0;
            for (int p = 0; p < view.size && p < MOST_PIECES; p++) {
                int spot = view.spotAt(p);
                now[p] = row.has(spot) ? row.sign[spot] : 0;
                nowSize++;
            }
            typedSize = 0;
            for (int j = 0; j < tape.size && j < MOST_BYTES; j++) {
                typed[j] = tape.byteAt(j);
                typedSize++;
            }
            weigh();
        }

        private void weigh() {
            for (int j = 0; j <= MOST_BYTES; j++) {
                most[j] = 0;
            }
            for (int i = nowSize - 1; i >= 0; i--) {
                weighLetter(i);
            }
        }

        /** From how many alike ones there are at most behind LETTER i of NOW to how many there are with it. */
        private void weighLetter(int i) {
            if (i < 0 || i >= MOST_PIECES) {
                return;
            }
            long low = 0;
            long high = 0;
            int withoutBoth = 0;
            for (int j = Math.min(typedSize, MOST_BYTES) - 1; j >= 0; j--) {
                int withoutThis = most[j];
                most[j] = now[i] == typed[j] ? withoutBoth + 1 : Math.max(withoutThis, most[j + 1]);
                long strikes = most[j] == withoutThis ? 1L : 0L;
                if (j < 64) {
                    low |= strikes << j;
                } else {
                    high |= strikes << (j - 64);
                }
                withoutBoth = withoutThis;
            }
            strikesNext[2 * i] = low;
            strikesNext[2 * i + 1] = high;
        }

        void restart() {
            nowFrom = 0;
            nowTo = 0;
            tapeFrom = 0;
            tapeTo = 0;
        }

        int strikes() {
            return nowTo - nowFrom;
        }

        int puts() {
            return tapeTo - tapeFrom;
        }

        /** Goes over what is kept next, then over what is not; false where nothing is left. */
        boolean nextGap() {
            for (int step = 0; step < MOST_BYTES && areAlike(nowTo, tapeTo); step++) {
                nowTo++;
                tapeTo++;
            }
            nowFrom = nowTo;
            tapeFrom = tapeTo;
            for (int step = 0; step < MOST_PIECES + MOST_BYTES && isWithinGap(); step++) {
                if (isStruckNext(nowTo, tapeTo)) {
                    nowTo++;
                } else {
                    tapeTo++;
                }
            }
            return strikes() > 0 || puts() > 0;
        }

        private boolean isWithinGap() {
            return (isOfNow(nowTo) || isOfTape(tapeTo)) && !areAlike(nowTo, tapeTo);
        }

        private boolean isOfNow(int i) {
            return i >= 0 && i < nowSize && i < MOST_PIECES;
        }

        private boolean isOfTape(int j) {
            return j >= 0 && j < typedSize && j < MOST_BYTES;
        }

        private boolean areAlike(int i, int j) {
            return isOfNow(i) && isOfTape(j) && now[i] == typed[j];
        }

        private boolean isStruckNext(int i, int j) {
            if (!isOfNow(i)) {
                return false;
            }
            if (!isOfTape(j)) {
                return true;
            }
            long word = j < 64 ? strikesNext[2 * i] : strikesNext[2 * i + 1];
            return (word >>> (j < 64 ? j : j - 64) & 1L) != 0;
        }

        int changesDue() {
            int due = 0;
            restart();
            for (int gap = 0; gap <= MOST_BYTES && nextGap(); gap++) {
                due += (strikes() > 0 ? 1 : 0) + (puts() > 0 ? 1 : 0);
            }
            return due;
        }

        int lettersDue() {
            int due = 0;
            restart();
            for (int gap = 0; gap <= MOST_BYTES && nextGap(); gap++) {
                due += puts();
            }
            return due;
        }
    }
}
