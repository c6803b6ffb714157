import java.util.Arrays;

/**
 * A plate of needles that point up or down, whose neighbours want to agree or to differ.
 * The words in capitals in the comments are those of the document's "Terms".
 */
public final class NeedlePlate {
    public static final int BAD = -1, STATE = -2, FULL = -3, NONE = -9, NULL = -11, INDEX = -12, CAST = -13, SIZE = -15;

    // BAD's stand-in where -1 may be an honest answer
    private static final int BAD_AMONG_NUMBERS = -1000000;

    private static final int MOST_SIDE = 6;
    private static final int MOST_NEEDLES = 12;
    private static final int MOST_JOINTS = 17;
    private static final int MOST_FIELDS = 7;
    private static final int MOST_ARRANGEMENTS = 1 << MOST_NEEDLES;
    private static final int FIRST_SIDE = 3;
    private static final int MOST_WANT = 1000;
    private static final int MOST_KEPT = 20;

    private static final int KIND_HELD = 1;
    private static final int KIND_EDGE = 4;
    private static final int KINDS = 5;
    private static final int[] WORTHS = {1, 1, 2, 0, 1};

    // By KIND, the sum over all bodies that are asked: a DOUBLE asks the NEEDLE's WORTH twice,
    // an EDGE asks HELD or, when it is LET GO, past HELD the NEEDLE.
    private static final int[] POINT_TRACES = {1, 10, 1, 1, 110};
    private static final int LET_GO_POINT_TRACE = 101;
    private static final int[] WORTH_TRACES = {1000, 1000, 12000, 100000, 1000};

    private static final int STRIPS = 4;
    private static final int MOST_ROWS = 4;
    private static final int MOST_NUMBERS = 12;
    private static final int SORT_BYTES = 0;
    private static final int SORT_SHORTS = 1;
    private static final int SORTS = 3;

    // above every sum of AMOUNTS, and far enough from int's end to be added up
    private static final int FAR = 10000000;

    private final Plate plate = new Plate();
    private final History history = new History();
    private final Landscape landscape = new Landscape();
    private final Pairing pairing = new Pairing();
    private final Strip[] strips = new Strip[STRIPS];
    private long traced = 0;
    private int refusal = 0;

    public NeedlePlate() {
        for (int i = 0; i < STRIPS; i++) {
            strips[i] = new Strip();
        }
        plate.grid.layOut(FIRST_SIDE, FIRST_SIDE);
    }

    // ---- the plate

    public int plate(int rows, int columns) {
        if (rows < 1 || rows > MOST_SIDE || columns < 1 || columns > MOST_SIDE || rows * columns > MOST_NEEDLES) {
            return BAD;
        }
        plate.grid.layOut(rows, columns);
        plate.setting.reset();
        history.forget();
        landscape.stale = true;
        return plate.grid.joints;
    }

    public int kind(int needle, int kind) {
        if (isNoNeedle(needle) || kind < 0 || kind >= KINDS) {
            return BAD;
        }
        if (kind == KIND_EDGE && !plate.grid.isOnRim(needle)) {
            return BAD;
        }
        keepAndReshape();
        int was = plate.setting.kinds[needle];
        plate.setting.kinds[needle] = kind;
        plate.setting.letGo &= ~plate.bitOf(needle);
        return was;
    }

    public int tell(int needle, int v) {
        if (isNoNeedle(needle) || v < 0 || v > 1) {
            return BAD;
        }
        keepAndReshape();
        int was = plate.bitIn(plate.setting.tolds, needle);
        plate.setting.tolds = plate.withBit(plate.setting.tolds, needle, v == 1);
        return was;
    }

    public int let(int needle, boolean go) {
        if (isNoNeedle(needle) || plate.setting.kinds[needle] != KIND_EDGE) {
            return BAD;
        }
        keepAndReshape();
        int was = plate.bitIn(plate.setting.letGo, needle);
        plate.setting.letGo = plate.withBit(plate.setting.letGo, needle, go);
        return was;
    }

    public int turn(int needle) {
        if (isNoNeedle(needle)) {
            return BAD_AMONG_NUMBERS;
        }
        history.keep(plate.setting);
        int more = plate.moreByTurning(needle);
        plate.turnOver(needle);
        return more;
    }

    public int gauge(int needle) {
        if (isNoNeedle(needle)) {
            return BAD_AMONG_NUMBERS;
        }
        keepAndReshape();
        int before = plate.strainNow();
        plate.turnOver(needle);
        plate.negateWantsAround(needle);
        return plate.strainNow() - before;
    }

    public int want(int joint, int v) {
        if (isNoJoint(joint) || isNoWant(v)) {
            return BAD_AMONG_NUMBERS;
        }
        keepAndReshape();
        int was = plate.setting.wants[joint];
        plate.setting.wants[joint] = v;
        return was;
    }

    public int arrange(int arrangement) {
        if (isNoArrangement(arrangement)) {
            return BAD;
        }
        history.keep(plate.setting);
        int held = plate.heldBits();
        plate.setting.turns = (plate.setting.turns & held) | (arrangement & ~held);
        return plate.strainNow();
    }

    public int one() {
        history.keep(plate.setting);
        int turned = 0;
        // each turn lessens THE STRAIN, so that no ARRANGEMENT comes twice
        while (turned < MOST_ARRANGEMENTS) {
            int needle = plate.firstToRelax();
            if (needle < 0) {
                break;
            }
            plate.turnOver(needle);
            turned++;
        }
        return turned;
    }

    public int undo() {
        if (history.size == 0) {
            return STATE;
        }
        history.giveBack(plate.setting);
        landscape.stale = true;
        return history.size;
    }

    // ---- what is seen

    public int point(int needle) {
        if (isNoNeedle(needle)) {
            return BAD;
        }
        boolean free = plate.bitIn(plate.setting.letGo, needle) == 1;
        traced += free ? LET_GO_POINT_TRACE : POINT_TRACES[plate.setting.kinds[needle]];
        return plate.bitIn(plate.pointing(), needle);
    }

    public int worth(int needle) {
        if (isNoNeedle(needle)) {
            return BAD;
        }
        int kind = plate.setting.kinds[needle];
        traced += WORTH_TRACES[kind];
        return WORTHS[kind];
    }

    public int needle(int needle, int what) {
        if (isNoNeedle(needle)) {
            return BAD;
        }
        switch (what) {
            case 0: return plate.bitIn(plate.setting.turns, needle);
            case 1: return plate.bitIn(plate.setting.tolds, needle);
            case 2: return plate.setting.kinds[needle];
            case 3: return plate.bitIn(plate.setting.letGo, needle);
            case 4: return asNumber(plate.isHeld(needle));
            default: return BAD;
        }
    }

    public int joint(int joint, int what) {
        if (isNoJoint(joint)) {
            return BAD;
        }
        switch (what) {
            case 0: return plate.grid.firsts[joint];
            case 1: return plate.grid.seconds[joint];
            case 2: return plate.grid.lowFields[joint];
            case 3: return plate.grid.highFields[joint];
            case 4: return plate.setting.wants[joint] + MOST_WANT;
            case 5: return asNumber(plate.isUnmet(joint, plate.pointing()));
            case 6: return plate.amountOf(joint);
            default: return BAD;
        }
    }

    public int strain() {
        return plate.strainNow();
    }

    public int troubled(int field) {
        if (isNoField(field)) {
            return BAD;
        }
        return (plate.troubledFields() >> field) & 1;
    }

    public int apart(int field, int other) {
        if (isNoField(field) || isNoField(other)) {
            return BAD;
        }
        pairing.measure(plate);
        return pairing.between(field, other);
    }

    public int paired() {
        if (plate.heldBits() != 0) {
            return STATE;
        }
        pairing.measure(plate);
        return pairing.cheapestOf(plate.troubledFields());
    }

    // ---- arrangements

    public int of(int arrangement) {
        if (isNoArrangement(arrangement)) {
            return BAD;
        }
        return plate.strainOf(arrangement);
    }

    public int least() {
        return surveyed().lowest;
    }

    public int many() {
        Landscape seen = surveyed();
        return seen.countWith(seen.lowest);
    }

    public int best(int i) {
        if (i < 0) {
            return BAD;
        }
        Landscape seen = surveyed();
        return seen.pick(seen.lowest, i);
    }

    public int sure(int joint) {
        if (isNoJoint(joint)) {
            return BAD_AMONG_NUMBERS;
        }
        int first = plate.bitOf(plate.grid.firsts[joint]);
        int second = plate.bitOf(plate.grid.seconds[joint]);
        return surveyed().agreement(first, second);
    }

    public int counts(int v) {
        if (v < 0) {
            return BAD;
        }
        return surveyed().countWith(v);
    }

    public int draw(int v, int i) {
        if (v < 0 || i < 0) {
            return BAD;
        }
        return surveyed().pick(v, i);
    }

    public int above(int v) {
        return surveyed().nextAfter(v);
    }

    // ---- strips

    public int strip(int strip, int sort, int n) {
        if (isNoStrip(strip) || isNoSort(sort) || n > MOST_ROWS) {
            return refuse(BAD);
        }
        if (n < 0) {
            return refuse(SIZE);
        }
        strips[strip].begin(sort, n);
        return accept(1);
    }

    public int row(int strip, int r, int n) {
        if (isNoStrip(strip) || n > MOST_NUMBERS) {
            return refuse(BAD);
        }
        if (strips[strip].isAbsent()) {
            return refuse(NULL);
        }
        if (strips[strip].lacksRow(r)) {
            return refuse(INDEX);
        }
        if (n < 0) {
            return refuse(SIZE);
        }
        strips[strip].renewRow(r, n);
        return accept(1);
    }

    public int put(int strip, int sort, int r, int i, int v) {
        int finding = findingOfPlace(strip, sort, r, i);
        if (finding != 0) {
            return refuse(finding);
        }
        strips[strip].write(r, i, v);
        return accept(1);
    }

    public int item(int strip, int sort, int r, int i) {
        refusal = findingOfPlace(strip, sort, r, i);
        return refusal == 0 ? strips[strip].numberAt(r, i) : 0;
    }

    public int copy(int strip, int r, int i, int other, int s, int j, int n) {
        if (isNoStrip(strip) || isNoStrip(other)) {
            return refuse(BAD);
        }
        Strip from = strips[strip];
        Strip to = strips[other];
        int finding = findingOfTwoRows(from, r, to, s);
        if (finding != 0) {
            return refuse(finding);
        }
        if (from.lacksRange(r, i, n) || to.lacksRange(s, j, n)) {
            return refuse(INDEX);
        }
        System.arraycopy(from.numbers, from.placeOf(r, i), to.numbers, to.placeOf(s, j), n);
        return accept(n);
    }

    public int read(int strip, int r, int joint, int n) {
        if (isNoStrip(strip) || joint < 0 || n < 0 || n > plate.grid.joints - joint) {
            return refuse(BAD);
        }
        int finding = findingOfWants(strips[strip], r, n);
        if (finding != 0) {
            return refuse(finding);
        }
        keepAndReshape();
        for (int k = 0; k < n; k++) {
            plate.setting.wants[joint + k] = strips[strip].numberAt(r, k);
        }
        return accept(n);
    }

    // ---- what is told

    public int about(int what) {
        switch (what) {
            case 0: return plate.grid.rows;
            case 1: return plate.grid.columns;
            case 2: return plate.grid.needles;
            case 3: return plate.grid.joints;
            case 4: return plate.grid.fields;
            case 5: return Integer.bitCount(plate.heldBits());
            case 6: return Integer.bitCount(plate.troubledFields());
            case 7: return history.size;
            default: return BAD;
        }
    }

    public long trace() {
        return traced;
    }

    public int status() {
        return refusal;
    }

    // ---- looking at arguments

    private boolean isNoNeedle(int needle) {
        return needle < 0 || needle >= plate.grid.needles;
    }

    private boolean isNoJoint(int joint) {
        return joint < 0 || joint >= plate.grid.joints;
    }

    private boolean isNoField(int field) {
        return field < 0 || field >= plate.grid.fields;
    }

    private boolean isNoArrangement(int arrangement) {
        return arrangement < 0 || arrangement >= plate.arrangements();
    }

    private static boolean isNoWant(int v) {
        return v < -MOST_WANT || v > MOST_WANT;
    }

    private static boolean isNoStrip(int strip) {
        return strip < 0 || strip >= STRIPS;
    }

    private static boolean isNoSort(int sort) {
        return sort < 0 || sort >= SORTS;
    }

    private static int asNumber(boolean yes) {
        return yes ? 1 : 0;
    }

    // ---- findings

    private int refuse(int reason) {
        refusal = reason;
        return reason;
    }

    private int accept(int answer) {
        refusal = 0;
        return answer;
    }

    private int findingOfPlace(int strip, int sort, int r, int i) {
        if (isNoStrip(strip) || isNoSort(sort)) {
            return BAD;
        }
        if (strips[strip].isAbsent()) {
            return NULL;
        }
        if (strips[strip].sort != sort) {
            return CAST;
        }
        return strips[strip].findingAt(r, i);
    }

    private static int findingOfTwoRows(Strip from, int r, Strip to, int s) {
        if (from.isAbsent() || to.isAbsent()) {
            return NULL;
        }
        if (from.sort != to.sort) {
            return CAST;
        }
        if (from.lacksRow(r) || to.lacksRow(s)) {
            return INDEX;
        }
        return from.isMissing(r) || to.isMissing(s) ? NULL : 0;
    }

    // Number by number, as the first thing that is wrong in their order is the one to tell.
    private static int findingOfWants(Strip strip, int r, int n) {
        for (int k = 0; k < n; k++) {
            int finding = strip.isAbsent() ? NULL : strip.findingAt(r, k);
            if (finding != 0) {
                return finding;
            }
            if (isNoWant(strip.numberAt(r, k))) {
                return BAD;
            }
        }
        return 0;
    }

    // ---- what is kept up to date

    // Ahead of all changes but those of TURNS, which alter neither what JOINTS count nor what MAY BE.
    private void keepAndReshape() {
        history.keep(plate.setting);
        landscape.stale = true;
    }

    private Landscape surveyed() {
        if (landscape.stale) {
            landscape.survey(plate);
        }
        return landscape;
    }

    /** Where NEEDLES, JOINTS and FIELDS lie. */
    private static final class Grid {
        int rows;
        int columns;
        int needles;
        int joints;
        int fields;
        int rim;
        final int[] firsts = new int[MOST_JOINTS];
        final int[] seconds = new int[MOST_JOINTS];
        final int[] lowFields = new int[MOST_JOINTS];
        final int[] highFields = new int[MOST_JOINTS];

        void layOut(int rowCount, int columnCount) {
            rows = rowCount;
            columns = columnCount;
            needles = rows * columns;
            fields = (rows - 1) * (columns - 1) + 1;
            joints = 0;
            rim = 0;
            for (int r = 0; r < rows; r++) {
                for (int c = 0; c < columns; c++) {
                    markRim(r, c);
                    if (c < columns - 1) {
                        addJoint(r * columns + c, 1, fieldAt(r - 1, c), fieldAt(r, c));
                    }
                }
            }
            for (int r = 0; r < rows - 1; r++) {
                for (int c = 0; c < columns; c++) {
                    addJoint(r * columns + c, columns, fieldAt(r, c - 1), fieldAt(r, c));
                }
            }
        }

        private void markRim(int r, int c) {
            if (r == 0 || r == rows - 1 || c == 0 || c == columns - 1) {
                rim |= 1 << (r * columns + c);
            }
        }

        private int fieldAt(int r, int c) {
            boolean inside = r >= 0 && r < rows - 1 && c >= 0 && c < columns - 1;
            return inside ? r * (columns - 1) + c : fields - 1;
        }

        private void addJoint(int needle, int step, int oneField, int otherField) {
            if (joints < MOST_JOINTS) {
                firsts[joints] = needle;
                seconds[joints] = needle + step;
                lowFields[joints] = Math.min(oneField, otherField);
                highFields[joints] = Math.max(oneField, otherField);
                joints++;
            }
        }

        boolean isOnRim(int needle) {
            return ((rim >> needle) & 1) == 1;
        }
    }

    /** What undo() gives back; TURNS, TOLDS and who is LET GO have an ARRANGEMENT's bits. */
    private static final class Setting {
        int turns;
        int tolds;
        int letGo;
        final int[] kinds = new int[MOST_NEEDLES];
        final int[] wants = new int[MOST_JOINTS];

        void reset() {
            turns = 0;
            tolds = 0;
            letGo = 0;
            Arrays.fill(kinds, 0);
            Arrays.fill(wants, 0);
        }

        void takeOver(Setting other) {
            turns = other.turns;
            tolds = other.tolds;
            letGo = other.letGo;
            System.arraycopy(other.kinds, 0, kinds, 0, MOST_NEEDLES);
            System.arraycopy(other.wants, 0, wants, 0, MOST_JOINTS);
        }
    }

    /** The latest settings, in a ring, so that none is made anew by a call. */
    private static final class History {
        final Setting[] kept = new Setting[MOST_KEPT];
        int next;
        int size;

        History() {
            for (int i = 0; i < MOST_KEPT; i++) {
                kept[i] = new Setting();
            }
        }

        void keep(Setting setting) {
            kept[next].takeOver(setting);
            next = (next + 1) % MOST_KEPT;
            size = Math.min(size + 1, MOST_KEPT);
        }

        void giveBack(Setting setting) {
            next = (next + MOST_KEPT - 1) % MOST_KEPT;
            size = Math.max(size - 1, 0);
            setting.takeOver(kept[next]);
        }

        void forget() {
            size = 0;
        }
    }

    /** The grid with its setting, and what can be told of both without a search. */
    private static final class Plate {
        final Grid grid = new Grid();
        final Setting setting = new Setting();

        int arrangements() {
            return 1 << grid.needles;
        }

        int bitOf(int needle) {
            return 1 << (grid.needles - 1 - needle);
        }

        int bitIn(int bits, int needle) {
            return (bits >> (grid.needles - 1 - needle)) & 1;
        }

        int withBit(int bits, int needle, boolean on) {
            return on ? bits | bitOf(needle) : bits & ~bitOf(needle);
        }

        boolean isHeld(int needle) {
            int kind = setting.kinds[needle];
            return kind == KIND_HELD || kind == KIND_EDGE && bitIn(setting.letGo, needle) == 0;
        }

        int heldBits() {
            int bits = 0;
            for (int needle = 0; needle < grid.needles; needle++) {
                bits = withBit(bits, needle, isHeld(needle));
            }
            return bits;
        }

        int pointing() {
            int held = heldBits();
            return (setting.turns & ~held) | (setting.tolds & held);
        }

        int countOf(int joint) {
            int first = setting.kinds[grid.firsts[joint]];
            int second = setting.kinds[grid.seconds[joint]];
            return setting.wants[joint] * WORTHS[first] * WORTHS[second];
        }

        int amountOf(int joint) {
            return Math.abs(countOf(joint));
        }

        boolean isUnmet(int joint, int arrangement) {
            boolean alike = bitIn(arrangement, grid.firsts[joint]) == bitIn(arrangement, grid.seconds[joint]);
            int count = countOf(joint);
            return alike ? count < 0 : count > 0;
        }

        int strainOf(int arrangement) {
            int sum = 0;
            for (int joint = 0; joint < grid.joints; joint++) {
                if (isUnmet(joint, arrangement)) {
                    sum += amountOf(joint);
                }
            }
            return sum;
        }

        int strainNow() {
            return strainOf(pointing());
        }

        boolean touches(int joint, int needle) {
            return grid.firsts[joint] == needle || grid.seconds[joint] == needle;
        }

        int moreByTurning(int needle) {
            if (isHeld(needle)) {
                return 0;
            }
            int now = pointing();
            int more = 0;
            for (int joint = 0; joint < grid.joints; joint++) {
                if (touches(joint, needle)) {
                    more += isUnmet(joint, now) ? -amountOf(joint) : amountOf(joint);
                }
            }
            return more;
        }

        int firstToRelax() {
            for (int needle = 0; needle < grid.needles; needle++) {
                if (moreByTurning(needle) < 0) {
                    return needle;
                }
            }
            return NONE;
        }

        void turnOver(int needle) {
            setting.turns ^= bitOf(needle);
        }

        void negateWantsAround(int needle) {
            for (int joint = 0; joint < grid.joints; joint++) {
                if (touches(joint, needle)) {
                    setting.wants[joint] = -setting.wants[joint];
                }
            }
        }

        // Bit f for FIELD f; a JOINT with the same FIELD on both sides troubles it twice, so not at all.
        int troubledFields() {
            int bits = 0;
            for (int joint = 0; joint < grid.joints; joint++) {
                if (countOf(joint) < 0) {
                    bits ^= 1 << grid.lowFields[joint];
                    bits ^= 1 << grid.highFields[joint];
                }
            }
            return bits;
        }
    }

    /** The STRAIN of every ARRANGEMENT, with which of them MAY BE. */
    private static final class Landscape {
        final int[] strains = new int[MOST_ARRANGEMENTS];
        boolean stale = true;
        int size;
        int held;
        int heldPoints;
        int lowest;

        void survey(Plate plate) {
            size = plate.arrangements();
            held = plate.heldBits();
            heldPoints = plate.setting.tolds & held;
            strains[0] = plate.strainOf(0);
            for (int needle = plate.grid.needles - 1; needle >= 0; needle--) {
                addNeedle(plate, needle);
            }
            lowest = nextAfter(-1);
            stale = false;
        }

        // Doubles the table: what was found with this NEEDLE up gives what it is with it down.
        // Those ahead of it are still up; of those behind it, two at most have a JOINT with it.
        private void addNeedle(Plate plate, int needle) {
            int bit = plate.bitOf(needle);
            int more = 0;
            int nearBit = 0;
            int nearTwice = 0;
            int nextBit = 0;
            int nextTwice = 0;
            for (int joint = 0; joint < plate.grid.joints; joint++) {
                if (plate.touches(joint, needle)) {
                    more += plate.countOf(joint);
                }
                if (plate.grid.firsts[joint] == needle) {
                    nearBit = nextBit;
                    nearTwice = nextTwice;
                    nextBit = plate.bitOf(plate.grid.seconds[joint]);
                    nextTwice = 2 * plate.countOf(joint);
                }
            }
            for (int a = 0; a < bit; a++) {
                int strain = strains[a] + more;
                if ((a & nearBit) != 0) {
                    strain -= nearTwice;
                }
                if ((a & nextBit) != 0) {
                    strain -= nextTwice;
                }
                strains[bit + a] = strain;
            }
        }

        private boolean mayBe(int arrangement) {
            return (arrangement & held) == heldPoints;
        }

        int countWith(int strain) {
            int found = 0;
            for (int a = 0; a < size; a++) {
                if (strains[a] == strain && mayBe(a)) {
                    found++;
                }
            }
            return found;
        }

        int pick(int strain, int i) {
            int ahead = 0;
            for (int a = 0; a < size; a++) {
                if (strains[a] == strain && mayBe(a)) {
                    if (ahead == i) {
                        return a;
                    }
                    ahead++;
                }
            }
            return NONE;
        }

        int nextAfter(int strain) {
            int next = FAR;
            for (int a = 0; a < size; a++) {
                if (strains[a] > strain && strains[a] < next && mayBe(a)) {
                    next = strains[a];
                }
            }
            return next == FAR ? NONE : next;
        }

        int agreement(int firstBit, int secondBit) {
            boolean alike = false;
            boolean different = false;
            for (int a = 0; a < size; a++) {
                if (strains[a] == lowest && mayBe(a)) {
                    boolean same = ((a & firstBit) == 0) == ((a & secondBit) == 0);
                    alike |= same;
                    different |= !same;
                }
            }
            if (alike == different) {
                return 0;
            }
            return alike ? 1 : -1;
        }
    }

    /** How far FIELDS are APART, and what it takes to pair some of them. */
    private static final class Pairing {
        final int[] distances = new int[MOST_FIELDS * MOST_FIELDS];
        final int[] cheapest = new int[1 << MOST_FIELDS];

        int between(int field, int other) {
            return distances[field * MOST_FIELDS + other];
        }

        void measure(Plate plate) {
            Arrays.fill(distances, FAR);
            for (int field = 0; field < plate.grid.fields; field++) {
                shorten(field, field, 0);
            }
            for (int joint = 0; joint < plate.grid.joints; joint++) {
                shorten(plate.grid.lowFields[joint], plate.grid.highFields[joint], plate.amountOf(joint));
            }
            for (int over = 0; over < plate.grid.fields; over++) {
                shortenBy(over, plate.grid.fields);
            }
        }

        private void shortenBy(int over, int fields) {
            for (int field = 0; field < fields; field++) {
                for (int other = 0; other < field; other++) {
                    shorten(field, other, between(field, over) + between(over, other));
                }
            }
        }

        private void shorten(int field, int other, int way) {
            int best = Math.min(between(field, other), way);
            distances[field * MOST_FIELDS + other] = best;
            distances[other * MOST_FIELDS + field] = best;
        }

        // From small sets to large ones: a set's lowest FIELD is paired with each other one in turn.
        int cheapestOf(int troubled) {
            cheapest[0] = 0;
            for (int set = 1; set <= troubled; set++) {
                if ((set & ~troubled) == 0 && Integer.bitCount(set) % 2 == 0) {
                    cheapest[set] = cheapestOfSet(set);
                }
            }
            return cheapest[troubled];
        }

        private int cheapestOfSet(int set) {
            int lowest = lowestIn(set);
            int least = FAR;
            for (int other = lowest + 1; other < MOST_FIELDS; other++) {
                if (((set >> other) & 1) == 1) {
                    int rest = set ^ (1 << lowest) ^ (1 << other);
                    least = Math.min(least, between(lowest, other) + cheapest[rest]);
                }
            }
            return least;
        }

        private static int lowestIn(int set) {
            int field = 0;
            while (field < MOST_FIELDS - 1 && ((set >> field) & 1) == 0) {
                field++;
            }
            return field;
        }
    }

    /** ROWS of numbers, all in one array that is used again; a length below 0 is a ROW that is MISSING. */
    private static final class Strip {
        private static final int GONE = -1;

        int sort;
        int rows = GONE;
        final int[] lengths = new int[MOST_ROWS];
        final int[] numbers = new int[MOST_ROWS * MOST_NUMBERS];

        boolean isAbsent() {
            return rows == GONE;
        }

        void begin(int newSort, int rowCount) {
            sort = newSort;
            rows = rowCount;
            Arrays.fill(lengths, GONE);
        }

        boolean lacksRow(int r) {
            return r < 0 || r >= rows;
        }

        boolean isMissing(int r) {
            return lengths[r] == GONE;
        }

        void renewRow(int r, int n) {
            lengths[r] = n;
            for (int i = 0; i < n; i++) {
                numbers[placeOf(r, i)] = 0;
            }
        }

        int placeOf(int r, int i) {
            return r * MOST_NUMBERS + i;
        }

        int numberAt(int r, int i) {
            return numbers[placeOf(r, i)];
        }

        int findingAt(int r, int i) {
            if (lacksRow(r)) {
                return INDEX;
            }
            if (isMissing(r)) {
                return NULL;
            }
            return i < 0 || i >= lengths[r] ? INDEX : 0;
        }

        boolean lacksRange(int r, int i, int n) {
            return i < 0 || n < 0 || i > lengths[r] || n > lengths[r] - i;
        }

        void write(int r, int i, int v) {
            numbers[placeOf(r, i)] = asSorted(v);
        }

        private int asSorted(int v) {
            switch (sort) {
                case SORT_BYTES: return (byte) v;
                case SORT_SHORTS: return (short) v;
                default: return v;
            }
        }
    }
}
