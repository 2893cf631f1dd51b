/**
 * Versions kept by differences: rows of lines, patches between them, three-way joins,
 * leading lines back, and the least store of some versions.
 */
public final class KeptVersions {
    public static final int NONE = -1, UNKNOWN = -101, OUTSIDE = -102, STATE = -103, FULL = -104;

    private static final int MAX_VERSIONS = 10;
    private static final int MAX_LINES = 14;
    private static final int MAX_LINE = 99;
    private static final int MAX_PATCHES = 12;
    private static final int MAX_HUNKS = 10;
    private static final int MAX_PATCH_LINES = 28;
    private static final int MAX_ASKED = 9;
    private static final int MAX_STORED = 6;
    private static final int MAX_BOUND = 999;
    private static final int MAX_COPY_ROOM = 99;
    private static final int MAX_STORES_DONE = 30;
    private static final int NO_SUCH = -2;
    private static final int GOES_FROM = 10, COMES_FROM = 40;
    private static final int SOURCE_FROM = 10, REMADE_FROM = 20;

    private final Row onDesk = new Row(MAX_LINES);
    // A patch is laid here first, so that one that turns out too long leaves the desk alone.
    private final Row trial = new Row(MAX_LINES + MAX_PATCH_LINES);
    private final Version[] versions = new Version[MAX_VERSIONS];
    private int versionCount;
    private final Patch[] patches = new Patch[MAX_PATCHES];
    private int patchCount;
    // Versions never change, so the room of each difference is reckoned once, when a version is kept.
    private final int[] differenceRooms = new int[MAX_VERSIONS * MAX_VERSIONS];
    private final Difference difference = new Difference();
    private final Patch toOne = new Patch(MAX_HUNKS, MAX_LINES);
    private final Patch toOther = new Patch(MAX_HUNKS, MAX_LINES);
    // Room for all hunks of two patches, before it is known whether they are too many.
    private final Patch wide = new Patch(2 * MAX_HUNKS, 2 * MAX_PATCH_LINES);
    private final Composer composer = new Composer();
    private final LeastStore leastStore = new LeastStore();
    private int storesDone;

    public KeptVersions() {
    }

    // ---- the desk, versions

    public int line(int at, int v) {
        if (at < 0 || at > onDesk.size() || !isLine(v)) {
            return OUTSIDE;
        }
        if (onDesk.size() >= MAX_LINES) {
            return FULL;
        }
        onDesk.insert(at, v);
        return onDesk.size();
    }

    public int drop(int at) {
        if (at < 0 || at >= onDesk.size()) {
            return UNKNOWN;
        }
        int was = onDesk.at(at);
        onDesk.remove(at);
        return was;
    }

    public int take(int version) {
        if (version == NONE) {
            onDesk.clear();
            return onDesk.size();
        }
        Version taken = versionOrNull(version);
        if (taken == null) {
            return UNKNOWN;
        }
        onDesk.become(taken.row);
        return onDesk.size();
    }

    public int desk(int i) {
        return onDesk.at(i);
    }

    public int keep(int p, int q) {
        if (!isVersionOrNone(p) || !isVersionOrNone(q)) {
            return UNKNOWN;
        }
        if (q != NONE && (p == q || p == NONE)) {
            return OUTSIDE;
        }
        if (versionCount >= MAX_VERSIONS) {
            return FULL;
        }
        Version made = new Version(p, q);
        made.row.become(onDesk);
        int number = versionCount;
        versions[number] = made;
        versionCount++;
        reckonRooms(number);
        leadBack(number, made);
        return number;
    }

    public int text(int version, int i) {
        Version told = versionOrNull(version);
        return told == null ? UNKNOWN : told.row.at(i);
    }

    public int about(int version, int what) {
        Version told = versionOrNull(version);
        if (told == null) {
            return UNKNOWN;
        }
        switch (what) {
            case 0: return told.row.size();
            case 1: return told.firstParent;
            case 2: return told.secondParent;
            case 3: return told.askedFor;
            case 4: return told.row.room();
            default: return OUTSIDE;
        }
    }

    public int asked(int version, int v) {
        Version told = versionOrNull(version);
        if (told == null) {
            return UNKNOWN;
        }
        if (v < 0 || v > MAX_ASKED) {
            return OUTSIDE;
        }
        int was = told.askedFor;
        told.askedFor = v;
        return was;
    }

    // ---- differences

    public int differ(int u, int v, int what) {
        Version from = versionOrNull(u);
        Version to = versionOrNull(v);
        if (from == null || to == null) {
            return UNKNOWN;
        }
        if (what < 0 || what > 4) {
            return OUTSIDE;
        }
        writeDifference(from, to, toOne);
        return what == 0 ? from.row.size() - toOne.allGoing() : tellPatch(toOne, what - 1);
    }

    public int kept(int u, int v, int i) {
        Version from = versionOrNull(u);
        Version to = versionOrNull(v);
        if (from == null || to == null || i < 0 || i >= from.row.size()) {
            return UNKNOWN;
        }
        difference.find(from.row, to.row);
        return difference.mate(i);
    }

    // ---- patches

    public int patch(int u, int v) {
        Version from = versionOrNull(u);
        Version to = versionOrNull(v);
        if (from == null || to == null) {
            return UNKNOWN;
        }
        if (!hasRoomForPatches(1)) {
            return FULL;
        }
        Patch made = newPatch();
        writeDifference(from, to, made);
        return addPatch(made);
    }

    public int blank() {
        return hasRoomForPatches(1) ? addPatch(newPatch()) : FULL;
    }

    public int hunk(int patch, int at, int goes, int comes) {
        Patch longer = patchOrNull(patch);
        if (longer == null) {
            return UNKNOWN;
        }
        if (!isHunk(at, goes, comes) || !longer.mayBeginNext(at)) {
            return OUTSIDE;
        }
        int going = goes == NONE ? 0 : 1;
        int coming = comes == NONE ? 0 : 1;
        if (!isPatchSize(longer.hunks() + 1, longer.allGoing() + going, longer.allComing() + coming)) {
            return FULL;
        }
        longer.begin(at);
        if (going == 1) {
            longer.addGoing(goes);
        }
        if (coming == 1) {
            longer.addComing(comes);
        }
        return longer.hunks();
    }

    public int of(int patch, int what) {
        Patch told = patchOrNull(patch);
        if (told == null) {
            return UNKNOWN;
        }
        return what < 0 || what > 3 ? OUTSIDE : tellPatch(told, what);
    }

    public int hunkOf(int patch, int i, int what) {
        Patch told = patchOrNull(patch);
        if (told == null || i < 0 || i >= told.hunks()) {
            return UNKNOWN;
        }
        switch (what) {
            case 0: return told.begins(i);
            case 1: return told.going(i);
            case 2: return told.coming(i);
            default: break;
        }
        if (what >= GOES_FROM && what < GOES_FROM + MAX_PATCH_LINES) {
            return told.goingLine(i, what - GOES_FROM);
        }
        if (what >= COMES_FROM && what < COMES_FROM + MAX_PATCH_LINES) {
            return told.comingLine(i, what - COMES_FROM);
        }
        return OUTSIDE;
    }

    public int fits(int patch) {
        Patch laid = patchOrNull(patch);
        if (laid == null) {
            return UNKNOWN;
        }
        return laid.fitsOn(onDesk) ? 1 : 0;
    }

    public int lay(int patch) {
        Patch laid = patchOrNull(patch);
        if (laid == null) {
            return UNKNOWN;
        }
        if (!laid.fitsOn(onDesk)) {
            return STATE;
        }
        laid.layOn(onDesk, trial);
        return takeTrialToDesk();
    }

    public int loose(int patch) {
        Patch laid = patchOrNull(patch);
        if (laid == null) {
            return UNKNOWN;
        }
        trial.become(onDesk);
        int moved = laid.layLooselyOn(trial);
        if (moved == NONE) {
            return STATE;
        }
        return takeTrialToDesk() == FULL ? FULL : moved;
    }

    public int turn(int patch) {
        Patch straight = patchOrNull(patch);
        if (straight == null) {
            return UNKNOWN;
        }
        if (!hasRoomForPatches(1)) {
            return FULL;
        }
        Patch turned = newPatch();
        turned.becomeTurned(straight);
        return addPatch(turned);
    }

    public int together(int p, int q) {
        Patch first = patchOrNull(p);
        Patch second = patchOrNull(q);
        if (first == null || second == null) {
            return UNKNOWN;
        }
        if (!composer.agree(first, second)) {
            return OUTSIDE;
        }
        composer.putTogether(first, second, wide);
        if (!hasRoomForPatches(1) || !isPatchSize(wide.hunks(), wide.allGoing(), wide.allComing())) {
            return FULL;
        }
        Patch made = newPatch();
        made.become(wide);
        return addPatch(made);
    }

    public int swap(int p, int q) {
        Patch first = patchOrNull(p);
        Patch second = patchOrNull(q);
        if (first == null || second == null) {
            return UNKNOWN;
        }
        if (composer.anyTouch(first, second)) {
            return STATE;
        }
        if (!hasRoomForPatches(2)) {
            return FULL;
        }
        Patch secondAhead = newPatch();
        composer.moveAhead(first, second, secondAhead);
        Patch firstBehind = newPatch();
        composer.moveBehind(first, second, firstBehind);
        int number = addPatch(secondAhead);
        addPatch(firstBehind);
        return number;
    }

    // ---- joining, leading back

    public int clash(int b, int x, int y) {
        if (!writeBothDifferences(b, x, y)) {
            return UNKNOWN;
        }
        return clashes();
    }

    public int join(int b, int x, int y) {
        Version base = versionOrNull(b);
        if (base == null || !writeBothDifferences(b, x, y)) {
            return UNKNOWN;
        }
        if (clashes() > 0) {
            return STATE;
        }
        uniteBothDifferences();
        wide.layOn(base.row, trial);
        return takeTrialToDesk();
    }

    public int brought(int version, int i) {
        Version told = versionOrNull(version);
        if (told == null || i < 0 || i >= told.row.size()) {
            return UNKNOWN;
        }
        return told.bringerOf(i);
    }

    public int share(int version, int by) {
        Version told = versionOrNull(version);
        if (told == null || versionOrNull(by) == null) {
            return UNKNOWN;
        }
        int lines = 0;
        for (int i = 0; i < told.row.size(); i++) {
            if (told.bringerOf(i) == by) {
                lines++;
            }
        }
        return lines;
    }

    // ---- stores

    public int store(int n, int bound, int what) {
        boolean source = what >= SOURCE_FROM && what < SOURCE_FROM + MAX_STORED;
        boolean remade = what >= REMADE_FROM && what < REMADE_FROM + MAX_STORED;
        if (!isStore(n, bound) || !(what == 0 || what == 1 || source || remade)) {
            return OUTSIDE;
        }
        if (storesDone >= MAX_STORES_DONE) {
            return STATE;
        }
        findStore(n, bound);
        if (source) {
            return leastStore.sourceOf(what - SOURCE_FROM);
        }
        if (remade) {
            return leastStore.remadeFor(what - REMADE_FROM);
        }
        return what == 0 ? leastStore.roomOrNone() : leastStore.sumOrNone();
    }

    public int worst(int n, int bound, int what) {
        if (!isStore(n, bound) || what < 0 || what > 1) {
            return OUTSIDE;
        }
        if (storesDone >= MAX_STORES_DONE) {
            return STATE;
        }
        findStore(n, bound);
        int piece = leastStore.worstPiece(NONE);
        return what == 0 || piece == NONE ? piece : leastStore.lostWith(piece);
    }

    public int saved(int n, int bound, int r, int what) {
        if (!isStore(n, bound) || r < 0 || r > MAX_COPY_ROOM || what < 0 || what > 1) {
            return OUTSIDE;
        }
        if (storesDone >= MAX_STORES_DONE) {
            return STATE;
        }
        findStore(n, bound);
        int piece = leastStore.bestCopy(r);
        return what == 0 || piece == NONE ? piece : leastStore.worstLossBut(piece);
    }

    // ---- what is told

    public int count(int what) {
        switch (what) {
            case 0: return versionCount;
            case 1: return onDesk.size();
            case 2: return patchCount;
            case 3: return storesDone;
            default: return OUTSIDE;
        }
    }

    public long digest() {
        long h = onDesk.mixInto(271L);
        for (int version = 0; version < versionCount; version++) {
            h = mixVersion(h, version);
        }
        for (int number = 0; number < patchCount; number++) {
            Patch told = patchOrNull(number);
            h = told == null ? h : mixPatch(h, told);
        }
        for (int u = 0; u < versionCount; u++) {
            for (int v = 0; v < versionCount; v++) {
                h = u == v ? h : mix(h, differenceRoom(u, v));
            }
        }
        for (int what = 0; what <= 3; what++) {
            h = mix(h, count(what));
        }
        return h;
    }

    private long mixVersion(long h, int version) {
        long mixed = h;
        for (int what = 0; what <= 4; what++) {
            mixed = mix(mixed, about(version, what));
        }
        Version told = versionOrNull(version);
        return told == null ? mixed : told.row.mixInto(mixed);
    }

    private static long mixPatch(long h, Patch told) {
        long mixed = h;
        for (int what = 0; what <= 3; what++) {
            mixed = mix(mixed, tellPatch(told, what));
        }
        for (int i = 0; i < told.hunks(); i++) {
            mixed = mix(mixed, told.begins(i));
            mixed = mix(mixed, told.going(i));
            mixed = mix(mixed, told.coming(i));
            for (int k = 0; k < told.going(i); k++) {
                mixed = mix(mixed, told.goingLine(i, k));
            }
            for (int k = 0; k < told.coming(i); k++) {
                mixed = mix(mixed, told.comingLine(i, k));
            }
        }
        return mixed;
    }

    private static long mix(long h, int number) {
        return 31L * h + number;
    }

    // ---- what the calls above share

    private static boolean isLine(int v) {
        return v >= 0 && v <= MAX_LINE;
    }

    private static boolean isHunk(int at, int goes, int comes) {
        boolean lines = (goes == NONE || isLine(goes)) && (comes == NONE || isLine(comes));
        return at >= 0 && at <= MAX_LINES && lines && (goes != NONE || comes != NONE);
    }

    private static boolean isPatchSize(int hunks, int going, int coming) {
        return hunks <= MAX_HUNKS && going <= MAX_PATCH_LINES && coming <= MAX_PATCH_LINES;
    }

    private boolean isStore(int n, int bound) {
        return n >= 1 && n <= MAX_STORED && n <= versionCount && bound >= 1 && bound <= MAX_BOUND;
    }

    private Version versionOrNull(int number) {
        return number >= 0 && number < versionCount && number < versions.length ? versions[number] : null;
    }

    private boolean isVersionOrNone(int number) {
        return number == NONE || versionOrNull(number) != null;
    }

    private Patch patchOrNull(int number) {
        return number >= 0 && number < patchCount && number < patches.length ? patches[number] : null;
    }

    private boolean hasRoomForPatches(int more) {
        return patchCount + more <= MAX_PATCHES;
    }

    private static Patch newPatch() {
        return new Patch(MAX_HUNKS, MAX_PATCH_LINES);
    }

    private int addPatch(Patch made) {
        if (patchCount < 0 || patchCount >= patches.length) {
            return FULL;
        }
        patches[patchCount] = made;
        patchCount++;
        return patchCount - 1;
    }

    private static int tellPatch(Patch told, int what) {
        switch (what) {
            case 0: return told.hunks();
            case 1: return told.allGoing();
            case 2: return told.allComing();
            default: return told.room();
        }
    }

    private int takeTrialToDesk() {
        if (trial.size() > MAX_LINES) {
            return FULL;
        }
        onDesk.become(trial);
        return onDesk.size();
    }

    private void writeDifference(Version from, Version to, Patch into) {
        difference.find(from.row, to.row);
        difference.writeHunks(from.row, to.row, into);
    }

    private void reckonRooms(int number) {
        Version made = versionOrNull(number);
        for (int other = 0; other < versionCount; other++) {
            Version told = versionOrNull(other);
            if (told != null && made != null) {
                writeDifference(told, made, toOne);
                setDifferenceRoom(other, number, toOne.room());
                writeDifference(made, told, toOne);
                setDifferenceRoom(number, other, toOne.room());
            }
        }
    }

    private void setDifferenceRoom(int u, int v, int room) {
        int place = u * MAX_VERSIONS + v;
        if (place >= 0 && place < differenceRooms.length) {
            differenceRooms[place] = room;
        }
    }

    private int differenceRoom(int u, int v) {
        int place = u * MAX_VERSIONS + v;
        return place >= 0 && place < differenceRooms.length ? differenceRooms[place] : 0;
    }

    private void leadBack(int number, Version made) {
        made.allBroughtBy(number);
        // The second parent first: what the first one has, too, is then set over it.
        leadBackTo(versionOrNull(made.secondParent), made);
        leadBackTo(versionOrNull(made.firstParent), made);
    }

    private void leadBackTo(Version parent, Version made) {
        if (parent == null) {
            return;
        }
        difference.find(parent.row, made.row);
        for (int i = 0; i < parent.row.size(); i++) {
            made.setBringer(difference.mate(i), parent.bringerOf(i));
        }
    }

    private boolean writeBothDifferences(int b, int x, int y) {
        Version base = versionOrNull(b);
        Version one = versionOrNull(x);
        Version other = versionOrNull(y);
        if (base == null || one == null || other == null) {
            return false;
        }
        writeDifference(base, one, toOne);
        writeDifference(base, other, toOther);
        return true;
    }

    private int clashes() {
        int found = 0;
        for (int h = 0; h < toOne.hunks(); h++) {
            boolean touches = toOther.touches(toOne.begins(h), toOne.ends(h));
            if (touches && !toOther.hasAlike(toOne, h)) {
                found++;
            }
        }
        return found;
    }

    // Where none clash, two hunks that begin at the same place are just alike.
    private void uniteBothDifferences() {
        int one = 0;
        int other = 0;
        wide.clear();
        for (int step = 0; step < 2 * MAX_HUNKS; step++) {
            boolean oneLeft = one < toOne.hunks();
            boolean otherLeft = other < toOther.hunks();
            if (oneLeft && (!otherLeft || toOne.begins(one) <= toOther.begins(other))) {
                boolean alike = otherLeft && toOne.begins(one) == toOther.begins(other);
                wide.addHunk(toOne, one, toOne.begins(one));
                one++;
                other += alike ? 1 : 0;
            } else if (otherLeft) {
                wide.addHunk(toOther, other, toOther.begins(other));
                other++;
            }
        }
    }

    private void findStore(int n, int bound) {
        storesDone++;
        leastStore.clear(n, bound);
        for (int i = 0; i < n; i++) {
            Version told = versionOrNull(i);
            if (told != null) {
                leastStore.setWhole(i, told.row.room(), told.askedFor);
            }
            for (int source = 0; source < n; source++) {
                leastStore.setPatch(i, source, differenceRoom(source, i));
            }
        }
        leastStore.find();
    }

    /** A row of lines. */
    private static final class Row {
        private final int[] lines;
        private int size;

        Row(int most) {
            lines = new int[Math.max(most, 0)];
        }

        int size() {
            return size;
        }

        int room() {
            return size + 1;
        }

        int at(int i) {
            return i >= 0 && i < size && i < lines.length ? lines[i] : NONE;
        }

        void clear() {
            size = 0;
        }

        void add(int v) {
            insert(size, v);
        }

        void insert(int at, int v) {
            if (at < 0 || at > size || size >= lines.length) {
                return;
            }
            for (int i = size; i > at; i--) {
                lines[i] = lines[i - 1];
            }
            lines[at] = v;
            size++;
        }

        void remove(int at) {
            if (at < 0 || at >= size || size > lines.length) {
                return;
            }
            for (int i = at; i < size - 1; i++) {
                lines[i] = lines[i + 1];
            }
            size--;
        }

        void become(Row other) {
            clear();
            addPart(other, 0, other.size());
        }

        void addPart(Row other, int from, int to) {
            for (int i = from; i < to; i++) {
                add(other.at(i));
            }
        }

        long mixInto(long h) {
            long mixed = h;
            for (int i = 0; i < size; i++) {
                mixed = mix(mixed, at(i));
            }
            return mixed;
        }
    }

    /** A kept row, and which version brought each of its lines. */
    private static final class Version {
        private final Row row = new Row(MAX_LINES);
        private final int firstParent;
        private final int secondParent;
        private final int[] bringers = new int[MAX_LINES];
        private int askedFor = 1;

        Version(int firstParent, int secondParent) {
            this.firstParent = firstParent;
            this.secondParent = secondParent;
        }

        void allBroughtBy(int number) {
            for (int i = 0; i < row.size(); i++) {
                setBringer(i, number);
            }
        }

        void setBringer(int i, int number) {
            if (i >= 0 && i < bringers.length) {
                bringers[i] = number;
            }
        }

        int bringerOf(int i) {
            return i >= 0 && i < bringers.length ? bringers[i] : NONE;
        }
    }

    /** The difference from one row to another, the first of all that keep most lines. */
    private static final class Difference {
        private static final int WIDTH = MAX_LINES + 1;

        // At i * WIDTH + j: how many lines may be kept of those from i on and those from j on.
        private final int[] most = new int[WIDTH * WIDTH];
        private final int[] mates = new int[MAX_LINES];

        void find(Row x, Row y) {
            for (int i = x.size(); i >= 0; i--) {
                for (int j = y.size(); j >= 0; j--) {
                    setMost(i, j, reckonMost(x, i, y, j));
                }
            }
            trace(x, y);
        }

        /** The line of y that line i of x is kept as, or NONE. */
        int mate(int i) {
            return i >= 0 && i < mates.length ? mates[i] : NONE;
        }

        void writeHunks(Row x, Row y, Patch into) {
            int goingFrom = 0;
            int comingFrom = 0;
            into.clear();
            for (int i = 0; i <= x.size(); i++) {
                int next = i < x.size() ? mate(i) : y.size();
                if (next == NONE) {
                    continue;
                }
                if (goingFrom < i || comingFrom < next) {
                    into.begin(goingFrom);
                    into.addGoingPart(x, goingFrom, i);
                    into.addComingPart(y, comingFrom, next);
                }
                goingFrom = i + 1;
                comingFrom = next + 1;
            }
        }

        private int reckonMost(Row x, int i, Row y, int j) {
            if (i >= x.size() || j >= y.size()) {
                return 0;
            }
            // Keeping two like lines at the front is never worse than any other way.
            if (x.at(i) == y.at(j)) {
                return mostFrom(i + 1, j + 1) + 1;
            }
            return Math.max(mostFrom(i + 1, j), mostFrom(i, j + 1));
        }

        private void trace(Row x, Row y) {
            int i = 0;
            int j = 0;
            for (int step = 0; step < 2 * MAX_LINES && i < x.size(); step++) {
                boolean yLeft = j < y.size();
                if (yLeft && x.at(i) == y.at(j)) {
                    setMate(i, j);
                    i++;
                    j++;
                } else if (!yLeft || mostFrom(i + 1, j) == mostFrom(i, j)) {
                    setMate(i, NONE);
                    i++;
                } else {
                    j++;
                }
            }
        }

        private void setMate(int i, int mate) {
            if (i >= 0 && i < mates.length) {
                mates[i] = mate;
            }
        }

        private void setMost(int i, int j, int lines) {
            int place = i * WIDTH + j;
            if (place >= 0 && place < most.length) {
                most[place] = lines;
            }
        }

        private int mostFrom(int i, int j) {
            int place = i * WIDTH + j;
            return place >= 0 && place < most.length ? most[place] : 0;
        }
    }

    /**
     * Hunks in order. The row ahead is the one that a patch is for, the row behind the one that comes of it.
     */
    private static final class Patch {
        private final int[] begins;
        // Lines of hunk h stand from goingFrom[h] up to goingFrom[h + 1], and likewise those that come.
        private final int[] goingFrom;
        private final int[] comingFrom;
        private final int[] goingLines;
        private final int[] comingLines;
        private int hunks;

        Patch(int mostHunks, int mostLines) {
            int hunkRoom = Math.max(mostHunks, 0);
            int lineRoom = Math.max(mostLines, 0);
            begins = new int[hunkRoom];
            goingFrom = new int[hunkRoom + 1];
            comingFrom = new int[hunkRoom + 1];
            goingLines = new int[lineRoom];
            comingLines = new int[lineRoom];
        }

        int hunks() {
            return hunks;
        }

        int allGoing() {
            return start(goingFrom, hunks);
        }

        int allComing() {
            return start(comingFrom, hunks);
        }

        int room() {
            return 2 * hunks + allComing() + 1;
        }

        int begins(int h) {
            return h >= 0 && h < hunks && h < begins.length ? begins[h] : 0;
        }

        int ends(int h) {
            return begins(h) + going(h);
        }

        int going(int h) {
            return h >= 0 && h < hunks && h + 1 < goingFrom.length ? goingFrom[h + 1] - goingFrom[h] : 0;
        }

        int coming(int h) {
            return h >= 0 && h < hunks && h + 1 < comingFrom.length ? comingFrom[h + 1] - comingFrom[h] : 0;
        }

        /** The k-th line of hunk h that goes, or NONE. */
        int goingLine(int h, int k) {
            int place = start(goingFrom, h) + k;
            return k >= 0 && k < going(h) && place < goingLines.length ? goingLines[place] : NONE;
        }

        /** The k-th line of hunk h that comes, or NONE. */
        int comingLine(int h, int k) {
            int place = start(comingFrom, h) + k;
            return k >= 0 && k < coming(h) && place < comingLines.length ? comingLines[place] : NONE;
        }

        /** How much longer the row behind is than the row ahead by the hunks before h. */
        int shiftBefore(int h) {
            boolean known = h >= 0 && h < comingFrom.length && h < goingFrom.length;
            return known ? comingFrom[h] - goingFrom[h] : 0;
        }

        int beginsBehind(int h) {
            return begins(h) + shiftBefore(h);
        }

        int endsBehind(int h) {
            return beginsBehind(h) + coming(h);
        }

        void clear() {
            hunks = 0;
        }

        boolean mayBeginNext(int at) {
            return hunks == 0 || at > ends(hunks - 1);
        }

        void begin(int at) {
            if (hunks < 0 || hunks >= begins.length) {
                return;
            }
            begins[hunks] = at;
            goingFrom[hunks + 1] = goingFrom[hunks];
            comingFrom[hunks + 1] = comingFrom[hunks];
            hunks++;
        }

        void addGoing(int v) {
            addLine(goingFrom, goingLines, v);
        }

        void addComing(int v) {
            addLine(comingFrom, comingLines, v);
        }

        void addGoingPart(Row row, int from, int to) {
            for (int i = from; i < to; i++) {
                addGoing(row.at(i));
            }
        }

        void addComingPart(Row row, int from, int to) {
            for (int i = from; i < to; i++) {
                addComing(row.at(i));
            }
        }

        void leaveOutLast() {
            hunks = Math.max(hunks - 1, 0);
        }

        void addHunk(Patch from, int h, int at) {
            begin(at);
            addGoingOf(from, h);
            addComingOf(from, h);
        }

        void addGoingOf(Patch from, int h) {
            for (int k = 0; k < from.going(h); k++) {
                addGoing(from.goingLine(h, k));
            }
        }

        void addComingOf(Patch from, int h) {
            for (int k = 0; k < from.coming(h); k++) {
                addComing(from.comingLine(h, k));
            }
        }

        void become(Patch other) {
            clear();
            for (int h = 0; h < other.hunks(); h++) {
                addHunk(other, h, other.begins(h));
            }
        }

        void becomeTurned(Patch straight) {
            clear();
            for (int h = 0; h < straight.hunks(); h++) {
                begin(straight.beginsBehind(h));
                for (int k = 0; k < straight.coming(h); k++) {
                    addGoing(straight.comingLine(h, k));
                }
                for (int k = 0; k < straight.going(h); k++) {
                    addComing(straight.goingLine(h, k));
                }
            }
        }

        /** The line that goes at a place of the row ahead, or NONE. */
        int goingAt(int place) {
            for (int h = 0; h < hunks; h++) {
                int k = place - begins(h);
                if (k >= 0 && k < going(h)) {
                    return goingLine(h, k);
                }
            }
            return NONE;
        }

        /** The line that came to a place of the row behind, or NONE. */
        int comingAt(int place) {
            for (int h = 0; h < hunks; h++) {
                int k = place - beginsBehind(h);
                if (k >= 0 && k < coming(h)) {
                    return comingLine(h, k);
                }
            }
            return NONE;
        }

        /** Whether some hunk, in the row ahead, overlaps this stretch or begins or ends at its edge. */
        boolean touches(int from, int to) {
            for (int h = 0; h < hunks; h++) {
                if (begins(h) <= to && from <= ends(h)) {
                    return true;
                }
            }
            return false;
        }

        boolean hasAlike(Patch other, int h) {
            for (int own = 0; own < hunks; own++) {
                if (isAlike(own, other, h)) {
                    return true;
                }
            }
            return false;
        }

        boolean lastIsIdle() {
            int last = hunks - 1;
            boolean same = going(last) == coming(last);
            for (int k = 0; k < going(last); k++) {
                same = same && goingLine(last, k) == comingLine(last, k);
            }
            return same;
        }

        boolean fitsOn(Row row) {
            for (int h = 0; h < hunks; h++) {
                if (!standsAt(row, h, begins(h))) {
                    return false;
                }
            }
            return true;
        }

        /** Only for a row that it fits. */
        void layOn(Row row, Row result) {
            int next = 0;
            result.clear();
            for (int h = 0; h < hunks; h++) {
                result.addPart(row, next, begins(h));
                for (int k = 0; k < coming(h); k++) {
                    result.add(comingLine(h, k));
                }
                next = ends(h);
            }
            result.addPart(row, next, row.size());
        }

        /** The sum of sizes of all moves, or NONE where some hunk finds no place (the row is then half done). */
        int layLooselyOn(Row row) {
            int shift = 0;
            int first = 0;
            int moves = 0;
            for (int h = 0; h < hunks; h++) {
                int wanted = begins(h) + shift;
                int place = nearestPlace(row, h, wanted, first);
                if (place == NONE) {
                    return NONE;
                }
                replace(row, h, place);
                moves += Math.abs(place - wanted);
                shift += place - wanted + coming(h) - going(h);
                first = place + coming(h) + 1;
            }
            return moves;
        }

        private int nearestPlace(Row row, int h, int wanted, int first) {
            int nearest = NONE;
            for (int place = first; place <= row.size(); place++) {
                boolean nearer = nearest == NONE || Math.abs(place - wanted) < Math.abs(nearest - wanted);
                if (nearer && standsAt(row, h, place)) {
                    nearest = place;
                }
            }
            return nearest;
        }

        private void replace(Row row, int h, int place) {
            for (int k = 0; k < going(h); k++) {
                row.remove(place);
            }
            for (int k = 0; k < coming(h); k++) {
                row.insert(place + k, comingLine(h, k));
            }
        }

        private boolean standsAt(Row row, int h, int place) {
            if (place + going(h) > row.size()) {
                return false;
            }
            for (int k = 0; k < going(h); k++) {
                if (row.at(place + k) != goingLine(h, k)) {
                    return false;
                }
            }
            return true;
        }

        private boolean isAlike(int own, Patch other, int h) {
            boolean sameSize = going(own) == other.going(h) && coming(own) == other.coming(h);
            boolean same = sameSize && begins(own) == other.begins(h);
            for (int k = 0; same && k < going(own); k++) {
                same = goingLine(own, k) == other.goingLine(h, k);
            }
            for (int k = 0; same && k < coming(own); k++) {
                same = comingLine(own, k) == other.comingLine(h, k);
            }
            return same;
        }

        private void addLine(int[] from, int[] lines, int v) {
            if (hunks <= 0 || hunks >= from.length) {
                return;
            }
            int place = from[hunks];
            if (place >= 0 && place < lines.length) {
                lines[place] = v;
                from[hunks] = place + 1;
            }
        }

        private static int start(int[] from, int h) {
            return h >= 0 && h < from.length ? from[h] : 0;
        }
    }

    /**
     * Two patches of which the second is for the row that comes of the first: the row between.
     */
    private static final class Composer {
        // The hunks of both that become one, and the stretch of the row between that they stand over.
        private int firstFrom, firstTo;
        private int secondFrom, secondTo;
        private int low, high;

        boolean agree(Patch first, Patch second) {
            for (int h = 0; h < first.hunks(); h++) {
                for (int k = 0; k < first.coming(h); k++) {
                    int taken = second.goingAt(first.beginsBehind(h) + k);
                    if (taken != NONE && taken != first.comingLine(h, k)) {
                        return false;
                    }
                }
            }
            return true;
        }

        boolean anyTouch(Patch first, Patch second) {
            for (int h = 0; h < first.hunks(); h++) {
                if (second.touches(first.beginsBehind(h), first.endsBehind(h))) {
                    return true;
                }
            }
            return false;
        }

        void putTogether(Patch first, Patch second, Patch into) {
            into.clear();
            firstTo = 0;
            secondTo = 0;
            for (int group = 0; group < first.hunks() + second.hunks(); group++) {
                if (firstTo < first.hunks() || secondTo < second.hunks()) {
                    gather(first, second);
                    into.begin(low - first.shiftBefore(firstFrom));
                    writeGoing(first, second, into);
                    writeComing(first, second, into);
                    if (into.lastIsIdle()) {
                        into.leaveOutLast();
                    }
                }
            }
        }

        /** The second patch, as for the row ahead of the first; only where none touch. */
        void moveAhead(Patch first, Patch second, Patch into) {
            for (int h = 0; h < second.hunks(); h++) {
                int before = 0;
                for (int k = 0; k < first.hunks(); k++) {
                    before += first.beginsBehind(k) < second.begins(h) ? 1 : 0;
                }
                into.addHunk(second, h, second.begins(h) - first.shiftBefore(before));
            }
        }

        /** The first patch, as for what comes of the second one moved ahead; only where none touch. */
        void moveBehind(Patch first, Patch second, Patch into) {
            for (int h = 0; h < first.hunks(); h++) {
                int before = 0;
                for (int k = 0; k < second.hunks(); k++) {
                    before += second.begins(k) < first.beginsBehind(h) ? 1 : 0;
                }
                into.addHunk(first, h, first.begins(h) + second.shiftBefore(before));
            }
        }

        private void gather(Patch first, Patch second) {
            firstFrom = firstTo;
            secondFrom = secondTo;
            boolean firstLeft = firstFrom < first.hunks();
            boolean secondLeft = secondFrom < second.hunks();
            int firstBegins = first.beginsBehind(firstFrom);
            int secondBegins = second.begins(secondFrom);
            low = firstLeft && (!secondLeft || firstBegins <= secondBegins) ? firstBegins : secondBegins;
            high = low;
            for (int step = 0; step < first.hunks() + second.hunks(); step++) {
                if (firstTo < first.hunks() && first.beginsBehind(firstTo) <= high) {
                    high = Math.max(high, first.endsBehind(firstTo));
                    firstTo++;
                } else if (secondTo < second.hunks() && second.begins(secondTo) <= high) {
                    high = Math.max(high, second.ends(secondTo));
                    secondTo++;
                }
            }
        }

        // Between the first patch's hunks the row ahead is as the row between, and there the second one takes all lines.
        private void writeGoing(Patch first, Patch second, Patch into) {
            int next = low;
            for (int h = firstFrom; h < firstTo; h++) {
                addTaken(second, next, first.beginsBehind(h), into);
                into.addGoingOf(first, h);
                next = first.endsBehind(h);
            }
            addTaken(second, next, high, into);
        }

        // Between the second patch's hunks the row behind is as the row between, and there the first one brought all lines.
        private void writeComing(Patch first, Patch second, Patch into) {
            int next = low;
            for (int h = secondFrom; h < secondTo; h++) {
                addBrought(first, next, second.begins(h), into);
                into.addComingOf(second, h);
                next = second.ends(h);
            }
            addBrought(first, next, high, into);
        }

        private static void addTaken(Patch second, int from, int to, Patch into) {
            for (int place = from; place < to; place++) {
                into.addGoing(second.goingAt(place));
            }
        }

        private static void addBrought(Patch first, int from, int to, Patch into) {
            for (int place = from; place < to; place++) {
                into.addComing(first.comingAt(place));
            }
        }
    }

    /**
     * The least store, found by trying sources version by version, in the order that settles like ones;
     * what can't become less than the best one found is not tried further.
     */
    private static final class LeastStore {
        private int versions;
        private int bound;
        private final int[] wholeRooms = new int[MAX_STORED];
        private final int[] patchRooms = new int[MAX_STORED * MAX_STORED];
        private final int[] asking = new int[MAX_STORED];
        // The least that versions from i on add to room and to the sum, in any store. None is remade for less
        // than its whole room: a patch brings at least as many lines as its version has more than the source.
        private final int[] roomFrom = new int[MAX_STORED + 1];
        private final int[] sumFrom = new int[MAX_STORED + 1];
        private final int[] sources = new int[MAX_STORED];
        private final int[] bestSources = new int[MAX_STORED];
        private boolean found;
        private int bestRoom;
        private int bestSum;

        void clear(int n, int most) {
            versions = Math.max(0, Math.min(n, MAX_STORED));
            bound = most;
            found = false;
            bestRoom = 0;
            bestSum = 0;
        }

        void setWhole(int i, int room, int askedFor) {
            if (i >= 0 && i < MAX_STORED) {
                wholeRooms[i] = room;
                asking[i] = askedFor;
            }
        }

        void setPatch(int i, int source, int room) {
            if (i >= 0 && i < MAX_STORED && source >= 0 && source < MAX_STORED) {
                patchRooms[source * MAX_STORED + i] = room;
            }
        }

        void find() {
            for (int i = 0; i < versions; i++) {
                if (wholeRooms[i] > bound) {
                    return;
                }
            }
            reckonLeastFrom();
            tryFrom(0, 0, 0);
        }

        int roomOrNone() {
            return found ? bestRoom : NONE;
        }

        int sumOrNone() {
            return found ? bestSum : NONE;
        }

        int sourceOf(int i) {
            return found && i >= 0 && i < versions ? bestSources[i] : NO_SUCH;
        }

        int remadeFor(int i) {
            return found && i >= 0 && i < versions ? remadeBy(bestSources, i) : NO_SUCH;
        }

        /** What is asked together of all versions that are remade by a version's piece. */
        int lostWith(int piece) {
            int lost = 0;
            for (int i = 0; i < versions; i++) {
                lost += isRemadeBy(i, piece) ? asking[i] : 0;
            }
            return lost;
        }

        /** The piece by which most is lost, of all but one that has a second copy (NONE: none has). */
        int worstPiece(int copied) {
            int worst = NONE;
            for (int piece = 0; found && piece < versions; piece++) {
                if (piece != copied && (worst == NONE || lostWith(piece) > lostWith(worst))) {
                    worst = piece;
                }
            }
            return worst;
        }

        int worstLossBut(int copied) {
            int piece = worstPiece(copied);
            return piece == NONE ? 0 : lostWith(piece);
        }

        int bestCopy(int mostRoom) {
            int best = NONE;
            for (int piece = 0; found && piece < versions; piece++) {
                if (bestPieceRoom(piece) <= mostRoom && (best == NONE || isBetterCopy(piece, best))) {
                    best = piece;
                }
            }
            return best;
        }

        private boolean isBetterCopy(int piece, int best) {
            int loss = worstLossBut(piece);
            int bestLoss = worstLossBut(best);
            return loss < bestLoss || (loss == bestLoss && bestPieceRoom(piece) < bestPieceRoom(best));
        }

        private int bestPieceRoom(int piece) {
            return piece >= 0 && piece < MAX_STORED ? pieceRoom(piece, bestSources[piece]) : 0;
        }

        private boolean isRemadeBy(int i, int piece) {
            int on = i;
            for (int step = 0; step < versions && on >= 0 && on < MAX_STORED; step++) {
                if (on == piece) {
                    return true;
                }
                on = bestSources[on];
            }
            return false;
        }

        private void reckonLeastFrom() {
            roomFrom[versions] = 0;
            sumFrom[versions] = 0;
            for (int i = versions - 1; i >= 0; i--) {
                int room = wholeRooms[i];
                for (int source = 0; source < versions; source++) {
                    room = source == i ? room : Math.min(room, pieceRoom(i, source));
                }
                roomFrom[i] = roomFrom[i + 1] + room;
                sumFrom[i] = sumFrom[i + 1] + asking[i] * wholeRooms[i];
            }
        }

        // The sum is told from below: what a source is remade for is not known before all are chosen.
        private void tryFrom(int i, int room, int sum) {
            if (i < 0 || i >= versions) {
                takeIfLess(room);
                return;
            }
            for (int source = NONE; source < versions; source++) {
                int remade = remadeAtLeast(i, source);
                int roomThen = room + pieceRoom(i, source);
                int sumThen = sum + asking[i] * remade;
                boolean may = source != i && remade <= bound && !leadsTo(source, i);
                if (may && isLess(roomThen + roomFrom[i + 1], sumThen + sumFrom[i + 1])) {
                    sources[i] = source;
                    tryFrom(i + 1, roomThen, sumThen);
                }
            }
        }

        private void takeIfLess(int room) {
            int sum = 0;
            for (int i = 0; i < versions; i++) {
                int remade = remadeBy(sources, i);
                if (remade > bound) {
                    return;
                }
                sum += asking[i] * remade;
            }
            if (!isLess(room, sum)) {
                return;
            }
            found = true;
            bestRoom = room;
            bestSum = sum;
            for (int i = 0; i < versions; i++) {
                bestSources[i] = sources[i];
            }
        }

        private boolean isLess(int room, int sum) {
            return !found || room < bestRoom || (room == bestRoom && sum < bestSum);
        }

        /** Whether a version comes from version i by way of sources chosen so far, those below i. */
        private boolean leadsTo(int version, int i) {
            int on = version;
            for (int step = 0; step < versions && on >= 0 && on < i && on < MAX_STORED; step++) {
                on = sources[on];
            }
            return on == i;
        }

        private int remadeBy(int[] chosen, int i) {
            int remade = 0;
            int on = i;
            for (int step = 0; step < versions && on >= 0 && on < chosen.length; step++) {
                remade += pieceRoom(on, chosen[on]);
                on = chosen[on];
            }
            return remade;
        }

        private int remadeAtLeast(int i, int source) {
            boolean patched = source >= 0 && source < MAX_STORED;
            return pieceRoom(i, source) + (patched ? wholeRooms[source] : 0);
        }

        private int pieceRoom(int i, int source) {
            if (i < 0 || i >= MAX_STORED) {
                return 0;
            }
            return source >= 0 && source < MAX_STORED ? patchRooms[source * MAX_STORED + i] : wholeRooms[i];
        }
    }
}
