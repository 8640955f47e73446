import java.util.NoSuchElementException;

/** Streets that are married, as told by a CITY, a LAW, WORK and POST. */
public final class MarriedStreets {
    public static final int NONE = -1;

    private static final int TAPE_BYTES = 600;
    private static final int LAW_BYTES = 150;
    private static final int WORK_BYTES = 150;
    private static final int POST_BYTES = 100;
    private static final int TOO_MANY_WORKS = -20;
    private static final int LANE_YEARS = 100;
    private static final int MOST_OFFERED = 20;
    private static final int MOST_DOWRY = 40;

    private final byte[] tape;
    private int taped;
    private final Text text;
    private City town;
    private City spareTown;
    private Law statute;
    private Law spareStatute;
    private Mail mail;
    private Mail spareMail;
    private final Plan plan;
    private final Life now;
    private final Life dream;
    private final Ledger ledger;
    private final Matcher matcher;
    private final Roads roads;
    private final Dowries dowries;
    private int refusedSteps;
    private int badPlaces;
    private int badElements;
    private int badArguments;

    public MarriedStreets() {
        tape = new byte[TAPE_BYTES];
        text = new Text(tape);
        town = new City();
        spareTown = new City();
        statute = new Law();
        spareStatute = new Law();
        mail = new Mail();
        spareMail = new Mail();
        plan = new Plan();
        now = new Life();
        dream = new Life();
        ledger = new Ledger();
        matcher = new Matcher();
        roads = new Roads();
        dowries = new Dowries();
        now.begin(town);
    }

    public int feed(int a, int b, int c, int d, int e) {
        if (taped + 20 > TAPE_BYTES) {
            return NONE;
        }
        tapeFour(a);
        tapeFour(b);
        tapeFour(c);
        tapeFour(d);
        tapeFour(e);
        return taped;
    }

    public int city(int n) throws IllegalArgumentException {
        openText(n, TAPE_BYTES);
        if (!spareTown.readAll(text)) {
            return text.answer();
        }
        City old = town;
        town = spareTown;
        spareTown = old;
        statute.clear();
        mail.clear();
        ledger.clear();
        now.begin(town);
        refusedSteps = 0;
        return town.streets;
    }

    public int law(int n) throws IllegalArgumentException {
        openText(n, LAW_BYTES);
        if (!spareStatute.readAll(text)) {
            return text.answer();
        }
        Law old = statute;
        statute = spareStatute;
        spareStatute = old;
        return 1;
    }

    public int work(int n) throws IllegalArgumentException {
        openText(n, WORK_BYTES);
        if (ledger.isFull()) {
            return TOO_MANY_WORKS;
        }
        if (!plan.readAll(text, town.streets)) {
            return text.answer();
        }
        ledger.keepWork(now);
        plan.perform(0, plan.size, 0, now, town, statute);
        refusedSteps = plan.refused;
        return plan.done;
    }

    public int post(int n) throws IllegalArgumentException {
        openText(n, POST_BYTES);
        if (!spareMail.readAll(text)) {
            return text.answer();
        }
        Mail old = mail;
        mail = spareMail;
        spareMail = old;
        return mail.lines;
    }

    public int fault() {
        return text.faultAt;
    }

    public int undo() {
        if (!ledger.takeWorkBack(now)) {
            return -1;
        }
        refusedSteps = 0;
        return ledger.works;
    }

    public int told(int what) throws IllegalArgumentException {
        need(what >= 0 && what <= 9);
        switch (what) {
            case 0: return town.corners;
            case 1: return town.streets;
            case 2: return town.goods;
            case 3: return now.yearNow();
            case 4: return now.couples();
            case 5: return now.allTrees();
            case 6: return now.allHoles();
            case 7: return mail.lines;
            case 8: return refusedSteps;
            default: return now.partedSoFar();
        }
    }

    public int street(int street, int what) throws NoSuchElementException, IllegalArgumentException {
        needStreet(street);
        need(what >= 0 && what <= 8);
        switch (what) {
            case 0: return town.startOf(street);
            case 1: return town.endOf(street);
            case 2: return town.housesOf(street);
            case 3: return now.treesOf(street);
            case 4: return town.lengthOf(street);
            case 5: return now.mateOf(street);
            case 6: return now.roleOf(street) == Life.SHE ? 1 : 0;
            case 7: return now.yearsOf(street);
            default: return now.holesOf(street);
        }
    }

    public int likes(int street, int other) throws NoSuchElementException, IllegalArgumentException {
        needStreet(street);
        needStreet(other);
        need(street != other);
        return town.liking(street, other);
    }

    public int banns(int street, int other) throws NoSuchElementException {
        needStreet(street);
        needStreet(other);
        return statute.hindrance(town, now, street, other);
    }

    public int number(int street, int house) throws IndexOutOfBoundsException, NoSuchElementException {
        needStreet(street);
        needHouse(house >= 1 && house <= town.housesOf(street));
        return Life.numberOf(now.roleOf(street), house);
    }

    public int letter(int street, int number) throws NoSuchElementException, IllegalArgumentException {
        needStreet(street);
        need(number >= 1 && number <= 99);
        int own = houseWith(street, number);
        if (own > 0) {
            return 100 * street + own;
        }
        int mate = now.mateOf(street);
        int theirs = mate == NONE ? 0 : houseWith(mate, number);
        return theirs > 0 ? 100 * mate + theirs : NONE;
    }

    public int last(int street) throws NoSuchElementException {
        needStreet(street);
        return greatestNumber(street);
    }

    public int missing(int street) throws NoSuchElementException {
        needStreet(street);
        int mate = now.mateOf(street);
        int houses = town.housesOf(street) + (mate == NONE ? 0 : town.housesOf(mate));
        return greatestNumber(street) - houses;
    }

    public int stable() {
        matcher.findAll(town, now, statute);
        return matcher.stables;
    }

    public int stableFor(int street) throws NoSuchElementException {
        needStreet(street);
        matcher.findAll(town, now, statute);
        return matcher.firstStableMate(street);
    }

    public int best() {
        matcher.findAll(town, now, statute);
        return matcher.warmest;
    }

    public int bestFor(int street) throws NoSuchElementException {
        needStreet(street);
        matcher.findAll(town, now, statute);
        return matcher.warmestMate(street);
    }

    public int tempted() {
        for (int she = 0; she < town.streets; she++) {
            for (int he = she + 1; he < town.streets; he++) {
                if (wouldLeave(she, he)) {
                    return 10 * she + he;
                }
            }
        }
        return NONE;
    }

    public int way(int corner, int other) throws NoSuchElementException {
        needCorner(corner);
        needCorner(other);
        roads.spread(town, corner, NONE);
        return roads.stepsTo(other);
    }

    public int round(int streets) throws IllegalArgumentException {
        need(streets >= 0 && streets < 1 << town.streets);
        return roads.shortestRound(town, streets);
    }

    public int reach(int corner) throws NoSuchElementException {
        needCorner(corner);
        roads.spread(town, corner, NONE);
        int bits = 0;
        for (int other = 0; other < town.corners; other++) {
            if (roads.stepsTo(other) != NONE) {
                bits |= 1 << other;
            }
        }
        return bits;
    }

    public int bridges(int what) throws IllegalArgumentException {
        need(what == 0 || what == 1);
        int many = 0;
        int first = NONE;
        for (int street = town.streets - 1; street >= 0; street--) {
            roads.spread(town, town.startOf(street), street);
            if (roads.stepsTo(town.endOf(street)) == NONE) {
                many++;
                first = street;
            }
        }
        return what == 0 ? many : first;
    }

    public int fair(int what) throws IllegalArgumentException {
        need(what == 0 || what == 1);
        int all = (1 << town.goods) - 1;
        int many = 0;
        int first = NONE;
        for (int share = all; share >= 0; share--) {
            int rest = all & ~share;
            if (town.worthToOne(share) >= town.worthToOne(rest)
                    && town.worthToOther(rest) >= town.worthToOther(share)) {
                many++;
                first = share;
            }
        }
        return what == 0 ? many : first;
    }

    public int even() {
        int all = (1 << town.goods) - 1;
        int most = 0;
        for (int share = 0; share <= all; share++) {
            int lesser = Math.min(town.worthToOne(share), town.worthToOther(all & ~share));
            most = Math.max(most, lesser);
        }
        return most;
    }

    public int mates(int street, int what) throws NoSuchElementException, IllegalArgumentException {
        needStreet(street);
        need(what >= 0 && what <= 3);
        int hers = matesOf(street, Life.SHE);
        int his = matesOf(street, Life.HE);
        int alone = mayBeAlone(street);
        switch (what) {
            case 0: return Integer.bitCount(hers) + Integer.bitCount(his) + alone;
            case 1: return hers;
            case 2: return his;
            default: return alone;
        }
    }

    public int look(int street, int what) throws NoSuchElementException, IllegalArgumentException {
        needStreet(street);
        need(what == 0 || what == 1);
        int hers = Integer.bitCount(matesOf(street, Life.SHE));
        int his = Integer.bitCount(matesOf(street, Life.HE));
        int alone = mayBeAlone(street);
        int best = NONE;
        int fewest = hers + his + alone + 1;
        for (int number = Mail.MOST_NUMBER; number >= 1; number--) {
            if (!mail.has(number)) {
                int left = Mail.leftAtWorst(town.housesOf(street), number, hers, his, alone);
                if (left <= fewest) {
                    fewest = left;
                    best = number;
                }
            }
        }
        return what == 0 ? best : fewest;
    }

    public int right(int street) throws NoSuchElementException {
        needStreet(street);
        return mail.rightLines(now.roleOf(street), town.housesOf(street));
    }

    public int lane() {
        for (int years = 0; years <= LANE_YEARS; years++) {
            if (town.laneX(now.yearNow() + years) <= town.river) {
                return years;
            }
        }
        return NONE;
    }

    public int stop() {
        int until = lane();
        if (until == NONE) {
            until = LANE_YEARS;
        }
        int bits = 0;
        for (int years = 0; years <= until; years++) {
            int year = now.yearNow() + years;
            bits |= town.cornersAt(town.laneX(year), town.laneY(year));
        }
        return bits;
    }

    public int suitors(int n, int v, int w, int what) throws IllegalArgumentException {
        need(n >= 0 && n <= MOST_OFFERED && isDowry(v) && isDowry(w));
        need(what >= 0 && what <= 2);
        dowries.findRests(n, v, w);
        switch (what) {
            case 0: return dowries.rests;
            case 1: return dowries.first;
            default: return dowries.together;
        }
    }

    public int gets(int own, int other, int v) throws IllegalArgumentException {
        need(isDowry(own) && isDowry(other) && isDowry(v));
        return Dowries.gain(own, other, v);
    }

    public int ahead(int years, int what) throws IllegalArgumentException {
        need(years >= 0 && years <= 60);
        need(what >= 0 && what <= 2);
        dream.copyFrom(now);
        for (int year = 0; year < years; year++) {
            dream.turnYear();
        }
        switch (what) {
            case 0: return dream.couples();
            case 1: return dream.allHoles();
            default: return dream.longestYears();
        }
    }

    public int centuries(int seed, int q, int years, int what) throws IllegalArgumentException {
        needCenturies(q, years);
        need(what >= 0 && what <= 3);
        int quarrels = dreamCenturies(seed, q, years);
        switch (what) {
            case 0: return dream.couples();
            case 1: return dream.partedSoFar() - now.partedSoFar();
            case 2: return dream.allHoles();
            default: return quarrels;
        }
    }

    public int span(int seed, int many, int q, int years, int what, int street) throws IllegalArgumentException {
        need(many >= 1 && many <= 20);
        needCenturies(q, years);
        need(what >= 0 && what <= 2);
        need(street >= 0 && street < town.streets);
        int fewest = City.MOST_STREETS;
        int most = 0;
        int still = 0;
        for (int i = 0; i < many; i++) {
            dreamCenturies(seed + i, q, years);
            fewest = Math.min(fewest, dream.couples());
            most = Math.max(most, dream.couples());
            still += dream.mateOf(street) == NONE ? 0 : 1;
        }
        switch (what) {
            case 0: return fewest;
            case 1: return most;
            default: return still;
        }
    }

    public int image() {
        return ledger.keepImage(now) ? ledger.images : -1;
    }

    public int restore() {
        if (!ledger.takeImageBack(now)) {
            return -1;
        }
        refusedSteps = 0;
        return ledger.images;
    }

    public int status(int what) {
        switch (what) {
            case 0: return badPlaces;
            case 1: return badElements;
            case 2: return badArguments;
            default: return NONE;
        }
    }

    public int count(int what) {
        switch (what) {
            case 0: return ledger.images;
            case 1: return taped;
            case 2: return ledger.works;
            default: return NONE;
        }
    }

    private void tapeFour(int four) {
        for (int shift = 24; shift >= 0; shift -= 8) {
            if (taped >= 0 && taped < tape.length) {
                tape[taped] = (byte) (four >>> shift);
                taped++;
            }
        }
    }

    private void openText(int n, int most) {
        need(n >= 0 && n <= taped && n <= most);
        text.open(n);
        taped = 0;
    }

    private void need(boolean right) {
        if (!right) {
            badArguments++;
            throw new IllegalArgumentException("no such argument");
        }
    }

    private void needStreet(int street) {
        needElement(street >= 0 && street < town.streets);
    }

    private void needCorner(int corner) {
        needElement(corner >= 0 && corner < town.corners);
    }

    private void needElement(boolean there) {
        if (!there) {
            badElements++;
            throw new NoSuchElementException("no such street or corner");
        }
    }

    private void needHouse(boolean there) {
        if (!there) {
            badPlaces++;
            throw new IndexOutOfBoundsException("no such house");
        }
    }

    private void needCenturies(int q, int years) {
        need(q >= 0 && q <= 16);
        need(years >= 1 && years <= 100);
    }

    private static boolean isDowry(int value) {
        return value >= 0 && value <= MOST_DOWRY;
    }

    private int houseWith(int street, int number) {
        return Life.houseOf(now.roleOf(street), town.housesOf(street), number);
    }

    private int greatestNumber(int street) {
        int own = Life.numberOf(now.roleOf(street), town.housesOf(street));
        int mate = now.mateOf(street);
        return mate == NONE ? own : Math.max(own, Life.numberOf(now.roleOf(mate), town.housesOf(mate)));
    }

    private boolean wouldLeave(int she, int he) {
        return now.mateOf(she) != he
                && town.liking(she, he) > town.liking(she, now.mateOf(she))
                && town.liking(he, she) > town.liking(he, now.mateOf(he))
                && statute.hindrance(town, now, she, he) == Law.FREE;
    }

    /** The STREETS to which this one could be married in that role by the POST, as bits. */
    private int matesOf(int street, int role) {
        if (!mail.fits(role, town.housesOf(street))) {
            return 0;
        }
        int bits = 0;
        for (int other = 0; other < town.streets; other++) {
            int she = role == Life.SHE ? street : other;
            int he = role == Life.SHE ? other : street;
            if (statute.hindrance(town, now, she, he) == Law.FREE) {
                bits |= 1 << other;
            }
        }
        return bits;
    }

    private int mayBeAlone(int street) {
        return mail.fits(Life.ALONE, town.housesOf(street)) ? 1 : 0;
    }

    /** Lets the dream live through the CENTURIES; answers the quarrels that were done. */
    private int dreamCenturies(int seed, int q, int years) {
        dream.copyFrom(now);
        int quarrels = 0;
        int drawn = seed;
        for (int year = 0; year < years; year++) {
            drawn = nextSeed(drawn);
            if (drawBelow(drawn, 16) < q && town.streets > 0) {
                drawn = nextSeed(drawn);
                quarrels += dream.quarrelIn(drawBelow(drawn, town.streets)) ? 1 : 0;
            }
            dream.turnYear();
        }
        return quarrels;
    }

    private static int nextSeed(int seed) {
        return seed * 1103515245 + 12345;
    }

    private static int drawBelow(int seed, int limit) {
        return limit > 0 ? (seed >>> 16 & 32767) % limit : 0;
    }

    /** Rows of numbers whose every use looks at the index first. */
    private static final class Rows {
        static int at(int[] row, int place) {
            return place >= 0 && place < row.length ? row[place] : 0;
        }

        static void put(int[] row, int place, int value) {
            if (place >= 0 && place < row.length) {
                row[place] = value;
            }
        }

        static void fill(int[] row, int value) {
            for (int i = 0; i < row.length; i++) {
                row[i] = value;
            }
        }

        static void copy(int[] from, int fromPlace, int[] to, int toPlace, int many) {
            for (int i = 0; i < many; i++) {
                put(to, toPlace + i, at(from, fromPlace + i));
            }
        }
    }

    /** A text on the TAPE that is read from the left, and its first FAULT. */
    private static final class Text {
        static final int MISPLACED = 1;
        static final int NO_SUCH_NUMBER = 2;
        static final int TOO_MANY = 3;
        private static final int HUGE = 100000;

        private final byte[] bytes;
        private int length;
        private int place;
        private int start;
        private int kind;
        private int faultAt;

        Text(byte[] tape) {
            bytes = tape;
            faultAt = NONE;
        }

        void open(int n) {
            length = Math.min(n, bytes.length);
            place = 0;
            start = 0;
            kind = 0;
            faultAt = NONE;
        }

        int answer() {
            return kind - 10;
        }

        /** Always false, so that a reader can give it back. */
        boolean mark(int fault) {
            kind = fault;
            faultAt = start;
            return false;
        }

        boolean atEnd() {
            skipBlanks();
            return place >= length;
        }

        boolean sees(char sign) {
            skipBlanks();
            return byteAt(place) == sign;
        }

        boolean seesDigit() {
            skipBlanks();
            return isDigit(byteAt(place));
        }

        boolean take(char sign) {
            skipBlanks();
            if (byteAt(place) != sign) {
                return mark(MISPLACED);
            }
            place++;
            return true;
        }

        /** NONE behind a FAULT. */
        int readNumber(int least, int most) {
            skipBlanks();
            int value = 0;
            while (place < length && isDigit(byteAt(place))) {
                value = Math.min(HUGE, value * 10 + byteAt(place) - '0');
                place++;
            }
            if (place == start) {
                mark(MISPLACED);
                return NONE;
            }
            if (value < least || value > most) {
                mark(NO_SUCH_NUMBER);
                return NONE;
            }
            return value;
        }

        void readWord() {
            skipBlanks();
            while (place < length && isLetter(byteAt(place))) {
                place++;
            }
        }

        boolean wordIs(String word) {
            if (word.length() != place - start) {
                return false;
            }
            for (int i = 0; i < word.length(); i++) {
                if (word.charAt(i) != byteAt(start + i)) {
                    return false;
                }
            }
            return true;
        }

        private void skipBlanks() {
            while (place < length && place < bytes.length && bytes[place] == ' ') {
                place++;
            }
            start = place;
        }

        private int byteAt(int i) {
            return i >= 0 && i < length && i < bytes.length ? bytes[i] & 255 : NONE;
        }

        private static boolean isDigit(int sign) {
            return sign >= '0' && sign <= '9';
        }

        private static boolean isLetter(int sign) {
            return sign >= 'a' && sign <= 'z';
        }
    }

    /** What a CITY's text tells; nothing here changes by WORK. */
    private static final class City {
        static final int MOST_CORNERS = 10;
        static final int MOST_STREETS = 8;
        static final int MOST_GOODS = 8;
        private static final int USUAL_LIKING = 5;
        private static final int MOST_CLAUSES = 60;
        private static final int MOST_PLACE = 60;
        private static final int MOST_HOUSES = 20;
        private static final int MOST_TREES = 20;
        private static final int UNKNOWN = 0;
        private static final int CORNER = 1;
        private static final int STREET = 2;
        private static final int LIKES = 3;
        private static final int NEVER = 4;
        private static final int GOOD = 5;
        private static final int LANE = 6;
        private static final int RIVER = 7;

        private int corners;
        private int streets;
        private int goods;
        private int river;
        private final int[] cornerX = new int[MOST_CORNERS];
        private final int[] cornerY = new int[MOST_CORNERS];
        private final int[] starts = new int[MOST_STREETS];
        private final int[] ends = new int[MOST_STREETS];
        private final int[] houses = new int[MOST_STREETS];
        private final int[] trees = new int[MOST_STREETS];
        private final int[] lengths = new int[MOST_STREETS];
        private final int[] likings = new int[MOST_STREETS * MOST_STREETS];
        private final int[] nevers = new int[MOST_STREETS];
        private final int[] oneWorths = new int[MOST_GOODS];
        private final int[] otherWorths = new int[MOST_GOODS];
        private int laneStartX;
        private int laneStartY;
        private int laneLess;
        private int laneMore;

        City() {
            clear();
        }

        void clear() {
            corners = 0;
            streets = 0;
            goods = 0;
            river = 0;
            Rows.fill(likings, USUAL_LIKING);
            Rows.fill(nevers, 0);
            setLane(30, 0, 1, 0);
        }

        boolean readAll(Text text) {
            clear();
            for (int clause = 0; clause <= MOST_CLAUSES && !text.atEnd(); clause++) {
                if (!readClause(text, clause)) {
                    return false;
                }
            }
            return true;
        }

        private boolean readClause(Text text, int ahead) {
            text.readWord();
            int kind = kindOf(text);
            if (kind == UNKNOWN) {
                return text.mark(Text.MISPLACED);
            }
            if (ahead >= MOST_CLAUSES || isFull(kind)) {
                return text.mark(Text.TOO_MANY);
            }
            boolean isRead;
            switch (kind) {
                case CORNER: isRead = readCorner(text); break;
                case STREET: isRead = readStreet(text); break;
                case LIKES: isRead = readLikes(text); break;
                case NEVER: isRead = readNever(text); break;
                case GOOD: isRead = readGood(text); break;
                case LANE: isRead = readLane(text); break;
                default: isRead = readRiver(text); break;
            }
            return isRead && text.take(';');
        }

        private static int kindOf(Text text) {
            if (text.wordIs("corner")) {
                return CORNER;
            }
            if (text.wordIs("street")) {
                return STREET;
            }
            if (text.wordIs("likes")) {
                return LIKES;
            }
            if (text.wordIs("never")) {
                return NEVER;
            }
            if (text.wordIs("good")) {
                return GOOD;
            }
            if (text.wordIs("lane")) {
                return LANE;
            }
            return text.wordIs("river") ? RIVER : UNKNOWN;
        }

        private boolean isFull(int kind) {
            return kind == CORNER && corners >= MOST_CORNERS
                    || kind == STREET && streets >= MOST_STREETS
                    || kind == GOOD && goods >= MOST_GOODS;
        }

        private boolean readCorner(Text text) {
            int x = text.readNumber(0, MOST_PLACE);
            int y = x == NONE ? NONE : text.readNumber(0, MOST_PLACE);
            if (y == NONE) {
                return false;
            }
            addCorner(x, y);
            return true;
        }

        private boolean readStreet(Text text) {
            int start = text.readNumber(0, corners - 1);
            int end = start == NONE ? NONE : another(text, start, corners);
            int houseCount = end == NONE ? NONE : text.readNumber(1, MOST_HOUSES);
            int treeCount = houseCount == NONE ? NONE : text.readNumber(0, MOST_TREES);
            if (treeCount == NONE) {
                return false;
            }
            addStreet(start, end, houseCount, treeCount);
            return true;
        }

        private boolean readLikes(Text text) {
            int street = text.readNumber(0, streets - 1);
            int other = street == NONE ? NONE : another(text, street, streets);
            int liking = other == NONE ? NONE : text.readNumber(0, 9);
            if (liking == NONE) {
                return false;
            }
            setLiking(street, other, liking);
            return true;
        }

        private boolean readNever(Text text) {
            int street = text.readNumber(0, streets - 1);
            int other = street == NONE ? NONE : another(text, street, streets);
            if (other == NONE) {
                return false;
            }
            forbid(street, other);
            return true;
        }

        private boolean readGood(Text text) {
            int toOne = text.readNumber(0, 9);
            int toOther = toOne == NONE ? NONE : text.readNumber(0, 9);
            if (toOther == NONE) {
                return false;
            }
            addGood(toOne, toOther);
            return true;
        }

        private boolean readLane(Text text) {
            int x = text.readNumber(0, MOST_PLACE);
            int y = x == NONE ? NONE : text.readNumber(0, MOST_PLACE);
            int less = y == NONE ? NONE : text.readNumber(0, 9);
            int more = less == NONE ? NONE : text.readNumber(0, 9);
            if (more == NONE) {
                return false;
            }
            setLane(x, y, less, more);
            return true;
        }

        private boolean readRiver(Text text) {
            int x = text.readNumber(0, MOST_PLACE);
            if (x == NONE) {
                return false;
            }
            river = x;
            return true;
        }

        private static int another(Text text, int one, int many) {
            int other = text.readNumber(0, many - 1);
            if (other == one && other != NONE) {
                text.mark(Text.NO_SUCH_NUMBER);
                return NONE;
            }
            return other;
        }

        void addCorner(int x, int y) {
            Rows.put(cornerX, corners, x);
            Rows.put(cornerY, corners, y);
            corners++;
        }

        void addStreet(int start, int end, int houseCount, int treeCount) {
            Rows.put(starts, streets, start);
            Rows.put(ends, streets, end);
            Rows.put(houses, streets, houseCount);
            Rows.put(trees, streets, treeCount);
            Rows.put(lengths, streets, Math.abs(Rows.at(cornerX, start) - Rows.at(cornerX, end))
                    + Math.abs(Rows.at(cornerY, start) - Rows.at(cornerY, end)));
            streets++;
        }

        void addGood(int toOne, int toOther) {
            Rows.put(oneWorths, goods, toOne);
            Rows.put(otherWorths, goods, toOther);
            goods++;
        }

        void setLiking(int street, int other, int liking) {
            Rows.put(likings, street * MOST_STREETS + other, liking);
        }

        void forbid(int street, int other) {
            Rows.put(nevers, street, Rows.at(nevers, street) | 1 << other);
            Rows.put(nevers, other, Rows.at(nevers, other) | 1 << street);
        }

        void setLane(int x, int y, int less, int more) {
            laneStartX = x;
            laneStartY = y;
            laneLess = less;
            laneMore = more;
        }

        int startOf(int street) {
            return Rows.at(starts, street);
        }

        int endOf(int street) {
            return Rows.at(ends, street);
        }

        int housesOf(int street) {
            return Rows.at(houses, street);
        }

        int firstTreesOf(int street) {
            return street < streets ? Rows.at(trees, street) : 0;
        }

        int lengthOf(int street) {
            return Rows.at(lengths, street);
        }

        /** How much a STREET likes its mate, who may be NONE: then it is 0. */
        int liking(int street, int mate) {
            return mate == NONE ? 0 : Rows.at(likings, street * MOST_STREETS + mate);
        }

        boolean isNever(int street, int other) {
            return (Rows.at(nevers, street) >> other & 1) == 1;
        }

        int commonCorners(int street, int other) {
            int otherStart = Rows.at(starts, other);
            int otherEnd = Rows.at(ends, other);
            int start = Rows.at(starts, street);
            int end = Rows.at(ends, street);
            return (start == otherStart || start == otherEnd ? 1 : 0) + (end == otherStart || end == otherEnd ? 1 : 0);
        }

        int worthToOne(int share) {
            return worth(oneWorths, share);
        }

        int worthToOther(int share) {
            return worth(otherWorths, share);
        }

        private int worth(int[] worths, int share) {
            int sum = 0;
            for (int good = 0; good < goods; good++) {
                sum += (share >> good & 1) * Rows.at(worths, good);
            }
            return sum;
        }

        int laneX(int year) {
            return laneStartX - laneLess * year;
        }

        int laneY(int year) {
            return laneStartY + laneMore * year;
        }

        int cornersAt(int x, int y) {
            int bits = 0;
            for (int corner = 0; corner < corners; corner++) {
                if (Rows.at(cornerX, corner) == x && Rows.at(cornerY, corner) == y) {
                    bits |= 1 << corner;
                }
            }
            return bits;
        }
    }

    /** The LAW, kept as postfix code: numbers as they are, all else below 0. */
    private static final class Law {
        static final int FREE = 0;
        private static final int SAME = 1;
        private static final int NEVER = 2;
        private static final int REFUSED = 3;
        private static final int MOST_OPEN = 6;
        private static final int PLUS = -1;
        private static final int MINUS = -2;
        private static final int TIMES = -3;
        private static final int BY = -4;
        private static final int LEAST = -5;
        private static final int MOST = -6;
        private static final int HERS = -7;
        private static final int HIS = -8;
        private static final int TREES = -9;
        private static final int LIKES = -10;
        private static final int LIKED = -11;
        private static final int CROSS = -12;
        private static final int LENGTH = -13;
        private static final int YEAR = -14;
        private static final int HOLES = -15;

        private final int[] code = new int[LAW_BYTES];
        private final int[] stack = new int[LAW_BYTES];
        private int size;

        void clear() {
            size = 0;
        }

        boolean readAll(Text text) {
            size = 0;
            return readSum(text, 0) && (text.atEnd() || text.mark(Text.MISPLACED));
        }

        private boolean readSum(Text text, int open) {
            if (!readProduct(text, open)) {
                return false;
            }
            for (int i = 0; i < LAW_BYTES && (text.sees('+') || text.sees('-')); i++) {
                int sign = text.sees('+') ? PLUS : MINUS;
                text.take(sign == PLUS ? '+' : '-');
                if (!readProduct(text, open)) {
                    return false;
                }
                append(sign);
            }
            return true;
        }

        private boolean readProduct(Text text, int open) {
            if (!readUnit(text, open)) {
                return false;
            }
            for (int i = 0; i < LAW_BYTES && (text.sees('*') || text.sees('/')); i++) {
                int sign = text.sees('*') ? TIMES : BY;
                text.take(sign == TIMES ? '*' : '/');
                if (!readUnit(text, open)) {
                    return false;
                }
                append(sign);
            }
            return true;
        }

        private boolean readUnit(Text text, int open) {
            if (text.seesDigit()) {
                int number = text.readNumber(0, 999);
                return number != NONE && append(number);
            }
            if (text.sees('(')) {
                return mayOpen(text, open) && text.take('(') && readSum(text, open + 1) && text.take(')');
            }
            text.readWord();
            int word = wordOf(text);
            if (word == 0) {
                return text.mark(Text.MISPLACED);
            }
            return word == LEAST || word == MOST ? readPair(text, open, word) : append(word);
        }

        private boolean readPair(Text text, int open, int word) {
            return mayOpen(text, open)
                    && text.take('[') && readSum(text, open + 1)
                    && text.take(',') && readSum(text, open + 1)
                    && text.take(']') && append(word);
        }

        private static boolean mayOpen(Text text, int open) {
            return open < MOST_OPEN || text.mark(Text.TOO_MANY);
        }

        private static int wordOf(Text text) {
            if (text.wordIs("hers")) {
                return HERS;
            }
            if (text.wordIs("his")) {
                return HIS;
            }
            if (text.wordIs("trees")) {
                return TREES;
            }
            if (text.wordIs("likes")) {
                return LIKES;
            }
            if (text.wordIs("liked")) {
                return LIKED;
            }
            if (text.wordIs("cross")) {
                return CROSS;
            }
            if (text.wordIs("length")) {
                return LENGTH;
            }
            if (text.wordIs("year")) {
                return YEAR;
            }
            if (text.wordIs("holes")) {
                return HOLES;
            }
            if (text.wordIs("least")) {
                return LEAST;
            }
            return text.wordIs("most") ? MOST : 0;
        }

        private boolean append(int word) {
            Rows.put(code, size, word);
            size++;
            return true;
        }

        /** What stands against these banns: FREE, or the least reason. */
        int hindrance(City city, Life life, int she, int he) {
            if (she == he) {
                return SAME;
            }
            if (city.isNever(she, he)) {
                return NEVER;
            }
            return value(city, life, she, he) > 0 ? REFUSED : FREE;
        }

        private int value(City city, Life life, int she, int he) {
            int top = 0;
            for (int i = 0; i < size; i++) {
                int word = Rows.at(code, i);
                if (word <= PLUS && word >= MOST) {
                    top--;
                    Rows.put(stack, top - 1, joined(word, Rows.at(stack, top - 1), Rows.at(stack, top)));
                } else {
                    Rows.put(stack, top, word >= 0 ? word : fact(word, city, life, she, he));
                    top++;
                }
            }
            return size == 0 ? 0 : Rows.at(stack, 0);
        }

        private static int joined(int word, int left, int right) {
            switch (word) {
                case PLUS: return left + right;
                case MINUS: return left - right;
                case TIMES: return left * right;
                case BY: return right == 0 ? 0 : left / right;
                case LEAST: return Math.min(left, right);
                default: return Math.max(left, right);
            }
        }

        private static int fact(int word, City city, Life life, int she, int he) {
            switch (word) {
                case HERS: return city.housesOf(she);
                case HIS: return city.housesOf(he);
                case TREES: return life.treesOf(she) + life.treesOf(he);
                case LIKES: return city.liking(she, he);
                case LIKED: return city.liking(he, she);
                case CROSS: return city.commonCorners(she, he);
                case LENGTH: return city.lengthOf(she) + city.lengthOf(he);
                case YEAR: return life.yearNow();
                default: return life.holesOf(she) + life.holesOf(he);
            }
        }
    }

    /** All that WORK changes, in one row, so that it can be kept and brought back whole. */
    private static final class Life {
        static final int SIZE = 42;
        static final int ALONE = 0;
        static final int SHE = 1;
        static final int HE = 2;
        private static final int MATES = 0;
        private static final int ROLES = 8;
        private static final int YEARS = 16;
        private static final int TREES = 24;
        private static final int HOLES = 32;
        private static final int YEAR = 40;
        private static final int PARTED = 41;
        private static final int MOST_TREES = 99;
        private static final int MOST_HOLES = 9;
        private static final int LAST_YEAR = 200;
        private static final int JUBILEE = 25;
        private static final int TOO_MANY_HOLES = 10;

        private final int[] row = new int[SIZE];

        /** The NUMBER of a house by what its STREET is in a couple. */
        static int numberOf(int role, int house) {
            switch (role) {
                case SHE: return 2 * house - 1;
                case HE: return 2 * house;
                default: return house;
            }
        }

        /** The house that has the NUMBER; 0: none has it. */
        static int houseOf(int role, int houses, int number) {
            int house = role == ALONE ? number : (number + 1) / 2;
            return house <= houses && numberOf(role, house) == number ? house : 0;
        }

        void begin(City city) {
            Rows.fill(row, 0);
            for (int street = 0; street < City.MOST_STREETS; street++) {
                Rows.put(row, MATES + street, NONE);
                Rows.put(row, TREES + street, city.firstTreesOf(street));
            }
        }

        void copyFrom(Life other) {
            Rows.copy(other.row, 0, row, 0, SIZE);
        }

        void saveTo(int[] store, int place) {
            Rows.copy(row, 0, store, place, SIZE);
        }

        void loadFrom(int[] store, int place) {
            Rows.copy(store, place, row, 0, SIZE);
        }

        int mateOf(int street) {
            return Rows.at(row, MATES + street);
        }

        int roleOf(int street) {
            return Rows.at(row, ROLES + street);
        }

        int yearsOf(int street) {
            return Rows.at(row, YEARS + street);
        }

        int treesOf(int street) {
            return Rows.at(row, TREES + street);
        }

        int holesOf(int street) {
            return Rows.at(row, HOLES + street);
        }

        int yearNow() {
            return Rows.at(row, YEAR);
        }

        int partedSoFar() {
            return Rows.at(row, PARTED);
        }

        int couples() {
            int many = 0;
            for (int street = 0; street < City.MOST_STREETS; street++) {
                many += roleOf(street) == SHE ? 1 : 0;
            }
            return many;
        }

        int allTrees() {
            int sum = 0;
            for (int street = 0; street < City.MOST_STREETS; street++) {
                sum += treesOf(street);
            }
            return sum;
        }

        int allHoles() {
            int sum = 0;
            for (int street = 0; street < City.MOST_STREETS; street++) {
                sum += holesOf(street);
            }
            return sum;
        }

        int longestYears() {
            int most = 0;
            for (int street = 0; street < City.MOST_STREETS; street++) {
                most = Math.max(most, yearsOf(street));
            }
            return most;
        }

        // A STEP answers false, having changed nothing, if it is REFUSED.

        boolean wed(int she, int he) {
            if (mateOf(she) != NONE || mateOf(he) != NONE) {
                return false;
            }
            bind(she, he, SHE);
            bind(he, she, HE);
            return true;
        }

        boolean partFrom(int street) {
            int mate = mateOf(street);
            if (mate == NONE) {
                return false;
            }
            int she = roleOf(street) == SHE ? street : mate;
            int he = roleOf(street) == SHE ? mate : street;
            int together = treesOf(she) + treesOf(he);
            Rows.put(row, TREES + he, together / 2);
            Rows.put(row, TREES + she, together - together / 2);
            bind(she, NONE, ALONE);
            bind(he, NONE, ALONE);
            Rows.put(row, PARTED, partedSoFar() + 1);
            return true;
        }

        boolean plantIn(int street, int many) {
            if (treesOf(street) >= MOST_TREES) {
                return false;
            }
            Rows.put(row, TREES + street, Math.min(MOST_TREES, treesOf(street) + many));
            return true;
        }

        boolean quarrelIn(int street) {
            int mate = mateOf(street);
            if (mate == NONE || holesOf(street) >= MOST_HOLES && holesOf(mate) >= MOST_HOLES) {
                return false;
            }
            setHoles(street, Math.min(MOST_HOLES, holesOf(street) + 1));
            setHoles(mate, Math.min(MOST_HOLES, holesOf(mate) + 1));
            return true;
        }

        boolean repaveIn(int street) {
            int mate = mateOf(street);
            int holes = holesOf(street) + (mate == NONE ? 0 : holesOf(mate));
            if (holes == 0) {
                return false;
            }
            setHoles(street, 0);
            if (mate != NONE) {
                setHoles(mate, 0);
            }
            return true;
        }

        boolean turnYear() {
            if (yearNow() >= LAST_YEAR) {
                return false;
            }
            Rows.put(row, YEAR, yearNow() + 1);
            for (int street = 0; street < City.MOST_STREETS; street++) {
                if (roleOf(street) == SHE) {
                    age(street, mateOf(street));
                }
            }
            return true;
        }

        private void age(int she, int he) {
            int years = yearsOf(she) + 1;
            Rows.put(row, YEARS + she, years);
            Rows.put(row, YEARS + he, years);
            if (years % JUBILEE == 0) {
                setHoles(she, 0);
                setHoles(he, 0);
            }
            if (holesOf(she) + holesOf(he) >= TOO_MANY_HOLES) {
                partFrom(she);
            }
        }

        private void bind(int street, int mate, int role) {
            Rows.put(row, MATES + street, mate);
            Rows.put(row, ROLES + street, role);
            Rows.put(row, YEARS + street, 0);
        }

        private void setHoles(int street, int holes) {
            Rows.put(row, HOLES + street, holes);
        }
    }

    /** A WORK, kept as STEPS in a row; an again knows where its own ones end. */
    private static final class Plan {
        private static final int MOST_STEPS = 50;
        private static final int MOST_BEGUN = 200;
        private static final int MOST_OPEN = 6;
        private static final int UNKNOWN = 0;
        private static final int MARRY = 1;
        private static final int PART = 2;
        private static final int PLANT = 3;
        private static final int QUARREL = 4;
        private static final int REPAVE = 5;
        private static final int YEAR = 6;
        private static final int AGAIN = 7;

        private final int[] kinds = new int[MOST_STEPS];
        private final int[] firsts = new int[MOST_STEPS];
        private final int[] seconds = new int[MOST_STEPS];
        private int size;
        private int begun;
        private int done;
        private int refused;

        boolean readAll(Text text, int streets) {
            size = 0;
            begun = 0;
            done = 0;
            refused = 0;
            for (int i = 0; i < WORK_BYTES && !text.atEnd(); i++) {
                if (!readStep(text, streets, 0)) {
                    return false;
                }
            }
            return true;
        }

        private boolean readStep(Text text, int streets, int open) {
            text.readWord();
            int kind = kindOf(text);
            if (kind == UNKNOWN) {
                return text.mark(Text.MISPLACED);
            }
            if (kind == AGAIN) {
                return readAgain(text, streets, open) && text.take(';');
            }
            int first = kind == YEAR ? 0 : text.readNumber(0, streets - 1);
            int second = first == NONE ? NONE : readSecond(text, streets, kind);
            if (second == NONE) {
                return false;
            }
            append(kind, first, second);
            return text.take(';');
        }

        private static int readSecond(Text text, int streets, int kind) {
            switch (kind) {
                case MARRY: return text.readNumber(0, streets - 1);
                case PLANT: return text.readNumber(1, 9);
                default: return 0;
            }
        }

        private boolean readAgain(Text text, int streets, int open) {
            if (open >= MOST_OPEN) {
                return text.mark(Text.TOO_MANY);
            }
            int times = text.readNumber(0, 20);
            if (times == NONE || !text.take('[')) {
                return false;
            }
            int own = size;
            append(AGAIN, times, 0);
            for (int i = 0; i < WORK_BYTES && !text.sees(']'); i++) {
                if (!readStep(text, streets, open + 1)) {
                    return false;
                }
            }
            Rows.put(seconds, own, size);
            return text.take(']');
        }

        private static int kindOf(Text text) {
            if (text.wordIs("marry")) {
                return MARRY;
            }
            if (text.wordIs("part")) {
                return PART;
            }
            if (text.wordIs("plant")) {
                return PLANT;
            }
            if (text.wordIs("quarrel")) {
                return QUARREL;
            }
            if (text.wordIs("repave")) {
                return REPAVE;
            }
            if (text.wordIs("year")) {
                return YEAR;
            }
            return text.wordIs("again") ? AGAIN : UNKNOWN;
        }

        private void append(int kind, int first, int second) {
            Rows.put(kinds, size, kind);
            Rows.put(firsts, size, first);
            Rows.put(seconds, size, second);
            size++;
        }

        /** Does the STEPS from one to ahead of another; open tells in how many agains they stand. */
        private void perform(int from, int end, int open, Life life, City city, Law law) {
            if (open > MOST_OPEN) {
                return;
            }
            int step = from;
            while (step < end && begun < MOST_BEGUN) {
                begun++;
                int next = step + 1;
                if (Rows.at(kinds, step) == AGAIN) {
                    int behind = Math.max(next, Rows.at(seconds, step));
                    for (int i = 0; i < Rows.at(firsts, step) && begun < MOST_BEGUN; i++) {
                        perform(next, behind, open + 1, life, city, law);
                    }
                    next = behind;
                } else if (performStep(step, life, city, law)) {
                    done++;
                } else {
                    refused++;
                }
                step = next;
            }
        }

        private boolean performStep(int step, Life life, City city, Law law) {
            int street = Rows.at(firsts, step);
            int second = Rows.at(seconds, step);
            switch (Rows.at(kinds, step)) {
                case MARRY: return law.hindrance(city, life, street, second) == Law.FREE && life.wed(street, second);
                case PART: return life.partFrom(street);
                case PLANT: return life.plantIn(street, second);
                case QUARREL: return life.quarrelIn(street);
                case REPAVE: return life.repaveIn(street);
                default: return life.turnYear();
            }
        }
    }

    /** The POST's lines. */
    private static final class Mail {
        static final int MOST_NUMBER = 40;
        private static final int MOST_LINES = 8;
        private static final int MOST_HOUSE = 20;

        private final int[] numbers = new int[MOST_LINES];
        private final int[] houses = new int[MOST_LINES];
        private int lines;

        void clear() {
            lines = 0;
        }

        boolean readAll(Text text) {
            lines = 0;
            for (int i = 0; i <= MOST_LINES && !text.atEnd(); i++) {
                if (!readLine(text)) {
                    return false;
                }
            }
            return true;
        }

        private boolean readLine(Text text) {
            int number = text.readNumber(1, MOST_NUMBER);
            if (number == NONE) {
                return false;
            }
            if (has(number)) {
                return text.mark(Text.NO_SUCH_NUMBER);
            }
            if (lines >= MOST_LINES) {
                return text.mark(Text.TOO_MANY);
            }
            int house = text.readNumber(0, MOST_HOUSE);
            if (house == NONE || !text.take(';')) {
                return false;
            }
            Rows.put(numbers, lines, number);
            Rows.put(houses, lines, house);
            lines++;
            return true;
        }

        boolean has(int number) {
            for (int line = 0; line < lines; line++) {
                if (Rows.at(numbers, line) == number) {
                    return true;
                }
            }
            return false;
        }

        boolean fits(int role, int houseCount) {
            return rightLines(role, houseCount) == lines;
        }

        /** How many lines are right, up to the first that is wrong. */
        int rightLines(int role, int houseCount) {
            for (int line = 0; line < lines; line++) {
                if (Life.houseOf(role, houseCount, Rows.at(numbers, line)) != Rows.at(houses, line)) {
                    return line;
                }
            }
            return lines;
        }

        /** How many of those MATES are left, wherever a letter to the NUMBER comes, at the worst. */
        static int leftAtWorst(int houses, int number, int hers, int his, int alone) {
            int asShe = Life.houseOf(Life.SHE, houses, number);
            int asHe = Life.houseOf(Life.HE, houses, number);
            int asAlone = Life.houseOf(Life.ALONE, houses, number);
            int withShe = hers + (asHe == asShe ? his : 0) + (asAlone == asShe ? alone : 0);
            int withHe = his + (asShe == asHe ? hers : 0) + (asAlone == asHe ? alone : 0);
            int withAlone = alone + (asShe == asAlone ? hers : 0) + (asHe == asAlone ? his : 0);
            return Math.max(withShe, Math.max(withHe, withAlone));
        }
    }

    /** WORKS that can be undone, and IMAGES, each with the WORKS of its time. */
    private static final class Ledger {
        private static final int MOST_WORKS = 16;
        private static final int MOST_IMAGES = 3;
        private static final int WORKS_SIZE = MOST_WORKS * Life.SIZE;
        private static final int IMAGE_SIZE = 1 + Life.SIZE + WORKS_SIZE;

        private final int[] workRows = new int[WORKS_SIZE];
        private final int[] imageRows = new int[MOST_IMAGES * IMAGE_SIZE];
        private int works;
        private int images;

        void clear() {
            works = 0;
            images = 0;
        }

        boolean isFull() {
            return works >= MOST_WORKS;
        }

        void keepWork(Life life) {
            life.saveTo(workRows, works * Life.SIZE);
            works++;
        }

        boolean takeWorkBack(Life life) {
            if (works <= 0) {
                return false;
            }
            works--;
            life.loadFrom(workRows, works * Life.SIZE);
            return true;
        }

        boolean keepImage(Life life) {
            if (images >= MOST_IMAGES) {
                return false;
            }
            int place = images * IMAGE_SIZE;
            Rows.put(imageRows, place, works);
            life.saveTo(imageRows, place + 1);
            Rows.copy(workRows, 0, imageRows, place + 1 + Life.SIZE, works * Life.SIZE);
            images++;
            return true;
        }

        boolean takeImageBack(Life life) {
            if (images <= 0) {
                return false;
            }
            images--;
            int place = images * IMAGE_SIZE;
            works = Rows.at(imageRows, place);
            life.loadFrom(imageRows, place + 1);
            Rows.copy(imageRows, place + 1 + Life.SIZE, workRows, 0, works * Life.SIZE);
            return true;
        }
    }

    /** All MATCHINGS of those that are not married, in the order of BEST. */
    private static final class Matcher {
        private final int[] may = new int[City.MOST_STREETS];
        private final int[] mates = new int[City.MOST_STREETS];
        private final int[] stableMates = new int[City.MOST_STREETS];
        private final int[] warmMates = new int[City.MOST_STREETS];
        private int stables;
        private int warmest;

        int firstStableMate(int street) {
            return Rows.at(stableMates, street);
        }

        int warmestMate(int street) {
            return Rows.at(warmMates, street);
        }

        void findAll(City city, Life life, Law law) {
            stables = 0;
            warmest = NONE;
            Rows.fill(mates, NONE);
            Rows.fill(stableMates, NONE);
            Rows.fill(warmMates, NONE);
            for (int she = 0; she < city.streets; she++) {
                Rows.put(may, she, mayMarry(city, life, law, she));
            }
            match(city, 0);
        }

        /** The later STREETS with which this one could be a couple, as bits. */
        private static int mayMarry(City city, Life life, Law law, int she) {
            if (life.mateOf(she) != NONE) {
                return 0;
            }
            int bits = 0;
            for (int he = she + 1; he < city.streets; he++) {
                if (life.mateOf(he) == NONE && law.hindrance(city, life, she, he) == Law.FREE) {
                    bits |= 1 << he;
                }
            }
            return bits;
        }

        private void match(City city, int street) {
            if (street >= city.streets) {
                judge(city);
                return;
            }
            match(city, street + 1);
            if (Rows.at(mates, street) != NONE) {
                return;
            }
            for (int other = street + 1; other < city.streets; other++) {
                if (isAllowed(street, other) && Rows.at(mates, other) == NONE) {
                    Rows.put(mates, street, other);
                    Rows.put(mates, other, street);
                    match(city, street + 1);
                    Rows.put(mates, street, NONE);
                    Rows.put(mates, other, NONE);
                }
            }
        }

        private boolean isAllowed(int she, int he) {
            return (Rows.at(may, she) >> he & 1) == 1;
        }

        private void judge(City city) {
            int warm = warmth(city);
            if (warm > warmest) {
                warmest = warm;
                Rows.copy(mates, 0, warmMates, 0, City.MOST_STREETS);
            }
            if (isStable(city)) {
                if (stables == 0) {
                    Rows.copy(mates, 0, stableMates, 0, City.MOST_STREETS);
                }
                stables++;
            }
        }

        private int warmth(City city) {
            int sum = 0;
            for (int street = 0; street < city.streets; street++) {
                sum += city.liking(street, Rows.at(mates, street));
            }
            return sum;
        }

        private boolean isStable(City city) {
            for (int she = 0; she < city.streets; she++) {
                for (int he = she + 1; he < city.streets; he++) {
                    if (isAllowed(she, he) && prefers(city, she, he) && prefers(city, he, she)) {
                        return false;
                    }
                }
            }
            return true;
        }

        /** Whom it has already it likes no more than that, so a couple never tempts itself. */
        private boolean prefers(City city, int street, int other) {
            return city.liking(street, other) > city.liking(street, Rows.at(mates, street));
        }
    }

    /** WAYS and ROUNDS along the STREETS. */
    private static final class Roads {
        private static final int FAR = 1000000;

        private final int[] steps = new int[City.MOST_CORNERS];
        private int shortest;

        /** Measures the WAYS from a CORNER, as if the closed STREET (or NONE) weren't there. */
        void spread(City city, int from, int closed) {
            Rows.fill(steps, FAR);
            Rows.put(steps, from, 0);
            for (int times = 1; times < city.corners; times++) {
                for (int street = 0; street < city.streets; street++) {
                    if (street != closed) {
                        shorten(city.startOf(street), city.endOf(street), city.lengthOf(street));
                        shorten(city.endOf(street), city.startOf(street), city.lengthOf(street));
                    }
                }
            }
        }

        private void shorten(int from, int to, int length) {
            Rows.put(steps, to, Math.min(Rows.at(steps, to), Rows.at(steps, from) + length));
        }

        int stepsTo(int corner) {
            int least = Rows.at(steps, corner);
            return least >= FAR ? NONE : least;
        }

        int shortestRound(City city, int told) {
            if (told == 0) {
                return 0;
            }
            shortest = FAR;
            walk(city, told, 0, 0, 0, 0);
            return shortest >= FAR ? NONE : shortest;
        }

        /**
         * Chooses how often each STREET is gone along: a ROUND needs every CORNER met an even number of times
         * and all in one piece, and none is gone along a third time, for two times less would do as well.
         */
        private void walk(City city, int told, int street, int used, int odd, int length) {
            if (length >= shortest) {
                return;
            }
            if (street >= city.streets) {
                if (odd == 0 && isOnePiece(city, used)) {
                    shortest = length;
                }
                return;
            }
            int bit = 1 << street;
            int ends = 1 << city.startOf(street) | 1 << city.endOf(street);
            int own = city.lengthOf(street);
            if ((told & bit) == 0) {
                walk(city, told, street + 1, used, odd, length);
            }
            walk(city, told, street + 1, used | bit, odd ^ ends, length + own);
            walk(city, told, street + 1, used | bit, odd, length + 2 * own);
        }

        private static boolean isOnePiece(City city, int used) {
            int met = 0;
            int left = used;
            for (int times = 0; times < city.streets && left != 0; times++) {
                for (int street = 0; street < city.streets; street++) {
                    int ends = 1 << city.startOf(street) | 1 << city.endOf(street);
                    if ((left >> street & 1) == 1 && (met == 0 || (met & ends) != 0)) {
                        met |= ends;
                        left &= ~(1 << street);
                    }
                }
            }
            return left == 0;
        }
    }

    /** The SUITORS' game. */
    private static final class Dowries {
        private final int[] oneBest = new int[MOST_OFFERED + 1];
        private final int[] otherBest = new int[MOST_OFFERED + 1];
        private int rests;
        private int first;
        private int together;

        static int gain(int own, int other, int value) {
            if (own < other) {
                return 0;
            }
            return own > other ? value - own : (value - own) / 2;
        }

        void findRests(int n, int v, int w) {
            rests = 0;
            first = NONE;
            together = 0;
            for (int offer = 0; offer <= n; offer++) {
                Rows.put(oneBest, offer, bestAgainst(offer, n, v));
                Rows.put(otherBest, offer, bestAgainst(offer, n, w));
            }
            for (int one = 0; one <= n; one++) {
                for (int other = 0; other <= n; other++) {
                    weigh(one, other, gain(one, other, v), gain(other, one, w));
                }
            }
        }

        private static int bestAgainst(int offer, int n, int value) {
            int best = gain(0, offer, value);
            for (int own = 1; own <= n; own++) {
                best = Math.max(best, gain(own, offer, value));
            }
            return best;
        }

        private void weigh(int one, int other, int oneGain, int otherGain) {
            if (oneGain < Rows.at(oneBest, other) || otherGain < Rows.at(otherBest, one)) {
                return;
            }
            if (rests == 0) {
                first = 100 * one + other;
                together = oneGain + otherGain;
            }
            rests++;
        }
    }
}
