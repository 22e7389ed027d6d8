/** A county that three heirs hold by the light: the promises are told in DOC.md. */
public final class ThreeHeirs {
    public static final int NONE = -1, UNKNOWN = -1000000001, OUTSIDE = -1000000002, NOT = -1000000003, FULL = -1000000004;

    private static final int MOST_LETTERS = 240;
    private static final int MOST_SEASONS = 12;
    private static final int MOST_THINGS = 8;
    private static final int MOST_LANDS = 6;
    private static final int MOST_WANTS = 10;
    private static final int MOST_LOGGED = 20;
    private static final int MOST_FOUND = 6;
    private static final int MOST_WRITTEN = 20;
    private static final int MOST_UNDONE = 30;

    private static final int HEIRS = 3;
    private static final int DARK_HEIR = 2;
    private static final int VALUES = 10;
    private static final int IMAGES = 2;
    private static final int LOG_FIELDS = 4;

    private static final int DAY = 24;
    private static final int NOON = 12;
    private static final int EARLIEST_LIGHT = 1, LATEST_LIGHT = 11;
    private static final int EARLIEST_DARK = 13, LATEST_DARK = 23;
    private static final int MIDDLE_SEASON = 4, LAST_SEASON = 9;
    private static final int HEDGE = 0, CANDLE = 1, MUSIC = 3;
    private static final int MOST_RENT = 9;

    private static final int MOST_HELD = 9999999;
    private static final int LAST_START = 90000;
    private static final int MOST_AT_ONCE = 30;
    private static final int MOST_ECLIPSE = 24;
    private static final int MOST_AHEAD = 240;
    private static final int MOST_NEAR = 48;
    private static final int MOST_CLOCK_ERROR = 11;
    private static final int MOST_FOG_HOURS = 60;
    private static final int HUNDRED = 100;
    private static final int BILLION = 1000000000;

    private static final int MISPLACED = 1, BAD_NUMBER = 2, TOO_MANY = 3;

    private final Script script = new Script();
    private final Reader reader = new Reader(script);
    private final Estate now = new Estate();
    private final Past past = new Past();
    private final Finds finds = new Finds();
    private final Book book = new Book();
    private final Estate[] images = new Estate[IMAGES];
    private final int[] imageSeeds = new int[IMAGES];
    private final boolean[] imageKept = new boolean[IMAGES];
    private County land = new County();
    private int faultAt = NONE;
    private int lot;

    public ThreeHeirs() {
        for (int i = 0; i < IMAGES; i++) {
            images[i] = new Estate();
        }
        now.begin(land);
    }

    // ---- the county

    public int feed(int letter) {
        if (letter < 0 || letter > 255) {
            return OUTSIDE;
        }
        if (script.length >= MOST_LETTERS) {
            return FULL;
        }
        script.add(letter);
        return script.length;
    }

    public int county() {
        boolean sound = reader.readAll();
        script.length = 0;
        faultAt = reader.place;
        if (!sound) {
            return -10 - reader.blame;
        }
        land = reader.exchange(land);
        startAnew();
        return land.thingCount;
    }

    private void startAnew() {
        now.begin(land);
        past.forget();
        for (int i = 0; i < IMAGES; i++) {
            imageKept[i] = false;
        }
        finds.count = 0;
        book.count = 0;
    }

    public int fault() {
        return faultAt;
    }

    public int told(int what) {
        switch (what) {
            case 0:
                return land.exists ? 1 : 0;
            case 1:
                return land.thingCount;
            case 2:
                return land.landCount;
            case 3:
                return land.wantCount;
            case 4:
                return land.seasonCount;
            case 5:
                return script.length;
            case 6:
                return now.hours;
            case 7:
                return now.eclipseHours;
            case 8:
                return now.holderIn(land, 0);
            case 9:
                return now.metWants(land);
            case 10:
                return now.notesNeeded(land);
            case 11:
                return now.envy();
            case 12:
                return now.logCount;
            case 13:
                return finds.count;
            case 14:
                return book.count;
            case 15:
                return past.count;
            default:
                return OUTSIDE;
        }
    }

    public int heir(int h, int what) {
        if (!isHeir(h)) {
            return UNKNOWN;
        }
        switch (what) {
            case 0:
                return now.purses[h];
            case 1:
                return now.angers[h];
            case 2:
                return land.wantsOf(h);
            case 3:
                return now.wrongAbout(land, h);
            default:
                return OUTSIDE;
        }
    }

    public int thing(int t, int what) {
        if (!isThing(t)) {
            return UNKNOWN;
        }
        switch (what) {
            case 0:
                return land.kinds[t];
            case 1:
                return now.values[t];
            default:
                return OUTSIDE;
        }
    }

    public int want(int w, int what) {
        if (w < 0 || w >= land.wantCount) {
            return UNKNOWN;
        }
        switch (what) {
            case 0:
                return land.wantHeirs[w];
            case 1:
                return land.wantThings[w];
            case 2:
                return land.wantValues[w];
            default:
                return OUTSIDE;
        }
    }

    public int known(int h, int t) {
        if (!isHeir(h) || !isThing(t)) {
            return UNKNOWN;
        }
        return now.knownValues[h * MOST_THINGS + t];
    }

    public int logged(int i, int what) {
        if (!isWithin(what, 0, LOG_FIELDS - 1)) {
            return OUTSIDE;
        }
        if (i < 0 || i >= now.logCount) {
            return NONE;
        }
        return now.log[i * LOG_FIELDS + what];
    }

    // ---- deeds

    public int hour(int n) {
        int refusal = refusalOfHours(n);
        if (refusal != NONE) {
            return refusal;
        }
        for (int i = 0; i < n; i++) {
            past.remember(now);
            now.passHour(land);
        }
        return now.hours;
    }

    public int put(int t, int v) {
        if (!isThing(t)) {
            return UNKNOWN;
        }
        if (!isValue(v)) {
            return OUTSIDE;
        }
        past.remember(now);
        now.setThing(land, t, v);
        return now.holderIn(land, 0);
    }

    public int note(int h, int t) {
        if (!isHeir(h) || !isThing(t)) {
            return UNKNOWN;
        }
        if (now.holderIn(land, 0) == h) {
            return NOT;
        }
        past.remember(now);
        now.knownValues[h * MOST_THINGS + t] = now.values[t];
        return now.values[t];
    }

    public int eclipse(int n) {
        if (!isWithin(n, 0, MOST_ECLIPSE)) {
            return OUTSIDE;
        }
        if (!land.exists) {
            return NOT;
        }
        past.remember(now);
        int before = now.eclipseHours;
        now.eclipseHours = n;
        return before;
    }

    public int drift(int n) {
        int refusal = refusalOfHours(n);
        if (refusal != NONE) {
            return refusal;
        }
        for (int i = 0; i < n; i++) {
            past.remember(now);
            meetChance();
            now.passHour(land);
        }
        return now.hours;
    }

    public int undo(int n) {
        if (!isWithin(n, 1, MOST_UNDONE)) {
            return OUTSIDE;
        }
        if (n > past.count) {
            return NOT;
        }
        past.bringBack(n, now);
        return now.hours;
    }

    private int refusalOfHours(int n) {
        if (!isWithin(n, 1, MOST_AT_ONCE)) {
            return OUTSIDE;
        }
        if (!land.exists) {
            return NOT;
        }
        return now.hours > LAST_START ? FULL : NONE;
    }

    /** What comes by a draw ahead of an hour: a thing that is set, an eclipse, or nothing. */
    private void meetChance() {
        int chance = draw(8);
        if (chance == 0 && land.thingCount > 0) {
            int t = draw(land.thingCount);
            int v = draw(VALUES);
            now.setThing(land, t, v);
        } else if (chance == 1) {
            now.eclipseHours = draw(4);
        }
    }

    private int draw(int n) {
        long grown = lot * 1103515245L + 12345L;
        lot = (int) (grown & 2147483647L);
        return n > 0 ? lot / 65536 % n : 0;
    }

    // ---- tried

    public int whose(int n) {
        if (!isWithin(n, 0, MOST_AHEAD)) {
            return OUTSIDE;
        }
        return land.exists ? now.holderIn(land, n) : NOT;
    }

    public int gets(int h, int n) {
        if (!isHeir(h)) {
            return UNKNOWN;
        }
        if (!isWithin(n, 0, MOST_AHEAD)) {
            return OUTSIDE;
        }
        int sum = 0;
        for (int i = 0; i < n; i++) {
            if (now.holderIn(land, i) == h) {
                sum += land.rent;
            }
        }
        return sum;
    }

    public int willBe(int t, int n) {
        if (!isThing(t)) {
            return UNKNOWN;
        }
        if (!isWithin(n, 0, MOST_AHEAD)) {
            return OUTSIDE;
        }
        return land.valueAfter(land.kinds[t], now.values[t], now.hours, now.hours + n, now.eclipseEnd());
    }

    public int next(int h) {
        if (!isHeir(h)) {
            return UNKNOWN;
        }
        if (!land.exists) {
            return NOT;
        }
        for (int i = 0; i <= MOST_NEAR; i++) {
            if (now.holderIn(land, i) == h) {
                return i;
            }
        }
        return NONE;
    }

    public int keepSo(int h, int t, int v, int n, int what) {
        if (!isHeir(h) || !isThing(t)) {
            return UNKNOWN;
        }
        if (!isValue(v) || !isWithin(n, 1, MOST_NEAR) || !isWithin(what, 0, 1)) {
            return OUTSIDE;
        }
        int soonest = NONE;
        int least = NONE;
        // From the last hour back: as soon as somebody else has one, no sooner start can do.
        for (int k = n - 1; k >= 0 && now.holderIn(land, k) == h; k--) {
            int start = startFor(t, v, k, n);
            if (start != NONE) {
                soonest = k;
                least = start;
            }
        }
        return what == 0 ? soonest : least;
    }

    /** The least value that, set in k hours, is v when n hours are by. */
    private int startFor(int t, int v, int k, int n) {
        for (int start = 0; start < VALUES; start++) {
            int end = land.valueAfter(land.kinds[t], start, now.hours + k, now.hours + n, now.eclipseEnd());
            if (end == v) {
                return start;
            }
        }
        return NONE;
    }

    public int agreed(int t) {
        if (t == NONE) {
            return land.mostMet();
        }
        return isThing(t) ? land.favourite(t) : UNKNOWN;
    }

    public int against(int h, int k) {
        if (!isHeir(h) || !isHeir(k) || h == k) {
            return UNKNOWN;
        }
        int pairs = 0;
        for (int a = 0; a < land.wantCount; a++) {
            for (int b = 0; b < land.wantCount; b++) {
                if (land.wantHeirs[a] == h && land.wantHeirs[b] == k && land.areUnlike(a, b)) {
                    pairs++;
                }
            }
        }
        return pairs;
    }

    public int movers(int t, int x, int n) {
        if (!isThing(t)) {
            return UNKNOWN;
        }
        if (!isValue(x) || !isWithin(n, 0, MOST_NEAR)) {
            return OUTSIDE;
        }
        if (n > now.hours) {
            return NOT;
        }
        int since = now.hours - n;
        if (land.valueAfter(land.kinds[t], x, since, now.hours, 0) == now.values[t]) {
            return 0;
        }
        int heirs = 0;
        for (int i = since; i < now.hours; i++) {
            heirs |= 1 << land.holderByLight(i);
        }
        return heirs;
    }

    public int poorest(int what) {
        if (!isWithin(what, 0, 1)) {
            return OUTSIDE;
        }
        if (!land.exists) {
            return NOT;
        }
        int day = land.darkPoorest();
        return what == 0 ? day : land.darkHours(day);
    }

    public int light(int what) {
        if (!isWithin(what, 0, 1)) {
            return OUTSIDE;
        }
        if (!land.exists) {
            return NOT;
        }
        int day = now.hours / DAY;
        return what == 0 ? land.lightFrom(day) : land.lightTo(day);
    }

    public int child(int hour, int e) {
        if (!isWithin(hour, 0, DAY - 1) || !isWithin(e, 0, MOST_CLOCK_ERROR)) {
            return OUTSIDE;
        }
        if (!land.exists) {
            return NOT;
        }
        int midnight = now.hours / DAY * DAY;
        int heirs = 0;
        for (int d = -e; d <= e; d++) {
            heirs |= 1 << land.holderByLight(midnight + (hour + d + DAY) % DAY);
        }
        return heirs;
    }

    public int clear(int n, int q) {
        if (!isWithin(n, 0, MOST_FOG_HOURS) || !isWithin(q, 0, HUNDRED)) {
            return OUTSIDE;
        }
        long odds = BILLION;
        for (int i = 0; i < n; i++) {
            odds = odds * q / HUNDRED;
        }
        return (int) odds;
    }

    // ---- what was found

    public int find(int t, int v, boolean is) {
        if (!isThing(t)) {
            return UNKNOWN;
        }
        if (!isValue(v)) {
            return OUTSIDE;
        }
        if (finds.count >= MOST_FOUND) {
            return FULL;
        }
        finds.add(t, v, is);
        return finds.count;
    }

    public int fits(int what) {
        if (!isWithin(what, 0, 1)) {
            return OUTSIDE;
        }
        return what == 0 ? finds.fitCount(land, now) : finds.leastFit(land, now);
    }

    public int lookAt() {
        // What leaves all in one part tells nothing, so a thing has to do better than that.
        int smallest = finds.fitCount(land, now);
        int best = NONE;
        for (int t = 0; t < land.thingCount; t++) {
            int part = finds.greatestPart(land, now, t);
            if (part < smallest) {
                smallest = part;
                best = t;
            }
        }
        return best;
    }

    public int write(int t, int v) {
        if (!isThing(t)) {
            return UNKNOWN;
        }
        if (!isValue(v)) {
            return OUTSIDE;
        }
        if (book.count >= MOST_WRITTEN) {
            return FULL;
        }
        book.add(t, v);
        return book.count;
    }

    public int judge() {
        return book.firstWrong(now);
    }

    public int tear() {
        int had = finds.count + book.count;
        finds.count = 0;
        book.count = 0;
        return had;
    }

    // ---- images

    public int seed(int v) {
        if (v < 0) {
            return OUTSIDE;
        }
        int before = lot;
        lot = v;
        return before;
    }

    public int keep(int i) {
        if (!isImage(i)) {
            return UNKNOWN;
        }
        images[i].copyOf(now);
        imageSeeds[i] = lot;
        imageKept[i] = true;
        past.forget();
        return 1;
    }

    public int goBack(int i) {
        if (!isImage(i)) {
            return UNKNOWN;
        }
        if (!imageKept[i]) {
            return NOT;
        }
        now.copyOf(images[i]);
        lot = imageSeeds[i];
        past.forget();
        return 1;
    }

    // ---- what there is

    private static boolean isWithin(int x, int least, int most) {
        return x >= least && x <= most;
    }

    private static boolean isHeir(int h) {
        return h >= 0 && h < HEIRS;
    }

    private static boolean isValue(int v) {
        return v >= 0 && v < VALUES;
    }

    private static boolean isImage(int i) {
        return i >= 0 && i < IMAGES;
    }

    private boolean isThing(int t) {
        return t >= 0 && t < land.thingCount;
    }

    /** The text as it has been fed. */
    private static final class Script {
        private final int[] letters = new int[MOST_LETTERS];
        private int length;

        void add(int letter) {
            if (length < MOST_LETTERS) {
                letters[length] = letter;
                length++;
            }
        }

        /** The letter at a place; NONE behind the end. */
        int letterAt(int place) {
            return place >= 0 && place < length ? letters[place] : NONE;
        }
    }

    /** What the text tells, which no deed changes: the almanac, kinds, rents, wants. */
    private static final class County {
        private boolean exists;
        private int sunrise;
        private int dark;
        private int rent;
        private int seasonCount;
        private int thingCount;
        private int landCount;
        private int wantCount;
        private final int[] seasons = new int[MOST_SEASONS];
        private final int[] kinds = new int[MOST_THINGS];
        private final int[] firstValues = new int[MOST_THINGS];
        private final int[] wantHeirs = new int[MOST_WANTS];
        private final int[] wantThings = new int[MOST_WANTS];
        private final int[] wantValues = new int[MOST_WANTS];

        void empty() {
            exists = false;
            sunrise = 0;
            dark = 0;
            rent = 0;
            seasonCount = 0;
            thingCount = 0;
            landCount = 0;
            wantCount = 0;
        }

        /** Whether one more clause of this word may come. */
        boolean hasRoomFor(int word) {
            switch (word) {
                case 'c':
                    return !exists;
                case 's':
                    return seasonCount == 0;
                case 't':
                    return thingCount < MOST_THINGS;
                case 'l':
                    return landCount < MOST_LANDS;
                default:
                    return wantCount < MOST_WANTS;
            }
        }

        void addDay(int light, int night) {
            exists = true;
            sunrise = light;
            dark = night;
        }

        void addSeason(int x) {
            if (seasonCount < MOST_SEASONS) {
                seasons[seasonCount] = x;
                seasonCount++;
            }
        }

        void addThing(int kind, int value) {
            if (thingCount < MOST_THINGS) {
                kinds[thingCount] = kind;
                firstValues[thingCount] = value;
                thingCount++;
            }
        }

        void addLand(int rentOfIt) {
            rent += rentOfIt;
            landCount++;
        }

        void addWant(int h, int t, int v) {
            if (wantCount < MOST_WANTS) {
                wantHeirs[wantCount] = h;
                wantThings[wantCount] = t;
                wantValues[wantCount] = v;
                wantCount++;
            }
        }

        private int seasonOf(int day) {
            return seasonCount > 0 && day >= 0 ? seasons[day % seasonCount] : MIDDLE_SEASON;
        }

        int lightFrom(int day) {
            int from = sunrise + MIDDLE_SEASON - seasonOf(day);
            return Math.max(EARLIEST_LIGHT, Math.min(LATEST_LIGHT, from));
        }

        int lightTo(int day) {
            int to = dark + seasonOf(day) - MIDDLE_SEASON;
            return Math.max(EARLIEST_DARK, Math.min(LATEST_DARK, to));
        }

        int darkHours(int day) {
            return DAY - lightTo(day) + lightFrom(day);
        }

        int darkPoorest() {
            int day = 0;
            for (int i = 1; i < seasonCount; i++) {
                if (darkHours(i) < darkHours(day)) {
                    day = i;
                }
            }
            return day;
        }

        /** The heir of an hour, all hours counted from 0, as if there were no eclipse. */
        int holderByLight(int number) {
            int day = number / DAY;
            int hourOfDay = number % DAY;
            if (hourOfDay < lightFrom(day) || hourOfDay >= lightTo(day)) {
                return DARK_HEIR;
            }
            return hourOfDay < NOON ? 0 : 1;
        }

        /** What a value is behind one hour that is an heir's. */
        static int behindHour(int kind, int value, int number, int h) {
            switch (kind) {
                case HEDGE:
                    return number % 3 == 0 && h != DARK_HEIR ? Math.min(VALUES - 1, value + 1) : value;
                case CANDLE:
                    return h == DARK_HEIR ? Math.max(0, value - 1) : value;
                case MUSIC:
                    return number % DAY == NOON ? 0 : value;
                default:
                    return value;
            }
        }

        /** What a value becomes from one hour on to another (without this), if nobody sets it. */
        int valueAfter(int kind, int value, int from, int to, int eclipseEnd) {
            int v = value;
            for (int i = from; i < to; i++) {
                int h = i < eclipseEnd ? DARK_HEIR : holderByLight(i);
                v = behindHour(kind, v, i, h);
            }
            return v;
        }

        int wantsOf(int h) {
            int sum = 0;
            for (int w = 0; w < wantCount; w++) {
                if (wantHeirs[w] == h) {
                    sum++;
                }
            }
            return sum;
        }

        private int voices(int t, int v) {
            int sum = 0;
            for (int w = 0; w < wantCount; w++) {
                if (wantThings[w] == t && wantValues[w] == v) {
                    sum++;
                }
            }
            return sum;
        }

        /** The least of the values that most wants ask of a thing; NONE if nobody wants it. */
        int favourite(int t) {
            int best = NONE;
            int most = 0;
            for (int v = 0; v < VALUES; v++) {
                int sum = voices(t, v);
                if (sum > most) {
                    most = sum;
                    best = v;
                }
            }
            return best;
        }

        int mostMet() {
            int sum = 0;
            for (int t = 0; t < thingCount; t++) {
                sum += voices(t, favourite(t));
            }
            return sum;
        }

        boolean areUnlike(int a, int b) {
            return wantThings[a] == wantThings[b] && wantValues[a] != wantValues[b];
        }
    }

    /** Reads a text into a county and tells the first fault. */
    private static final class Reader {
        private final Script script;
        // Read apart from the county that stands, so that a text with a fault leaves that as it was.
        private County draft = new County();
        private int at;
        private int blame;
        private int place;

        Reader(Script text) {
            script = text;
        }

        /** Gives the county that was read for one that is no longer needed. */
        County exchange(County old) {
            County read = draft;
            draft = old;
            return read;
        }

        /** True if the text has no fault; a text without words tells that there is no county. */
        boolean readAll() {
            at = 0;
            blame = 0;
            place = NONE;
            draft.empty();
            skipBlanks();
            // Each clause takes a letter or more, so there are no more of them than letters.
            for (int i = 0; i < MOST_LETTERS && blame == 0 && at < script.length; i++) {
                readClause();
                skipBlanks();
            }
            return blame == 0;
        }

        private void accuse(int kind, int where) {
            if (blame == 0) {
                blame = kind;
                place = where;
            }
        }

        private void skipBlanks() {
            while (at < script.length && script.letterAt(at) == ' ') {
                at++;
            }
        }

        private static boolean isWord(int letter) {
            return letter == 'c' || letter == 's' || letter == 't' || letter == 'l' || letter == 'w';
        }

        private static boolean isFigure(int letter) {
            return letter >= '0' && letter <= '9';
        }

        private void readClause() {
            int word = script.letterAt(at);
            if (!isWord(word) || !draft.exists && word != 'c') {
                accuse(MISPLACED, at);
                return;
            }
            if (!draft.hasRoomFor(word)) {
                accuse(TOO_MANY, at);
                return;
            }
            at++;
            switch (word) {
                case 'c':
                    readDay();
                    break;
                case 's':
                    readSeasons();
                    break;
                case 't':
                    readThing();
                    break;
                case 'l':
                    readLand();
                    break;
                default:
                    readWant();
                    break;
            }
            readEnd();
        }

        private void readDay() {
            int light = readNumber(EARLIEST_LIGHT, LATEST_LIGHT);
            int night = readNumber(EARLIEST_DARK, LATEST_DARK);
            draft.addDay(light, night);
        }

        private void readSeasons() {
            for (int i = 0; i < MOST_SEASONS; i++) {
                draft.addSeason(readNumber(0, LAST_SEASON));
                skipBlanks();
                // Behind the last number a ',' stays, so that the clause's end finds it as the fault.
                if (blame != 0 || i == MOST_SEASONS - 1 || script.letterAt(at) != ',') {
                    return;
                }
                at++;
            }
        }

        private void readThing() {
            int kind = readNumber(HEDGE, MUSIC);
            int value = readNumber(0, VALUES - 1);
            draft.addThing(kind, value);
        }

        private void readLand() {
            draft.addLand(readNumber(1, MOST_RENT));
        }

        private void readWant() {
            int h = readNumber(0, HEIRS - 1);
            int t = readNumber(0, draft.thingCount - 1);
            int v = readNumber(0, VALUES - 1);
            draft.addWant(h, t, v);
        }

        private void readEnd() {
            skipBlanks();
            if (script.letterAt(at) == ';') {
                at++;
            } else {
                accuse(MISPLACED, at);
            }
        }

        /** The number that comes here; a fault, if none does or it is out of its bounds. */
        private int readNumber(int least, int most) {
            skipBlanks();
            int first = at;
            int number = 0;
            while (at < script.length && isFigure(script.letterAt(at))) {
                if (at - first < 3) {
                    number = number * 10 + script.letterAt(at) - '0';
                }
                at++;
            }
            if (at == first) {
                accuse(MISPLACED, first);
            } else if (at - first > 3 || !isWithin(number, least, most)) {
                accuse(BAD_NUMBER, first);
            }
            return number;
        }
    }

    /** All that deeds change, and that is undone and kept in images. */
    private static final class Estate {
        private int hours;
        private int eclipseHours;
        private int logCount;
        private final int[] purses = new int[HEIRS];
        private final int[] angers = new int[HEIRS];
        private final int[] values = new int[MOST_THINGS];
        private final int[] knownValues = new int[HEIRS * MOST_THINGS];
        // The latest comes first, so that an entry stands where its number says.
        private final int[] log = new int[MOST_LOGGED * LOG_FIELDS];

        void begin(County land) {
            hours = 0;
            eclipseHours = 0;
            logCount = 0;
            for (int h = 0; h < HEIRS; h++) {
                purses[h] = 0;
                angers[h] = 0;
            }
            for (int t = 0; t < MOST_THINGS; t++) {
                values[t] = t < land.thingCount ? land.firstValues[t] : 0;
            }
            for (int i = 0; i < HEIRS * MOST_THINGS; i++) {
                knownValues[i] = NONE;
            }
        }

        void copyOf(Estate other) {
            hours = other.hours;
            eclipseHours = other.eclipseHours;
            logCount = other.logCount;
            System.arraycopy(other.purses, 0, purses, 0, HEIRS);
            System.arraycopy(other.angers, 0, angers, 0, HEIRS);
            System.arraycopy(other.values, 0, values, 0, MOST_THINGS);
            System.arraycopy(other.knownValues, 0, knownValues, 0, HEIRS * MOST_THINGS);
            System.arraycopy(other.log, 0, log, 0, MOST_LOGGED * LOG_FIELDS);
        }

        /** The number of the first hour behind the eclipse. */
        int eclipseEnd() {
            return hours + eclipseHours;
        }

        /** The heir of the hour n hours on; NONE without a county. */
        int holderIn(County land, int n) {
            if (!land.exists) {
                return NONE;
            }
            return n < eclipseHours ? DARK_HEIR : land.holderByLight(hours + n);
        }

        void passHour(County land) {
            int h = holderIn(land, 0);
            if (!isHeir(h)) {
                return;
            }
            purses[h] = Math.min(MOST_HELD, purses[h] + land.rent);
            angers[h] = Math.min(MOST_HELD, angers[h] + unmetWants(land, h));
            for (int t = 0; t < land.thingCount; t++) {
                knownValues[h * MOST_THINGS + t] = values[t];
                values[t] = County.behindHour(land.kinds[t], values[t], hours, h);
            }
            if (eclipseHours > 0) {
                eclipseHours--;
            }
            hours++;
        }

        void setThing(County land, int t, int v) {
            values[t] = v;
            System.arraycopy(log, 0, log, LOG_FIELDS, (MOST_LOGGED - 1) * LOG_FIELDS);
            log[0] = hours;
            log[1] = holderIn(land, 0);
            log[2] = t;
            log[3] = v;
            logCount = Math.min(MOST_LOGGED, logCount + 1);
        }

        private boolean isMet(County land, int w) {
            return values[land.wantThings[w]] == land.wantValues[w];
        }

        private int unmetWants(County land, int h) {
            int sum = 0;
            for (int w = 0; w < land.wantCount; w++) {
                if (land.wantHeirs[w] == h && !isMet(land, w)) {
                    sum++;
                }
            }
            return sum;
        }

        int metWants(County land) {
            int set = 0;
            for (int w = 0; w < land.wantCount; w++) {
                if (isMet(land, w)) {
                    set |= 1 << w;
                }
            }
            return set;
        }

        int wrongAbout(County land, int h) {
            int set = 0;
            for (int t = 0; t < land.thingCount; t++) {
                if (knownValues[h * MOST_THINGS + t] != values[t]) {
                    set |= 1 << t;
                }
            }
            return set;
        }

        int notesNeeded(County land) {
            int holder = holderIn(land, 0);
            int sum = 0;
            for (int h = 0; h < HEIRS; h++) {
                if (h != holder) {
                    sum += Integer.bitCount(wrongAbout(land, h));
                }
            }
            return sum;
        }

        int envy() {
            int most = Math.max(purses[0], Math.max(purses[1], purses[2]));
            int least = Math.min(purses[0], Math.min(purses[1], purses[2]));
            return most - least;
        }
    }

    /** How all was ahead of each of the latest deeds. */
    private static final class Past {
        private final Estate[] ahead = new Estate[MOST_UNDONE];
        private int first;
        private int count;

        Past() {
            for (int i = 0; i < MOST_UNDONE; i++) {
                ahead[i] = new Estate();
            }
        }

        void forget() {
            first = 0;
            count = 0;
        }

        void remember(Estate now) {
            ahead[(first + count) % MOST_UNDONE].copyOf(now);
            if (count < MOST_UNDONE) {
                count++;
            } else {
                first = (first + 1) % MOST_UNDONE;
            }
        }

        void bringBack(int n, Estate now) {
            if (isWithin(n, 1, count)) {
                count -= n;
                now.copyOf(ahead[(first + count) % MOST_UNDONE]);
            }
        }
    }

    /** What is found, and which settings of one thing fit it. */
    private static final class Finds {
        private final int[] things = new int[MOST_FOUND];
        private final int[] values = new int[MOST_FOUND];
        private final boolean[] are = new boolean[MOST_FOUND];
        private final int[] parts = new int[VALUES];
        private int count;

        void add(int t, int v, boolean is) {
            if (count < MOST_FOUND) {
                things[count] = t;
                values[count] = v;
                are[count] = is;
                count++;
            }
        }

        /** The value of a thing, if the moved one was set to v. */
        private static int seen(Estate now, int t, int moved, int v) {
            return t == moved ? v : now.values[t];
        }

        private boolean fit(Estate now, int moved, int v) {
            for (int i = 0; i < count; i++) {
                boolean isSo = seen(now, things[i], moved, v) == values[i];
                if (isSo != are[i]) {
                    return false;
                }
            }
            return true;
        }

        int fitCount(County land, Estate now) {
            int sum = 0;
            for (int pair = 0; pair < land.thingCount * VALUES; pair++) {
                if (fit(now, pair / VALUES, pair % VALUES)) {
                    sum++;
                }
            }
            return sum;
        }

        int leastFit(County land, Estate now) {
            for (int pair = 0; pair < land.thingCount * VALUES; pair++) {
                if (fit(now, pair / VALUES, pair % VALUES)) {
                    return pair;
                }
            }
            return NONE;
        }

        /** How many of what fits are alike at most, when thing t is looked at. */
        int greatestPart(County land, Estate now, int t) {
            for (int v = 0; v < VALUES; v++) {
                parts[v] = 0;
            }
            int most = 0;
            for (int pair = 0; pair < land.thingCount * VALUES; pair++) {
                int moved = pair / VALUES;
                int v = pair % VALUES;
                int sight = seen(now, t, moved, v);
                if (isValue(sight) && fit(now, moved, v)) {
                    parts[sight]++;
                    most = Math.max(most, parts[sight]);
                }
            }
            return most;
        }
    }

    /** The inventory that is judged. */
    private static final class Book {
        private final int[] things = new int[MOST_WRITTEN];
        private final int[] values = new int[MOST_WRITTEN];
        private int count;

        void add(int t, int v) {
            if (count < MOST_WRITTEN) {
                things[count] = t;
                values[count] = v;
                count++;
            }
        }

        int firstWrong(Estate now) {
            for (int i = 0; i < count; i++) {
                if (now.values[things[i]] != values[i]) {
                    return i;
                }
            }
            return NONE;
        }
    }
}
