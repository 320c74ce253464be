/** Boys who shine shoes at a corner; the document ../shared/DOC.md says what each call promises. */
public final class ShoeCorner {
    public static final int BAD = -1000000001, NO = -1000000002, FULL = -1000000003, NONE = -1000000005,
            NOTHING = -1000000011, KIND = -1000000012, INDEX = -1000000013, SIZE = -1000000014;

    private static final int MOST_BOYS = 8, MOST_TEXTS = 14, MOST_WAITING = 60, TAPE_BYTES = 96, FED_BYTES = 12;
    private static final int SHEETS = 4, MOST_PLACES = 24, SLOTS = 5, MOST_IN_FLOATS = 99999;
    private static final int LAST_MINUTE = 9999, MOST_MINUTES = 300, MOST_THOUGHT = 60, MOST_CHECKED = 30;
    private static final int STREET_PLACES = 10, MOST_DIRT = 9, MOST_HASTE = 9, MOST_PRICE = 99, MOST_RUBS = 20,
            MOST_SHINE_RUBS = 40, MOST_PRICE_THOUGHT = 40, MOST_SHARE = 99, MOST_RAIN = 100;

    private static final int PLAIN = 0, QUICK = 1, GRAND = 2, TWO_HANDED = 3, MIRROR = 4, TRICKSTER = 5, KINDS = 6;
    private static final int PLACE = 1, PRICE = 2, RUBS = 3;
    private static final int OF_SHINE = 0, OF_FEE = 1, OF_FINE = 2, KEYS = 3;
    private static final int MISSING = -1, SHORTS = 0, FLOATS = 1;
    private static final int HOLDS_NOTHING = 0, HOLDS_BOY = 1, HOLDS_SHEET = 2, HOLDS_NUMBER = 3;

    // One text more than may be told: the place at textCount is always free to read the tape into.
    private final Text[] texts = new Text[MOST_TEXTS + 1];
    private final Tape tape = new Tape();
    private final Street now = new Street();
    private final Street image = new Street();
    private final Street thought = new Street();
    private final Sheet[] sheets = new Sheet[SHEETS];
    private final Slot[] slots = new Slot[SLOTS];
    private final int[] waiting = new int[MOST_WAITING];
    private int waitingCount = 0;
    private boolean imageKept = false;

    public ShoeCorner() {
        int[] stack = new int[TAPE_BYTES];
        for (int i = 0; i < texts.length; i++) {
            texts[i] = new Text(i, stack);
        }
        for (int i = 0; i < sheets.length; i++) {
            sheets[i] = new Sheet();
        }
        for (int i = 0; i < slots.length; i++) {
            slots[i] = new Slot();
        }
    }

    // ---- boys

    public int boy(int kind, int place, int price, int rubs) {
        if (!isKind(kind) || !Boy.mayBe(PLACE, place) || !Boy.mayBe(PRICE, price) || !Boy.mayBe(RUBS, rubs)) {
            return BAD;
        }
        if (now.boyCount >= MOST_BOYS) {
            return FULL;
        }
        now.addBoy(kind, place, price, rubs);
        return now.boyCount - 1;
    }

    public int told(int boy, int what) {
        if (!isBoy(boy) || what < 0 || what > 9) {
            return BAD;
        }
        return now.boys[boy].fact(what);
    }

    public int shine(int boy, int r, int d) {
        if (!isBoy(boy) || r < 0 || r > MOST_SHINE_RUBS || d < 0 || d > MOST_DIRT) {
            return BAD;
        }
        return now.shineOf(now.boys[boy], r, d);
    }

    public int as(int boy, int kind) {
        if (!isBoy(boy) || !isKind(kind)) {
            return BAD;
        }
        Boy one = now.boys[boy];
        return Kinds.isUnder(one.kind, kind) ? one.price : KIND;
    }

    public int turns(int boy, int kind) {
        if (!isBoy(boy) || !isKind(kind)) {
            return BAD;
        }
        int was = now.boys[boy].kind;
        now.boys[boy].kind = kind;
        return was;
    }

    public int set(int boy, int what, int v) {
        if (!isBoy(boy) || !Boy.mayBe(what, v)) {
            return BAD;
        }
        int was = now.boys[boy].fact(what);
        now.boys[boy].change(what, v);
        return was;
    }

    public int deal(int n) {
        if (n < 1 || n > MOST_BOYS) {
            return BAD;
        }
        int coming = Math.min(n, MOST_BOYS - now.boyCount);
        for (int i = 0; i < coming; i++) {
            now.drawBoy();
        }
        return coming;
    }

    public int seed(int v) {
        int was = now.z;
        now.z = v;
        return was;
    }

    // ---- minutes

    public int rule(int what, int v) {
        if (v < 0) {
            return BAD;
        }
        if (what == 0 && v <= MOST_SHARE) {
            int was = now.share;
            now.share = v;
            return was;
        }
        if (what == 1 && v <= MOST_RAIN) {
            int was = now.rain;
            now.rain = v;
            return was;
        }
        if (what == 2 && v <= 1) {
            int was = now.wet ? 1 : 0;
            now.wet = v == 1;
            return was;
        }
        return BAD;
    }

    public int minutes(int n) {
        if (n < 1 || n > MOST_MINUTES) {
            return BAD;
        }
        return now.passMinutes(Math.min(n, LAST_MINUTE - now.minute));
    }

    public int street(int what) {
        switch (what) {
            case 0: return now.purses();
            case 1: return now.owner;
            case 2: return now.lost;
            case 3: return now.menDone();
            case 4: return now.busyBoys();
            default: return BAD;
        }
    }

    public int goesTo(int place, int h) {
        if (place < 0 || place >= STREET_PLACES || h < 1 || h > MOST_HASTE) {
            return BAD;
        }
        int chosen = now.chosenBoy(place, h);
        return chosen < 0 ? NONE : chosen;
    }

    // ---- what will be

    public int behind(int n, int what) {
        if (n < 0 || n > MOST_MINUTES || what < 0 || what >= 3 + now.boyCount) {
            return BAD;
        }
        thought.become(now);
        thought.passMinutes(n);
        switch (what) {
            case 0: return thought.purses();
            case 1: return thought.owner;
            case 2: return thought.lost;
            default: return thought.boys[what - 3].purse;
        }
    }

    public int best(int boy, int which, int n, int what) {
        if (!isBoy(boy) || which < 0 || which > 2 || !mayBeThought(n) || what < 0 || what > 1) {
            return BAD;
        }
        int first = which == 1 ? 0 : 1;
        int last = which == 0 ? MOST_RUBS : which == 1 ? STREET_PLACES - 1 : MOST_PRICE_THOUGHT;
        int fact = which == 0 ? RUBS : which == 1 ? PLACE : PRICE;
        int best = first;
        int most = 0;
        for (int v = first; v <= last; v++) {
            thought.become(now);
            thought.boys[boy].change(fact, v);
            thought.passMinutes(n);
            int purse = thought.boys[boy].purse;
            if (v == first || purse > most) {
                best = v;
                most = purse;
            }
        }
        return what == 0 ? best : most;
    }

    public int bestShare(int n, int what) {
        if (!mayBeThought(n) || what < 0 || what > 1) {
            return BAD;
        }
        int best = 0;
        int most = 0;
        for (int share = 0; share <= MOST_SHARE; share++) {
            thought.become(now);
            thought.share = share;
            thought.passMinutes(n);
            if (share == 0 || thought.owner > most) {
                best = share;
                most = thought.owner;
            }
        }
        return what == 0 ? best : most;
    }

    public int sentAway(int n, int what) {
        if (!mayBeThought(n) || what < 0 || what > 1) {
            return BAD;
        }
        if (now.boyCount == 0) {
            return NONE;
        }
        int best = 0;
        int most = 0;
        for (int boy = 0; boy < now.boyCount; boy++) {
            thought.become(now);
            thought.away = boy;
            thought.passMinutes(n);
            int purses = thought.purses();
            if (boy == 0 || purses > most) {
                best = boy;
                most = purses;
            }
        }
        return what == 0 ? best : most;
    }

    public int dry(int n) {
        if (!mayBeThought(n)) {
            return BAD;
        }
        thought.become(now);
        thought.passMinutes(n);
        int asItIs = thought.purses();
        thought.become(now);
        thought.wet = false;
        thought.rain = 0;
        thought.passMinutes(n);
        return thought.purses() - asItIs;
    }

    public int shone(int sheet, int what) {
        if (!isSheet(sheet) || what < 0 || what > 1) {
            return BAD;
        }
        if (sheets[sheet].isMissing()) {
            return NOTHING;
        }
        if (now.boyCount == 0) {
            return NONE;
        }
        int best = 0;
        int least = 0;
        for (int boy = 0; boy < now.boyCount; boy++) {
            int differences = differences(now.boys[boy], sheets[sheet]);
            if (boy == 0 || differences < least) {
                best = boy;
                least = differences;
            }
        }
        return what == 0 ? best : least;
    }

    public int fee() {
        Text law = now.law(OF_FEE);
        return law == null ? now.lost : law.value(now.lost, now.owner, 0);
    }

    public int fine(int boy) {
        if (!isBoy(boy)) {
            return BAD;
        }
        Boy one = now.boys[boy];
        Text law = now.law(OF_FINE);
        return law == null ? one.purse : law.value(one.purse, one.done, 0);
    }

    // ---- texts

    public int feed(int a, int b, int c) {
        if (tape.count + FED_BYTES > TAPE_BYTES) {
            return FULL;
        }
        tape.addNumber(a);
        tape.addNumber(b);
        tape.addNumber(c);
        return tape.count;
    }

    public int trim(int n) {
        if (n < 0 || n > tape.count) {
            return BAD;
        }
        tape.count = n;
        return n;
    }

    public int text() {
        // It is at most MOST_TEXTS, and texts has one place more.
        Text free = texts[Math.min(now.textCount, MOST_TEXTS)];
        int fault = tape.useUp(free);
        if (fault >= 0) {
            return -100 - fault;
        }
        if (now.textCount >= MOST_TEXTS) {
            return FULL;
        }
        now.countText(free);
        return free.number;
    }

    public int textTold(int text, int what) {
        if (text < 0 || text >= now.textCount || what < 0 || what > 1) {
            return BAD;
        }
        return what == 0 ? texts[text].key : texts[text].operands;
    }

    public int why(int key) {
        if (key < 0 || key >= KEYS) {
            return BAD;
        }
        Text law = now.law(key);
        return law == null ? NONE : law.number;
    }

    // ---- sheets, slots

    public int sheet(int sheet, int sort, int n) {
        if (!isSheet(sheet) || sort < MISSING || sort > FLOATS) {
            return BAD;
        }
        if (sort == MISSING) {
            sheets[sheet].renew(MISSING, 0);
            return 0;
        }
        if (n > MOST_PLACES) {
            return BAD;
        }
        if (n < 0) {
            return SIZE;
        }
        sheets[sheet].renew(sort, n);
        return n;
    }

    public int mark(int sheet, int place, int v) {
        if (!isSheet(sheet)) {
            return BAD;
        }
        Sheet row = sheets[sheet];
        if (row.isMissing()) {
            return NOTHING;
        }
        if (!row.hasPlace(place)) {
            return INDEX;
        }
        if (row.sort == SHORTS) {
            if (v == NONE) {
                return KIND;
            }
            row.places[place] = (short) v;
            return 1;
        }
        if (v != NONE && (v < -MOST_IN_FLOATS || v > MOST_IN_FLOATS)) {
            return BAD;
        }
        row.places[place] = v;
        return 1;
    }

    public int pour(int sheet) {
        if (!isSheet(sheet)) {
            return BAD;
        }
        Sheet row = sheets[sheet];
        if (row.isMissing()) {
            return NOTHING;
        }
        int changed = 0;
        for (int i = 0; i < now.boyCount; i++) {
            if (row.hasNumber(i)) {
                int price = Math.max(1, Math.min(MOST_PRICE, row.places[i]));
                if (price != now.boys[i].price) {
                    changed++;
                }
                now.boys[i].price = price;
            }
        }
        return changed;
    }

    public int reads(int sheet) {
        if (!isSheet(sheet)) {
            return BAD;
        }
        Sheet row = sheets[sheet];
        if (row.isMissing()) {
            return NOTHING;
        }
        for (int i = 0; i < row.count; i++) {
            if (row.hasNumber(i) && (!isBoy(i) || row.places[i] != now.boys[i].purse)) {
                return i;
            }
        }
        return NONE;
    }

    public int copy(int from, int place, int to, int at, int many) {
        if (!isSheet(from) || !isSheet(to)) {
            return BAD;
        }
        Sheet source = sheets[from];
        Sheet target = sheets[to];
        if (source.isMissing() || target.isMissing()) {
            return NOTHING;
        }
        if (source.sort != target.sort) {
            return KIND;
        }
        if (!source.hasPlaces(place, many) || !target.hasPlaces(at, many)) {
            return INDEX;
        }
        System.arraycopy(source.places, place, target.places, at, many);
        return many;
    }

    public int lay(int slot, int thing, int k) {
        if (!isSlot(slot) || thing < HOLDS_NOTHING || thing > HOLDS_NUMBER) {
            return BAD;
        }
        if (thing == HOLDS_BOY && !isBoy(k) || thing == HOLDS_SHEET && !isSheet(k)) {
            return BAD;
        }
        if (thing == HOLDS_SHEET && sheets[k].isMissing()) {
            return NOTHING;
        }
        Slot place = slots[slot];
        int held = place.thing;
        place.thing = thing;
        if (thing == HOLDS_BOY) {
            place.boy.become(now.boys[k]);
        } else if (thing == HOLDS_SHEET) {
            place.sheet.become(sheets[k]);
        } else if (thing == HOLDS_NUMBER) {
            place.number = k;
        }
        return held;
    }

    public int ask(int slot, int kind) {
        if (!isSlot(slot) || !isKind(kind)) {
            return BAD;
        }
        int finding = slots[slot].findingFor(HOLDS_BOY);
        if (finding != 0) {
            return finding;
        }
        Boy held = slots[slot].boy;
        return Kinds.isUnder(held.kind, kind) ? Kinds.worth(held.kind, held.price) : KIND;
    }

    public int item(int slot, int place) {
        if (!isSlot(slot)) {
            return BAD;
        }
        int finding = slots[slot].findingFor(HOLDS_SHEET);
        if (finding != 0) {
            return finding;
        }
        Sheet held = slots[slot].sheet;
        if (!held.hasPlace(place)) {
            return INDEX;
        }
        return held.hasNumber(place) ? held.places[place] : KIND;
    }

    public int rest(int slot, int n) {
        if (!isSlot(slot)) {
            return BAD;
        }
        int finding = slots[slot].findingFor(HOLDS_NUMBER);
        if (finding != 0) {
            return finding;
        }
        return n == 0 ? NO : slots[slot].number % n;
    }

    // ---- rows, images

    public int tell(int v) {
        if (waitingCount >= waiting.length) {
            return FULL;
        }
        waiting[waitingCount] = v;
        waitingCount++;
        return waitingCount;
    }

    public int check(int n) {
        int told = waitingCount;
        waitingCount = 0;
        if (n < 1 || n > MOST_CHECKED) {
            return BAD;
        }
        if (!imageKept) {
            return NO;
        }
        thought.become(image);
        int checked = Math.min(n, LAST_MINUTE - image.minute);
        for (int i = 0; i < checked; i++) {
            thought.passMinute();
            if (!waits(2 * i, told, thought.purses())) {
                return 1 + 2 * i;
            }
            if (!waits(2 * i + 1, told, thought.lost)) {
                return 2 + 2 * i;
            }
        }
        return told > 2 * checked ? 1 + 2 * checked : 0;
    }

    public int keep() {
        image.become(now);
        imageKept = true;
        return image.boyCount;
    }

    public int back() {
        if (!imageKept) {
            return NO;
        }
        now.become(image);
        return now.boyCount;
    }

    public int count(int what) {
        switch (what) {
            case 0: return now.boyCount;
            case 1: return now.minute;
            case 2: return now.share;
            case 3: return now.rain;
            case 4: return now.wet ? 1 : 0;
            case 5: return now.textCount;
            case 6: return waitingCount;
            case 7: return tape.count;
            case 8: return now.z;
            default: return BAD;
        }
    }

    private boolean isBoy(int boy) {
        return boy >= 0 && boy < now.boyCount;
    }

    private static boolean isKind(int kind) {
        return kind >= 0 && kind < KINDS;
    }

    private static boolean isSheet(int sheet) {
        return sheet >= 0 && sheet < SHEETS;
    }

    private static boolean isSlot(int slot) {
        return slot >= 0 && slot < SLOTS;
    }

    private static boolean mayBeThought(int n) {
        return n >= 1 && n <= MOST_THOUGHT;
    }

    private int differences(Boy boy, Sheet row) {
        int sum = 0;
        for (int k = 0; k < row.count; k++) {
            if (row.hasNumber(k)) {
                sum += Math.abs(now.shineOf(boy, k, 0) - row.places[k]);
            }
        }
        return sum;
    }

    private boolean waits(int index, int told, int due) {
        return index < told && index < waiting.length && waiting[index] == due;
    }

    /** What the kinds do otherwise than the kind above them. */
    private static final class Kinds {
        private static final int[] ABOVE = {-1, PLAIN, PLAIN, QUICK, GRAND, PLAIN};

        private Kinds() {
        }

        static boolean isUnder(int kind, int upper) {
            int one = kind;
            for (int step = 0; step < KINDS && one >= 0 && one < ABOVE.length; step++) {
                if (one == upper) {
                    return true;
                }
                one = ABOVE[one];
            }
            return false;
        }

        static int takes(int kind, int rubs) {
            switch (kind) {
                case QUICK: return 1 + rubs / 4;
                case TWO_HANDED: return 1 + rubs / 6;
                case GRAND:
                case MIRROR: return 1 + rubs / 2 + 2;
                default: return 1 + rubs / 2;
            }
        }

        static int asks(int kind, int price) {
            switch (kind) {
                case GRAND: return price + 3;
                case MIRROR: return 2 * (price + 3);
                case TRICKSTER: return Math.max(1, price - 2);
                default: return price;
            }
        }

        static int worth(int kind, int price) {
            switch (kind) {
                case QUICK: return price + 8;
                case TWO_HANDED: return 2 * (price + 8);
                case GRAND: return 99 - price;
                case MIRROR: return 99 - price - 5;
                case TRICKSTER: return 2;
                default: return price;
            }
        }

        /** Plain is what a plain boy would reach by the rubs and on the dirt that count for the kind. */
        static int shineFrom(int kind, int rubs, int plain) {
            switch (kind) {
                case QUICK:
                case TWO_HANDED: return Math.max(0, plain - 5);
                case GRAND: return plain + 10;
                case MIRROR: return rubs > 12 ? (plain + 10) / 2 : plain + 10;
                default: return plain;
            }
        }
    }

    /** A boy; what he is told by has the numbers of told(boy, what). */
    private static final class Boy {
        int kind = PLAIN;
        int place = 0;
        int price = 1;
        int rubs = 1;
        int purse = 0;
        int busy = 0;
        int done = 0;

        Boy() {
        }

        static boolean mayBe(int fact, int v) {
            switch (fact) {
                case PLACE: return v >= 0 && v < STREET_PLACES;
                case PRICE: return v >= 1 && v <= MOST_PRICE;
                case RUBS: return v >= 1 && v <= MOST_RUBS;
                default: return false;
            }
        }

        void change(int fact, int v) {
            if (fact == PLACE) {
                place = v;
            } else if (fact == PRICE) {
                price = v;
            } else if (fact == RUBS) {
                rubs = v;
            }
        }

        void become(Boy other) {
            kind = other.kind;
            place = other.place;
            price = other.price;
            rubs = other.rubs;
            purse = other.purse;
            busy = other.busy;
            done = other.done;
        }

        void start(int kind, int place, int price, int rubs) {
            this.kind = kind;
            this.place = place;
            this.price = price;
            this.rubs = rubs;
            purse = 0;
            busy = 0;
            done = 0;
        }

        int fact(int what) {
            switch (what) {
                case 0: return kind;
                case PLACE: return place;
                case PRICE: return price;
                case RUBS: return rubs;
                case 4: return purse;
                case 5: return busy;
                case 6: return done;
                case 7: return Kinds.takes(kind, rubs);
                case 8: return Kinds.asks(kind, price);
                default: return Kinds.worth(kind, price);
            }
        }
    }

    /** All that an image keeps: the street as it is, as it was kept, or as it is thought. */
    private static final class Street {
        final Boy[] boys = new Boy[MOST_BOYS];
        // The text that counts for each key, null where there is none; a text that is told never changes.
        private final Text[] laws = new Text[KEYS];
        int boyCount = 0;
        int textCount = 0;
        int share = 0;
        int owner = 0;
        int rain = 20;
        int lost = 0;
        int minute = 0;
        int z = 1;
        boolean wet = false;
        // The boy that no man goes to, in thought alone.
        int away = -1;

        Street() {
            for (int i = 0; i < boys.length; i++) {
                boys[i] = new Boy();
            }
        }

        void become(Street other) {
            boyCount = other.boyCount;
            textCount = other.textCount;
            share = other.share;
            owner = other.owner;
            rain = other.rain;
            lost = other.lost;
            minute = other.minute;
            z = other.z;
            wet = other.wet;
            away = -1;
            for (int i = 0; i < boyCount && i < MOST_BOYS; i++) {
                boys[i].become(other.boys[i]);
            }
            for (int i = 0; i < KEYS; i++) {
                laws[i] = other.laws[i];
            }
        }

        void addBoy(int kind, int place, int price, int rubs) {
            if (boyCount < boys.length) {
                boys[boyCount].start(kind, place, price, rubs);
                boyCount++;
            }
        }

        void drawBoy() {
            int kind = draw() % KINDS;
            int place = draw() % STREET_PLACES;
            int price = 1 + draw() % 20;
            int rubs = 1 + draw() % 12;
            addBoy(kind, place, price, rubs);
        }

        void countText(Text text) {
            if (text.key >= 0 && text.key < laws.length) {
                laws[text.key] = text;
                textCount++;
            }
        }

        /** The text that counts for a key, or null. */
        Text law(int key) {
            return key >= 0 && key < laws.length ? laws[key] : null;
        }

        int shineOf(Boy boy, int r, int d) {
            int rubs = boy.kind == TWO_HANDED ? 2 * r : r;
            int dirt = boy.kind == TRICKSTER ? 0 : d;
            Text law = law(OF_SHINE);
            int plain = law == null ? bareShine(rubs, dirt) : law.value(rubs, dirt, boy.place);
            return Kinds.shineFrom(boy.kind, r, Math.max(0, Math.min(999, plain)));
        }

        private static int bareShine(int rubs, int dirt) {
            int divisor = 1 + rubs;
            return divisor < 1 ? 0 : 100 - 60 / divisor - 3 * dirt;
        }

        private int draw() {
            z = z * 1103515245 + 12345;
            return z >>> 8;
        }

        /** How many men were served in them. */
        int passMinutes(int n) {
            int served = 0;
            for (int i = 0; i < n; i++) {
                served += passMinute();
            }
            return served;
        }

        int passMinute() {
            for (int i = 0; i < boyCount; i++) {
                if (boys[i].busy > 0) {
                    boys[i].busy--;
                }
            }
            boolean wasWet = wet;
            if (draw() % 100 < rain) {
                wet = !wet;
            }
            int men = draw() % 3;
            if (wet) {
                men = 0;
            } else if (wasWet) {
                men += 2;
            }
            int served = 0;
            for (int i = 0; i < men; i++) {
                served += receiveMan();
            }
            minute++;
            return served;
        }

        private int receiveMan() {
            int where = draw() % STREET_PLACES;
            int dirt = draw() % 10;
            int haste = 1 + draw() % 9;
            int chosen = chosenBoy(where, haste);
            if (chosen < 0) {
                lost++;
                return 0;
            }
            Boy boy = boys[chosen];
            boy.busy = Kinds.takes(boy.kind, boy.rubs);
            boy.done++;
            int paid = paidTo(boy, shineOf(boy, boy.rubs, dirt));
            int shared = paid * share / 100;
            owner += shared;
            boy.purse += paid - shared;
            return 1;
        }

        private static int paidTo(Boy boy, int shine) {
            if (shine < 30) {
                return 0;
            }
            int asked = Kinds.asks(boy.kind, boy.price);
            return shine >= 90 ? asked + 1 : asked;
        }

        /** The boy that a man goes to, or -1. */
        int chosenBoy(int where, int haste) {
            int chosen = -1;
            int least = 0;
            for (int i = 0; i < boyCount; i++) {
                Boy boy = boys[i];
                if (i == away || boy.busy > 0 || Kinds.takes(boy.kind, boy.rubs) > haste) {
                    continue;
                }
                int cost = Kinds.asks(boy.kind, boy.price) + Math.abs(boy.place - where);
                if (chosen < 0 || cost < least) {
                    chosen = i;
                    least = cost;
                }
            }
            return chosen;
        }

        int purses() {
            int sum = 0;
            for (int i = 0; i < boyCount; i++) {
                sum += boys[i].purse;
            }
            return sum;
        }

        int menDone() {
            int sum = 0;
            for (int i = 0; i < boyCount; i++) {
                sum += boys[i].done;
            }
            return sum;
        }

        int busyBoys() {
            int bits = 0;
            for (int i = 0; i < boyCount; i++) {
                if (boys[i].busy > 0) {
                    bits |= 1 << i;
                }
            }
            return bits;
        }
    }

    /** A law, held as its numbers, names and signs in the order in which they are worked out. */
    private static final class Text {
        // Items: 0 .. 9999 a number, below 0 a name, from SIGNS on a sign.
        private static final int SIGNS = 10000;
        final int number;
        int key = OF_SHINE;
        int operands = 0;
        private int size = 0;
        private final int[] items = new int[TAPE_BYTES];
        // One stack serves all texts: none is worked out within another.
        private final int[] stack;

        Text(int number, int[] stack) {
            this.number = number;
            this.stack = stack;
        }

        void begin(int key) {
            this.key = key;
            operands = 0;
            size = 0;
        }

        void addNumber(int number) {
            addItem(number);
            operands++;
        }

        /** Whether the letter is a name of this key. */
        boolean addName(char letter) {
            int name = namesOf(key).indexOf(letter);
            if (name < 0) {
                return false;
            }
            addItem(-1 - name);
            operands++;
            return true;
        }

        void addSign(int sign) {
            addItem(SIGNS + sign);
        }

        private void addItem(int item) {
            if (size < items.length) {
                items[size] = item;
                size++;
            }
        }

        private static String namesOf(int key) {
            switch (key) {
                case OF_SHINE: return "rdp";
                case OF_FEE: return "ls";
                default: return "pd";
            }
        }

        /** The values of the names come in the order of namesOf. */
        int value(int first, int second, int third) {
            int top = 0;
            for (int i = 0; i < size; i++) {
                int item = items[i];
                if (item == SIGNS + '!') {
                    if (top >= 1) {
                        stack[top - 1] = stack[top - 1] == 0 ? 1 : 0;
                    }
                } else if (item >= SIGNS) {
                    if (top >= 2) {
                        stack[top - 2] = joined(item - SIGNS, stack[top - 2], stack[top - 1]);
                        top--;
                    }
                } else if (top < stack.length) {
                    stack[top] = item >= 0 ? item : item == -1 ? first : item == -2 ? second : third;
                    top++;
                }
            }
            return top > 0 ? stack[0] : 0;
        }

        private static int joined(int sign, int a, int b) {
            switch (sign) {
                case '|': return a != 0 || b != 0 ? 1 : 0;
                case '&': return a != 0 && b != 0 ? 1 : 0;
                case '<': return a < b ? 1 : 0;
                case '=': return a == b ? 1 : 0;
                case '>': return a > b ? 1 : 0;
                case '+': return a + b;
                case '-': return a - b;
                case '*': return a * b;
                default: return b == 0 ? 0 : a / b;
            }
        }
    }

    /** The bytes that wait to become a text, and how they are read, word by word. */
    private static final class Tape {
        private static final int END = 0, WORD = 1, NUMBER = 2, SIGN = 3, GLUED = 4;
        private static final int LOOSEST = 0, TEST = 2, TIGHTEST = 4;
        private static final int MOST_NESTED = 8, MOST_DIGITS = 4;
        int count = 0;
        private final byte[] bytes = new byte[TAPE_BYTES];
        private int end = 0;
        // The word or sign that is read next stands at start and ends ahead of at.
        private int token = END;
        private int start = 0;
        private int at = 0;

        Tape() {
        }

        /** The highest byte first. */
        void addNumber(int number) {
            for (int shift = 24; shift >= 0; shift -= 8) {
                if (count < bytes.length) {
                    bytes[count] = (byte) (number >> shift);
                    count++;
                }
            }
        }

        /** Reads all bytes into the text, and none is left: the place of the fault, or -1. */
        int useUp(Text text) {
            end = count;
            count = 0;
            at = 0;
            step();
            int key = keyRead();
            if (key < 0) {
                return start;
            }
            text.begin(key);
            step();
            if (!expression(text, LOOSEST, 0, 0) || token != END) {
                return start;
            }
            return -1;
        }

        private int keyRead() {
            if (isWord("shine")) {
                return OF_SHINE;
            }
            if (isWord("fee")) {
                return OF_FEE;
            }
            return isWord("fine") ? OF_FINE : -1;
        }

        private boolean isWord(String word) {
            if (token != WORD || at - start != word.length()) {
                return false;
            }
            for (int i = 0; i < word.length(); i++) {
                if (bytes[start + i] != word.charAt(i)) {
                    return false;
                }
            }
            return true;
        }

        /** What is open in parens and bangs is carried, so that the ninth of each is refused. */
        private boolean expression(Text text, int level, int parens, int bangs) {
            if (level > TIGHTEST) {
                return piece(text, parens, bangs);
            }
            if (!expression(text, level + 1, parens, bangs)) {
                return false;
            }
            int most = level == TEST ? 1 : TAPE_BYTES;
            for (int i = 0; i < most && token == SIGN && levelOf(sign()) == level; i++) {
                int sign = sign();
                step();
                if (!expression(text, level + 1, parens, bangs)) {
                    return false;
                }
                text.addSign(sign);
            }
            return true;
        }

        private static int levelOf(int sign) {
            switch (sign) {
                case '|': return LOOSEST;
                case '&': return 1;
                case '<':
                case '=':
                case '>': return TEST;
                case '+':
                case '-': return 3;
                case '*':
                case '/': return TIGHTEST;
                default: return -1;
            }
        }

        private boolean piece(Text text, int parens, int bangs) {
            if (token == NUMBER) {
                return number(text);
            }
            if (token == WORD) {
                return name(text);
            }
            if (isSign('!') && bangs < MOST_NESTED) {
                step();
                if (!piece(text, parens, bangs + 1)) {
                    return false;
                }
                text.addSign('!');
                return true;
            }
            if (isSign('(') && parens < MOST_NESTED) {
                step();
                if (!expression(text, LOOSEST, parens + 1, bangs) || !isSign(')')) {
                    return false;
                }
                step();
                return true;
            }
            return false;
        }

        private boolean number(Text text) {
            if (at - start > MOST_DIGITS) {
                return false;
            }
            int number = 0;
            for (int i = start; i < at; i++) {
                number = 10 * number + bytes[i] - '0';
            }
            text.addNumber(number);
            step();
            return true;
        }

        private boolean name(Text text) {
            if (at - start != 1 || !text.addName((char) bytes[start])) {
                return false;
            }
            step();
            return true;
        }

        private boolean isSign(int sign) {
            return token == SIGN && sign() == sign;
        }

        private int sign() {
            return start < end ? bytes[start] : 0;
        }

        /** Goes on to the next word or sign. */
        private void step() {
            while (at < end && bytes[at] == ' ') {
                at++;
            }
            start = at;
            if (at >= end) {
                token = END;
                return;
            }
            if (isLetter(bytes[at])) {
                token = WORD;
                while (at < end && isLetter(bytes[at])) {
                    at++;
                }
            } else if (isDigit(bytes[at])) {
                token = NUMBER;
                while (at < end && isDigit(bytes[at])) {
                    at++;
                }
            } else {
                token = SIGN;
                at++;
            }
            if (token != SIGN && start > 0 && (isLetter(bytes[start - 1]) || isDigit(bytes[start - 1]))) {
                token = GLUED;
            }
        }

        private static boolean isLetter(int sign) {
            return sign >= 'a' && sign <= 'z';
        }

        private static boolean isDigit(int sign) {
            return sign >= '0' && sign <= '9';
        }
    }

    /** A row; NONE in a place is no number, which neither shorts nor floats of the document can be. */
    private static final class Sheet {
        int sort = MISSING;
        int count = 0;
        final int[] places = new int[MOST_PLACES];

        Sheet() {
        }

        void renew(int sort, int count) {
            this.sort = sort;
            this.count = Math.max(0, Math.min(count, places.length));
            for (int i = 0; i < places.length; i++) {
                places[i] = 0;
            }
        }

        void become(Sheet other) {
            sort = other.sort;
            count = other.count;
            System.arraycopy(other.places, 0, places, 0, MOST_PLACES);
        }

        boolean isMissing() {
            return sort == MISSING;
        }

        boolean hasPlace(int place) {
            return place >= 0 && place < count;
        }

        boolean hasPlaces(int place, int many) {
            return place >= 0 && many >= 0 && place <= count && many <= count - place;
        }

        boolean hasNumber(int place) {
            return hasPlace(place) && places[place] != NONE;
        }
    }

    /** A slot with room of its own for each thing that it can hold. */
    private static final class Slot {
        int thing = HOLDS_NOTHING;
        int number = 0;
        final Boy boy = new Boy();
        final Sheet sheet = new Sheet();

        Slot() {
        }

        /** Why it is not of that thing, or 0. */
        int findingFor(int wanted) {
            if (thing == HOLDS_NOTHING) {
                return NOTHING;
            }
            return thing == wanted ? 0 : KIND;
        }
    }
}
