import java.util.Arrays;

/** A house without stairs, in which each is on the storey of what is heard of them: ../shared/DOC.md. */
public final class LoudHouse {
    public static final int NONE = -1;

    private static final int MOST_BYTES = 400;
    private static final int FED_BYTES = 20;
    private static final int MOST_ROOMS = 4;
    private static final int MOST_HOURS = 6;
    private static final int MOST_STOREYS = 8;
    private static final int MOST_PEOPLE = 7;
    private static final int MOST_THINGS = 3;
    private static final int MOST_TOGETHER = 3;
    private static final int MOST_EARS = 8;
    private static final int MOST_RULES = 6;
    private static final int MOST_IMAGES = 4;
    private static final int LOUDEST = 30;
    private static final int LAST_BEAT = 9999;
    private static final int LAST_LOUDNESS = 9999;
    private static final int FIRST_HOUR_ASKED = 100;

    private static final int NO_FAULT = 0;
    private static final int THERE_IS_NONE = -2;
    private static final int WITHOUT_THESE = -3;
    private static final int LOOP_UNKNOWN = -3;
    private static final int NO_WAY_TO_CARRY = -3;
    private static final int CARRY_UNKNOWN = -4;

    private final Tape tape;
    private final Home now;
    private final Home spare;
    private final Home[] images;
    private int imagesMade;
    private final Rule[] rules;
    private int rulesTold;
    private final HouseReading houseReading;
    private final RuleReading ruleReading;
    private final RuleBeats ruleBeats;
    private final Forecast forecast;
    private final Carrier carrier;
    private final Neighbours neighbours;
    private final Thieves thieves;
    private final int[] sung;

    public LoudHouse() {
        tape = new Tape();
        now = new Home();
        spare = new Home();
        images = new Home[MOST_IMAGES];
        for (int k = 0; k < images.length; k++) {
            images[k] = new Home();
        }
        rules = new Rule[MOST_RULES];
        for (int k = 0; k < rules.length; k++) {
            rules[k] = new Rule();
        }
        houseReading = new HouseReading(tape, spare);
        ruleReading = new RuleReading(tape);
        ruleBeats = new RuleBeats(now);
        forecast = new Forecast(now);
        carrier = new Carrier(now);
        neighbours = new Neighbours(now);
        thieves = new Thieves(now);
        sung = new int[MOST_PEOPLE];
    }

    // ---- what is told

    public int feed(int a, int b, int c, int d, int e) {
        if (tape.length + FED_BYTES > MOST_BYTES) {
            return NONE;
        }
        tape.append(a);
        tape.append(b);
        tape.append(c);
        tape.append(d);
        tape.append(e);
        return tape.length;
    }

    public int end(int n) {
        if (n < 0 || n > tape.length) {
            return NONE;
        }
        tape.length = n;
        return n;
    }

    public int house() {
        int fault = houseReading.read();
        tape.length = 0;
        if (fault != NO_FAULT) {
            return -2 - fault;
        }
        spare.x = now.x;
        now.copyFrom(spare);
        return now.people;
    }

    public int rule() {
        Rule next = ruleAt(rulesTold);
        if (next == null) {
            return NONE;
        }
        int fault = ruleReading.read(next);
        tape.length = 0;
        if (fault != NO_FAULT) {
            return -2 - fault;
        }
        rulesTold++;
        return rulesTold - 1;
    }

    // ---- what is there

    public int person(int person, int what) {
        if (!now.hasPerson(person)) {
            return NONE;
        }
        switch (what) {
            case 0: return roomIn(now.places, person);
            case 1: return storeyIn(now.situation, person);
            case 2: return now.voice(person, now.hourAt(now.beat));
            case 3:
                now.tell(now.beat, 0, sung);
                return now.heardBy(person, now.situation, now.places, sung);
            case 4: return has(now.deaf, person) ? 1 : 0;
            case 5: return cell(now.coins, person);
            default:
                int hour = what < 0 ? NONE : what - FIRST_HOUR_ASKED;
                return now.hasHour(hour) ? now.voice(person, hour) : NONE;
        }
    }

    public int thing(int thing, int what) {
        if (!now.hasThing(thing)) {
            return NONE;
        }
        switch (what) {
            case 0: return roomIn(now.places, MOST_PEOPLE + thing);
            case 1: return storeyIn(now.situation, MOST_PEOPLE + thing);
            case 2: return cell(now.weights, thing);
            case 3:
                now.tell(now.beat, 0, sung);
                return now.heardAt(thing, now.situation, sung);
            default: return NONE;
        }
    }

    public int storey(int loudness) {
        if (!now.told || loudness < 0 || loudness > LAST_LOUDNESS) {
            return NONE;
        }
        return now.storeyOf(loudness);
    }

    public int at(int room, int storey) {
        if (!now.hasRoom(room) || !now.hasStorey(storey)) {
            return NONE;
        }
        int people = 0;
        for (int person = 0; person < now.people; person++) {
            if (now.isAt(person, room, storey)) {
                people |= 1 << person;
            }
        }
        return people;
    }

    // ---- acts

    public int beat() {
        if (!now.canBeat(1)) {
            return NONE;
        }
        now.tell(now.beat, 0, sung);
        now.remember(NONE);
        now.move(sung);
        return now.beat;
    }

    public int sing(int person, int voice) {
        if (!now.hasPerson(person) || !isVoice(voice) || !now.canBeat(1)) {
            return NONE;
        }
        now.tell(now.beat, 0, sung);
        put(sung, person, voice);
        now.remember(NONE);
        now.move(sung);
        return storeyIn(now.situation, person);
    }

    public int tune(int person, int hour, int voice) {
        if (!now.hasPerson(person) || !now.hasHour(hour) || !isVoice(voice)) {
            return NONE;
        }
        int before = now.voice(person, hour);
        int place = person * MOST_HOURS + hour;
        now.remember(place);
        put(now.voices, place, voice);
        return before;
    }

    public int walk(int person, int way) {
        return now.hasPerson(person) ? goBeside(person, way) : NONE;
    }

    public int push(int thing, int way) {
        if (!now.hasThing(thing)) {
            return NONE;
        }
        int one = MOST_PEOPLE + thing;
        int with = now.crowdAt(roomIn(now.places, one), storeyIn(now.situation, one));
        return with > 0 ? goBeside(one, way) : NONE;
    }

    private int goBeside(int one, int way) {
        if (way != -1 && way != 1) {
            return NONE;
        }
        int room = roomIn(now.places, one) + way;
        if (!now.hasRoom(room)) {
            return NONE;
        }
        now.remember(NONE);
        now.places = withRoom(now.places, one, room);
        return room;
    }

    public int undo() {
        if (now.acts <= 0) {
            return THERE_IS_NONE;
        }
        now.takeBack();
        return now.acts;
    }

    public int run(int rule, int n) {
        Rule told = ruleAt(rule);
        if (told == null || rule >= rulesTold || n < 1 || n > 100 || !now.canBeat(n)) {
            return NONE;
        }
        for (int k = 0; k < n; k++) {
            ruleBeats.goOn(told);
        }
        now.acts = 0;
        return now.beat;
    }

    // ---- what is asked

    public int ahead(int person, int n) {
        if (!now.hasPerson(person) || n < 0 || n > 200) {
            return NONE;
        }
        return storeyIn(forecast.situationIn(n), person);
    }

    public int loop(int what) {
        if (!now.told || what < 0 || what > 2) {
            return NONE;
        }
        return forecast.round(what);
    }

    public int meet(int people, int storey, int what) {
        if (people <= 0 || people >= 1 << now.people || Integer.bitCount(people) > MOST_TOGETHER) {
            return WITHOUT_THESE;
        }
        if (storey != NONE && !now.hasStorey(storey) || what < 0 || what > 4) {
            return WITHOUT_THESE;
        }
        return neighbours.meeting(people, storey, what);
    }

    public int carry(int thing, int storey, int what) {
        if (!now.hasThing(thing) || !now.hasStorey(storey) || what < 0 || what > 1) {
            return NONE;
        }
        int beats = carrier.search(thing, storey);
        return what == 0 ? beats : carrier.whoSingsFirst;
    }

    public int lifted(int person) {
        return now.hasPerson(person) ? neighbours.lifters(person) : NONE;
    }

    public int each(int person, int storey) {
        if (!now.hasPerson(person) || !now.hasStorey(storey)) {
            return NONE;
        }
        return neighbours.leastVoice(person, storey);
    }

    public int beds(int storey, int hour, int what) {
        if (!now.hasStorey(storey) || !now.hasHour(hour) || what < NONE || what >= MOST_PEOPLE) {
            return WITHOUT_THESE;
        }
        return neighbours.sleeping(storey, hour, what);
    }

    public int quiet(int person, int what) {
        if (!now.hasPerson(person) || what < 0 || what > 1) {
            return NONE;
        }
        return neighbours.bought(person, what);
    }

    public int ear(int room, int storey, int loudness) {
        if (room == NONE) {
            now.earsTold = 0;
            return 0;
        }
        boolean full = now.earsTold >= MOST_EARS;
        if (full || !now.hasRoom(room) || !now.hasStorey(storey) || !isVoice(loudness)) {
            return THERE_IS_NONE;
        }
        int at = now.earsTold * 3;
        put(now.ears, at, room);
        put(now.ears, at + 1, storey);
        put(now.ears, at + 2, loudness);
        now.earsTold++;
        return now.earsTold;
    }

    public int thief(int what) {
        return now.told && what >= 0 && what <= 3 ? thieves.suspects(what) : NONE;
    }

    public int nextEar(int what) {
        return now.told && what >= 0 && what <= 2 ? thieves.bestPlace(what) : NONE;
    }

    public int fire(int what) {
        return now.told && what >= 0 && what <= MOST_PEOPLE ? forecast.hush(what) : NONE;
    }

    public int rent(int storey) {
        if (!now.hasStorey(storey)) {
            return NONE;
        }
        int coins = 0;
        for (int person = 0; person < now.people; person++) {
            if (storeyIn(now.situation, person) == storey) {
                coins += cell(now.begins, storey);
            }
        }
        for (int thing = 0; thing < now.things; thing++) {
            if (storeyIn(now.situation, MOST_PEOPLE + thing) == storey) {
                coins += 5;
            }
        }
        return coins;
    }

    public int highest() {
        if (!now.told) {
            return NONE;
        }
        int best = THERE_IS_NONE;
        int bestStorey = NONE;
        for (int person = 0; person < now.people; person++) {
            int storey = storeyIn(now.situation, person);
            if (storey > bestStorey) {
                best = person;
                bestStorey = storey;
            }
        }
        return best;
    }

    public int seed(int x) {
        if (x < 0) {
            return NONE;
        }
        int before = now.x;
        now.x = x;
        return before;
    }

    public int drawn(int m, int n, int what) {
        if (!now.told || m < 1 || m > 20 || n < 1 || n > 60 || what < 0 || what > 1) {
            return NONE;
        }
        return forecast.sneezes(m, n, what);
    }

    public int count(int what) {
        switch (what) {
            case 0: return now.rooms;
            case 1: return now.hours;
            case 2: return now.told ? now.storeys : NONE;
            case 3: return now.people;
            case 4: return now.things;
            case 5: return rulesTold;
            case 6: return now.beat;
            case 7: return now.earsTold;
            case 8: return now.acts;
            case 9: return now.x;
            case 10: return tape.length;
            default: return NONE;
        }
    }

    public int image(int k) {
        Home kept = imageAt(k);
        if (kept == null) {
            return NONE;
        }
        kept.copyFrom(now);
        imagesMade |= 1 << k;
        return now.beat;
    }

    public int back(int k) {
        Home kept = imageAt(k);
        if (kept == null || !has(imagesMade, k)) {
            return NONE;
        }
        now.copyFrom(kept);
        return now.beat;
    }

    private Home imageAt(int k) {
        return k >= 0 && k < images.length ? images[k] : null;
    }

    private Rule ruleAt(int rule) {
        return rule >= 0 && rule < rules.length ? rules[rule] : null;
    }

    // ---- rows and bits

    private static int cell(int[] row, int i) {
        return i >= 0 && i < row.length ? row[i] : 0;
    }

    private static void put(int[] row, int i, int value) {
        if (i >= 0 && i < row.length) {
            row[i] = value;
        }
    }

    private static boolean has(int set, int one) {
        return (set >>> one & 1) == 1;
    }

    private static boolean isVoice(int voice) {
        return voice >= 0 && voice <= LOUDEST;
    }

    /** A situation has three bits for the storey of each: people first, then things. */
    private static int storeyIn(int situation, int one) {
        return situation >>> 3 * one & 7;
    }

    private static int withStorey(int situation, int one, int storey) {
        return situation & ~(7 << 3 * one) | (storey & 7) << 3 * one;
    }

    /** Places have two bits for the room of each: people first, then things. */
    private static int roomIn(int places, int one) {
        return places >>> 2 * one & 3;
    }

    private static int withRoom(int places, int one, int room) {
        return places & ~(3 << 2 * one) | (room & 3) << 2 * one;
    }

    /** All that an image holds: the house as told, where all are, what can be undone, the ears and x. */
    private static final class Home {
        /** Of an act to be undone: beat, situation, places, which voice was tuned, and that voice. */
        private static final int ACT_SIZE = 5;
        private static final int MOST_ACTS = 20;

        boolean told;
        int rooms;
        int hours;
        int storeys;
        int people;
        int things;
        int deaf;
        final int[] begins = new int[MOST_STOREYS];
        final int[] coins = new int[MOST_PEOPLE];
        final int[] weights = new int[MOST_THINGS];
        final int[] voices = new int[MOST_PEOPLE * MOST_HOURS];
        int beat;
        int situation;
        int places;
        final int[] past = new int[MOST_ACTS * ACT_SIZE];
        int acts;
        final int[] ears = new int[MOST_EARS * 3];
        int earsTold;
        int x;

        void copyFrom(Home other) {
            told = other.told;
            rooms = other.rooms;
            hours = other.hours;
            storeys = other.storeys;
            people = other.people;
            things = other.things;
            deaf = other.deaf;
            copyRow(other.begins, begins);
            copyRow(other.coins, coins);
            copyRow(other.weights, weights);
            copyRow(other.voices, voices);
            beat = other.beat;
            situation = other.situation;
            places = other.places;
            copyRow(other.past, past);
            acts = other.acts;
            copyRow(other.ears, ears);
            earsTold = other.earsTold;
            x = other.x;
        }

        private static void copyRow(int[] from, int[] to) {
            System.arraycopy(from, 0, to, 0, Math.min(from.length, to.length));
        }

        /** As a house is of which nothing was told. */
        void empty() {
            told = false;
            rooms = 0;
            hours = 0;
            storeys = 0;
            people = 0;
            things = 0;
            deaf = 0;
            Arrays.fill(begins, 0);
            Arrays.fill(coins, 0);
            Arrays.fill(weights, 0);
            Arrays.fill(voices, 0);
            beat = 0;
            situation = 0;
            places = 0;
            acts = 0;
            earsTold = 0;
            x = 0;
        }

        boolean hasPerson(int person) {
            return person >= 0 && person < people;
        }

        boolean hasThing(int thing) {
            return thing >= 0 && thing < things;
        }

        boolean hasRoom(int room) {
            return room >= 0 && room < rooms;
        }

        boolean hasStorey(int storey) {
            return storey >= 0 && storey < storeys;
        }

        boolean hasHour(int hour) {
            return hour >= 0 && hour < hours;
        }

        boolean canBeat(int beats) {
            return told && beat + beats <= LAST_BEAT;
        }

        int hourAt(int someBeat) {
            return hours > 0 ? someBeat % hours : 0;
        }

        int voice(int person, int hour) {
            return cell(voices, person * MOST_HOURS + hour);
        }

        int storeyOf(int loudness) {
            for (int storey = 1; storey < storeys && storey < begins.length; storey++) {
                if (loudness < begins[storey]) {
                    return storey - 1;
                }
            }
            return Math.max(0, storeys - 1);
        }

        boolean isAt(int one, int room, int storey) {
            return roomIn(places, one) == room && storeyIn(situation, one) == storey;
        }

        int crowdAt(int room, int storey) {
            int crowd = 0;
            for (int person = 0; person < people; person++) {
                if (isAt(person, room, storey)) {
                    crowd++;
                }
            }
            return crowd;
        }

        /** Fills a row with what all sing at a beat as told, but for the silent ones (as bits). */
        void tell(int someBeat, int silent, int[] sung) {
            int hour = hourAt(someBeat);
            for (int person = 0; person < people && person < sung.length; person++) {
                sung[person] = has(silent, person) ? 0 : voice(person, hour);
            }
        }

        /** What a person hears, who is where they are told to be, in rooms that are told, too. */
        int heardBy(int person, int where, int rooming, int[] sung) {
            if (has(deaf, person)) {
                return cell(sung, person);
            }
            int storey = storeyIn(where, person);
            int room = roomIn(rooming, person);
            int heard = 0;
            for (int singer = 0; singer < people && singer < sung.length; singer++) {
                if (singer == person) {
                    heard += sung[singer];
                } else if (storeyIn(where, singer) == storey) {
                    heard += faded(sung[singer], room - roomIn(rooming, singer));
                }
            }
            return heard;
        }

        private static int faded(int loud, int roomsApart) {
            if (roomsApart == 0) {
                return loud / 2;
            }
            return roomsApart == 1 || roomsApart == -1 ? loud / 4 : 0;
        }

        boolean isWith(int thing, int person, int where) {
            int one = MOST_PEOPLE + thing;
            return roomIn(places, one) == roomIn(places, person)
                && storeyIn(where, one) == storeyIn(where, person);
        }

        int heardAt(int thing, int where, int[] sung) {
            int heard = -cell(weights, thing);
            for (int singer = 0; singer < people && singer < sung.length; singer++) {
                if (isWith(thing, singer, where)) {
                    heard += sung[singer];
                }
            }
            return Math.max(heard, 0);
        }

        /** The situation behind a beat in which all sing so. */
        int after(int where, int[] sung) {
            int then = 0;
            for (int person = 0; person < people; person++) {
                then = withStorey(then, person, storeyOf(heardBy(person, where, places, sung)));
            }
            for (int thing = 0; thing < things; thing++) {
                then = withStorey(then, MOST_PEOPLE + thing, storeyOf(heardAt(thing, where, sung)));
            }
            return then;
        }

        void move(int[] sung) {
            situation = after(situation, sung);
            beat++;
        }

        /** Keeps what the next act will change; with 20 kept, the oldest goes. */
        void remember(int voicePlace) {
            if (acts >= MOST_ACTS) {
                System.arraycopy(past, ACT_SIZE, past, 0, past.length - ACT_SIZE);
                acts = MOST_ACTS - 1;
            }
            int at = acts * ACT_SIZE;
            put(past, at, beat);
            put(past, at + 1, situation);
            put(past, at + 2, places);
            put(past, at + 3, voicePlace);
            put(past, at + 4, cell(voices, voicePlace));
            acts++;
        }

        void takeBack() {
            acts--;
            int at = acts * ACT_SIZE;
            beat = cell(past, at);
            situation = cell(past, at + 1);
            places = cell(past, at + 2);
            put(voices, cell(past, at + 3), cell(past, at + 4));
        }
    }

    /** The bytes that were fed, and the place up to which they are read. */
    private static final class Tape {
        static final int END = -1;
        static final int WRONG_BYTE = 0;
        static final int WRONG_NUMBER = 1;
        static final int TOO_DEEP = 2;
        static final int TOO_MANY_PARTS = 3;
        static final int CLAUSE_AMISS = 4;
        static final int MOST_DIGITS = 5;
        static final int LAST_NUMBER = 99999;

        final byte[] bytes = new byte[MOST_BYTES];
        int length;
        int place;
        int fault;

        void append(int four) {
            for (int shift = 24; shift >= 0; shift -= 8) {
                if (length >= 0 && length < bytes.length) {
                    bytes[length] = (byte) (four >>> shift);
                    length++;
                }
            }
        }

        void startReading() {
            place = 0;
            fault = NO_FAULT;
        }

        /** The reading goes along the text, so the first fault is the one that counts. */
        void fail(int at, int kind) {
            if (fault == NO_FAULT) {
                fault = 1 + 8 * at + kind;
            }
        }

        boolean failed() {
            return fault != NO_FAULT;
        }

        private int byteAt(int at) {
            return at >= 0 && at < length && at < bytes.length ? bytes[at] & 255 : END;
        }

        /** The next byte that is no blank, or END; the place is there then. */
        int peek() {
            while (place < length && byteAt(place) == ' ') {
                place++;
            }
            return byteAt(place);
        }

        boolean digitIsNext() {
            int next = peek();
            return next >= '0' && next <= '9';
        }

        /** A number within bounds; behind a fault, or with one, the lower bound. */
        int readNumber(int least, int most) {
            if (failed()) {
                return least;
            }
            int next = peek();
            int first = place;
            int digits = 0;
            int number = 0;
            while (place < length && next >= '0' && next <= '9') {
                number = digits < MOST_DIGITS ? number * 10 + next - '0' : number;
                digits++;
                place++;
                next = byteAt(place);
            }
            if (digits == 0) {
                fail(first, WRONG_BYTE);
                return least;
            }
            if (digits > MOST_DIGITS || number < least || number > most) {
                fail(first, WRONG_NUMBER);
                return least;
            }
            return number;
        }

        /** Which of the words of a list stands next, or NONE; if one does, the place is behind it then. */
        int readWord(String list) {
            int next = peek();
            int letters = 0;
            while (place + letters < length && next >= 'a' && next <= 'z') {
                letters++;
                next = byteAt(place + letters);
            }
            int found = find(list, letters);
            if (found != NONE) {
                place += letters;
            }
            return found;
        }

        /** Which word of a list, with blanks between them, the next letters are. */
        private int find(String list, int letters) {
            int word = 0;
            int same = 0;
            int size = 0;
            for (int i = 0; i <= list.length(); i++) {
                char c = i < list.length() ? list.charAt(i) : ' ';
                if (c != ' ') {
                    same += byteAt(place + size) == c ? 1 : 0;
                    size++;
                } else if (size == letters && same == letters) {
                    return word;
                } else {
                    word++;
                    same = 0;
                    size = 0;
                }
            }
            return NONE;
        }

        /** Behind a clause: whether another one comes. */
        boolean clauseFollows() {
            if (failed()) {
                return false;
            }
            int next = peek();
            if (next == ';') {
                place++;
                return true;
            }
            if (next != END) {
                fail(place, WRONG_BYTE);
            }
            return false;
        }
    }

    /** Reads a house from the tape into a home that is not lived in yet. */
    private static final class HouseReading {
        private static final String CLAUSES = "house span person deaf thing asks";
        private static final int HOUSE = 0;
        private static final int SPAN = 1;
        private static final int PERSON = 2;
        private static final int DEAF = 3;
        private static final int THING = 4;
        private static final int MOST_CLAUSES = 40;

        private final Tape tape;
        private final Home home;

        HouseReading(Tape tape, Home home) {
            this.tape = tape;
            this.home = home;
        }

        int read() {
            tape.startReading();
            home.empty();
            for (int clause = 0; clause <= MOST_CLAUSES; clause++) {
                readClause(clause);
                if (!tape.clauseFollows()) {
                    break;
                }
            }
            home.told = true;
            return tape.fault;
        }

        private void readClause(int clause) {
            tape.peek();
            int first = tape.place;
            int word = tape.readWord(CLAUSES);
            if (word == NONE) {
                tape.fail(first, Tape.WRONG_BYTE);
            } else if (isAmiss(word, clause)) {
                tape.fail(first, Tape.CLAUSE_AMISS);
            } else {
                readRest(word);
            }
        }

        private boolean isAmiss(int word, int clause) {
            if (clause >= MOST_CLAUSES || (word == HOUSE) != (clause == 0)) {
                return true;
            }
            return word == SPAN && home.storeys >= MOST_STOREYS
                || word == PERSON && home.people >= MOST_PEOPLE
                || word == THING && home.things >= MOST_THINGS;
        }

        private void readRest(int word) {
            switch (word) {
                case HOUSE:
                    home.rooms = tape.readNumber(1, MOST_ROOMS);
                    home.hours = tape.readNumber(1, MOST_HOURS);
                    home.storeys = 1;
                    break;
                case SPAN:
                    int begin = cell(home.begins, home.storeys - 1);
                    put(home.begins, home.storeys, begin + tape.readNumber(1, 40));
                    home.storeys++;
                    break;
                case PERSON:
                    readPerson();
                    break;
                case DEAF:
                    home.deaf |= 1 << tape.readNumber(0, home.people - 1);
                    break;
                case THING:
                    int room = tape.readNumber(0, home.rooms - 1);
                    home.places = withRoom(home.places, MOST_PEOPLE + home.things, room);
                    put(home.weights, home.things, tape.readNumber(0, 60));
                    home.things++;
                    break;
                default:
                    int asker = tape.readNumber(0, home.people - 1);
                    put(home.coins, asker, tape.readNumber(0, 99));
                    break;
            }
        }

        private void readPerson() {
            int room = tape.readNumber(0, home.rooms - 1);
            home.places = withRoom(home.places, home.people, room);
            for (int hour = 0; hour < home.hours; hour++) {
                put(home.voices, home.people * MOST_HOURS + hour, tape.readNumber(0, LOUDEST));
            }
            home.people++;
        }
    }

    /** A rule as it is gone by: its sums and tests, each with the operators behind what they join. */
    private static final class Rule {
        static final int SING = 0;
        static final int WALK = 1;
        static final int MOST_CLAUSES = 12;

        // Codes below WORDS are words, in the order of the list that they are read by.
        static final int WORDS = 11;
        static final int PLUS = 11;
        static final int MINUS = 12;
        static final int TIMES = 13;
        static final int OVER = 14;
        static final int REST = 15;
        static final int BELOW = 16;
        static final int AT_MOST = 17;
        static final int EQUAL = 18;
        static final int AT_LEAST = 19;
        static final int ABOVE = 20;
        static final int NOT = 21;
        static final int AND = 22;
        static final int OR = 23;
        static final int OPEN = 24;
        static final int FIRST_NUMBER = 32;

        /** No sign of a text makes more than one code. */
        final int[] codes = new int[MOST_BYTES];
        int length;
        final int[] kinds = new int[MOST_CLAUSES];
        final int[] sums = new int[MOST_CLAUSES];
        final int[] tests = new int[MOST_CLAUSES];
        final int[] ends = new int[MOST_CLAUSES];
        int clauses;
    }

    /** Reads a rule from the tape; operators wait till what they join is read. */
    private static final class RuleReading {
        private static final String CLAUSES = "sing walk";
        private static final String WORDS = "person room storey voice heard hour beat crowd near things top";
        private static final int MOST_PARTS = 60;
        private static final int MOST_DEEP = 10;
        private static final int MOST_WAITING = 64;

        private final Tape tape;
        private final int[] waiting = new int[MOST_WAITING];
        private int waits;
        private int parts;
        private int deep;
        private int open;

        RuleReading(Tape tape) {
            this.tape = tape;
        }

        int read(Rule rule) {
            tape.startReading();
            rule.length = 0;
            rule.clauses = 0;
            waits = 0;
            parts = 0;
            deep = 0;
            open = 0;
            for (int clause = 0; clause <= Rule.MOST_CLAUSES; clause++) {
                readClause(rule);
                if (!tape.clauseFollows()) {
                    break;
                }
            }
            return tape.fault;
        }

        private void readClause(Rule rule) {
            tape.peek();
            int first = tape.place;
            int kind = tape.readWord(CLAUSES);
            if (kind == NONE) {
                tape.fail(first, Tape.WRONG_BYTE);
                return;
            }
            if (rule.clauses >= Rule.MOST_CLAUSES) {
                tape.fail(first, Tape.CLAUSE_AMISS);
                return;
            }
            put(rule.kinds, rule.clauses, kind);
            put(rule.sums, rule.clauses, rule.length);
            readSum(rule);
            put(rule.tests, rule.clauses, rule.length);
            if (!tape.failed() && tape.readWord("if") != NONE) {
                readTest(rule);
            }
            put(rule.ends, rule.clauses, rule.length);
            rule.clauses++;
        }

        private void readSum(Rule rule) {
            for (int i = 0; i < MOST_BYTES && !tape.failed(); i++) {
                boolean isNumber = tape.digitIsNext();
                int first = tape.place;
                int word = isNumber ? NONE : tape.readWord(WORDS);
                if (isNumber) {
                    emit(rule, Rule.FIRST_NUMBER + tape.readNumber(0, Tape.LAST_NUMBER));
                } else if (word != NONE) {
                    emit(rule, word);
                } else {
                    tape.fail(first, Tape.WRONG_BYTE);
                }
                countPart(first);
                int operator = operatorOf(tape.peek());
                if (operator == NONE) {
                    break;
                }
                tape.place++;
                settle(rule, level(operator));
                hold(operator);
            }
            settle(rule, level(Rule.PLUS));
        }

        private void countPart(int first) {
            parts++;
            if (parts > MOST_PARTS) {
                tape.fail(first, Tape.TOO_MANY_PARTS);
            }
        }

        private static int operatorOf(int sign) {
            switch (sign) {
                case '+': return Rule.PLUS;
                case '-': return Rule.MINUS;
                case '*': return Rule.TIMES;
                case '/': return Rule.OVER;
                case '%': return Rule.REST;
                default: return NONE;
            }
        }

        private void readTest(Rule rule) {
            for (int i = 0; i < MOST_BYTES && !tape.failed(); i++) {
                openFacts();
                readSum(rule);
                readSign();
                readSum(rule);
                closeFacts(rule);
                int join = tape.failed() ? NONE : tape.readWord("and or");
                if (join == NONE) {
                    break;
                }
                int operator = join == 0 ? Rule.AND : Rule.OR;
                settle(rule, level(operator));
                hold(operator);
            }
            settle(rule, level(Rule.OR));
            if (open > 0) {
                tape.peek();
                tape.fail(tape.place, Tape.WRONG_BYTE);
            }
        }

        /** What stands ahead of a fact made of a sign: brackets that open, and the word not. */
        private void openFacts() {
            for (int i = 0; i < MOST_BYTES && !tape.failed(); i++) {
                boolean bracket = tape.peek() == '[';
                int first = tape.place;
                if (bracket) {
                    tape.place++;
                    open++;
                } else if (tape.readWord("not") == NONE) {
                    break;
                }
                deep++;
                if (deep > MOST_DEEP) {
                    tape.fail(first, Tape.TOO_DEEP);
                }
                hold(bracket ? Rule.OPEN : Rule.NOT);
            }
        }

        private void readSign() {
            if (tape.failed()) {
                return;
            }
            int sign = tape.peek();
            int first = tape.place;
            if (sign != '<' && sign != '=' && sign != '>') {
                tape.fail(first, Tape.WRONG_BYTE);
                return;
            }
            countPart(first);
            tape.place++;
            boolean orEqual = sign != '=' && tape.byteAt(tape.place) == '=';
            if (orEqual) {
                tape.place++;
            }
            hold(signOf(sign, orEqual));
        }

        private static int signOf(int sign, boolean orEqual) {
            if (sign == '<') {
                return orEqual ? Rule.AT_MOST : Rule.BELOW;
            }
            if (sign == '>') {
                return orEqual ? Rule.AT_LEAST : Rule.ABOVE;
            }
            return Rule.EQUAL;
        }

        /** Behind a fact: what waits since the brackets opened that close here is whole. */
        private void closeFacts(Rule rule) {
            for (int i = 0; i < MOST_BYTES && open > 0 && !tape.failed(); i++) {
                if (tape.peek() != ']') {
                    break;
                }
                tape.place++;
                settle(rule, level(Rule.OR));
                waits--;
                open--;
                deep--;
            }
        }

        private static int level(int operator) {
            switch (operator) {
                case Rule.OPEN: return 0;
                case Rule.OR: return 1;
                case Rule.AND: return 2;
                case Rule.NOT: return 3;
                case Rule.PLUS: return 5;
                case Rule.MINUS: return 5;
                case Rule.TIMES: return 6;
                case Rule.OVER: return 6;
                case Rule.REST: return 6;
                default: return 4;
            }
        }

        private void hold(int operator) {
            put(waiting, waits, operator);
            waits++;
        }

        /** Puts down the waiting operators that bind at least so tightly, up to an open bracket. */
        private void settle(Rule rule, int least) {
            for (int i = 0; i < MOST_WAITING && waits > 0; i++) {
                int operator = cell(waiting, waits - 1);
                if (level(operator) < least) {
                    break;
                }
                waits--;
                deep -= operator == Rule.NOT ? 1 : 0;
                emit(rule, operator);
            }
        }

        private static void emit(Rule rule, int code) {
            put(rule.codes, rule.length, code);
            rule.length++;
        }
    }

    /** Beats by a rule. */
    private static final class RuleBeats {
        private final Home home;
        private final int[] voices = new int[MOST_PEOPLE];
        private final int[] sung = new int[MOST_PEOPLE];
        private final long[] words = new long[Rule.WORDS];
        private final long[] stack = new long[RuleReading.MOST_PARTS];
        private int height;

        RuleBeats(Home home) {
            this.home = home;
        }

        void goOn(Rule rule) {
            home.tell(home.beat, 0, voices);
            for (int person = 0; person < home.people; person++) {
                stroll(rule, person);
            }
            for (int person = 0; person < home.people; person++) {
                look(person);
                int clause = firstClause(rule, Rule.SING);
                int voice = cell(voices, person);
                put(sung, person, clause == NONE ? voice : (int) Math.max(0, Math.min(LOUDEST, sumOf(rule, clause))));
            }
            home.move(sung);
        }

        private void stroll(Rule rule, int person) {
            look(person);
            int clause = firstClause(rule, Rule.WALK);
            long way = clause == NONE ? 0 : sumOf(rule, clause);
            if (way != -1 && way != 1) {
                return;
            }
            int room = roomIn(home.places, person) + (int) way;
            if (home.hasRoom(room)) {
                home.places = withRoom(home.places, person, room);
            }
        }

        /** Fills the row of words, in the order of the list that they are read by, as they are of a person. */
        private void look(int person) {
            int room = roomIn(home.places, person);
            int storey = storeyIn(home.situation, person);
            int around = home.crowdAt(room - 1, storey) + home.crowdAt(room + 1, storey);
            setWord(0, person);
            setWord(1, room);
            setWord(2, storey);
            setWord(3, cell(voices, person));
            setWord(4, home.heardBy(person, home.situation, home.places, voices));
            setWord(5, home.hourAt(home.beat));
            setWord(6, home.beat);
            setWord(7, home.crowdAt(room, storey) - 1);
            setWord(8, around);
            setWord(9, thingsWith(person));
            setWord(10, home.storeys - 1);
        }

        private void setWord(int word, int value) {
            if (word >= 0 && word < words.length) {
                words[word] = value;
            }
        }

        private int thingsWith(int person) {
            int found = 0;
            for (int thing = 0; thing < home.things; thing++) {
                if (home.isWith(thing, person, home.situation)) {
                    found++;
                }
            }
            return found;
        }

        private int firstClause(Rule rule, int kind) {
            for (int clause = 0; clause < rule.clauses; clause++) {
                if (cell(rule.kinds, clause) == kind && holds(rule, clause)) {
                    return clause;
                }
            }
            return NONE;
        }

        private boolean holds(Rule rule, int clause) {
            int from = cell(rule.tests, clause);
            int to = cell(rule.ends, clause);
            return from == to || valueOf(rule, from, to) != 0;
        }

        private long sumOf(Rule rule, int clause) {
            return valueOf(rule, cell(rule.sums, clause), cell(rule.tests, clause));
        }

        private long valueOf(Rule rule, int from, int to) {
            height = 0;
            for (int i = from; i < to; i++) {
                int code = cell(rule.codes, i);
                if (code >= Rule.FIRST_NUMBER) {
                    add(code - Rule.FIRST_NUMBER);
                } else if (code >= 0 && code < words.length) {
                    add(words[code]);
                } else if (code == Rule.NOT) {
                    add(take() == 0 ? 1 : 0);
                } else {
                    long right = take();
                    add(join(code, take(), right));
                }
            }
            return take();
        }

        private void add(long value) {
            if (height >= 0 && height < stack.length) {
                stack[height] = value;
                height++;
            }
        }

        private long take() {
            if (height <= 0 || height > stack.length) {
                return 0;
            }
            height--;
            return stack[height];
        }

        private static long join(int operator, long left, long right) {
            switch (operator) {
                case Rule.PLUS: return left + right;
                case Rule.MINUS: return left - right;
                case Rule.TIMES: return left * right;
                case Rule.OVER: return right == 0 ? 0 : left / right;
                case Rule.REST: return right == 0 ? 0 : left % right;
                case Rule.BELOW: return left < right ? 1 : 0;
                case Rule.AT_MOST: return left <= right ? 1 : 0;
                case Rule.EQUAL: return left == right ? 1 : 0;
                case Rule.AT_LEAST: return left >= right ? 1 : 0;
                case Rule.ABOVE: return left > right ? 1 : 0;
                case Rule.AND: return left & right;
                default: return left | right;
            }
        }
    }

    /** Beats that are asked, and not done. */
    private static final class Forecast {
        private static final int MOST_LOOPED = 2000;

        private final Home home;
        private final int[] sung = new int[MOST_PEOPLE];
        private final int[] seen = new int[MOST_LOOPED + 1];

        Forecast(Home home) {
            this.home = home;
        }

        int situationIn(int beats) {
            int where = home.situation;
            for (int k = 0; k < beats; k++) {
                where = asTold(where, k);
            }
            return where;
        }

        /** The situation behind the beat that comes when so many have been, as told. */
        private int asTold(int where, int beats) {
            home.tell(home.beat + beats, 0, sung);
            return home.after(where, sung);
        }

        int round(int what) {
            int where = home.situation;
            for (int k = 0; k < seen.length; k++) {
                int before = whenSeen(where, k);
                if (before != NONE) {
                    return told(before, k, what);
                }
                seen[k] = where;
                where = asTold(where, k);
            }
            return LOOP_UNKNOWN;
        }

        /** How many beats from now the situation was the same at the same hour, so many beats from now. */
        private int whenSeen(int where, int beats) {
            int hours = Math.max(1, home.hours);
            for (int k = beats - hours; k >= 0; k -= hours) {
                if (cell(seen, k) == where) {
                    return k;
                }
            }
            return NONE;
        }

        private int told(int first, int again, int what) {
            if (what == 0) {
                return first;
            }
            if (what == 1) {
                return again - first;
            }
            int top = THERE_IS_NONE;
            for (int k = first; k < again; k++) {
                for (int person = 0; person < home.people; person++) {
                    top = Math.max(top, storeyIn(cell(seen, k), person));
                }
            }
            return top;
        }

        int sneezes(int times, int beats, int what) {
            int lots = Math.max(1, home.people + 1);
            int x = home.x;
            int rises = 0;
            int tops = 0;
            for (int time = 0; time < times; time++) {
                int where = home.situation;
                for (int k = 0; k < beats; k++) {
                    x = nextDraw(x);
                    home.tell(home.beat + k, 0, sung);
                    put(sung, x / 65536 % lots, LOUDEST);
                    int then = home.after(where, sung);
                    rises += risen(where, then);
                    where = then;
                }
                tops += onTop(where);
            }
            return what == 0 ? rises : tops;
        }

        private static int nextDraw(int x) {
            return (int) (x * 1103515245L + 12345L & 2147483647L);
        }

        private int risen(int before, int then) {
            int found = 0;
            for (int person = 0; person < home.people; person++) {
                if (storeyIn(then, person) > storeyIn(before, person)) {
                    found++;
                }
            }
            return found;
        }

        private int onTop(int where) {
            int found = 0;
            for (int person = 0; person < home.people; person++) {
                if (storeyIn(where, person) == home.storeys - 1) {
                    found++;
                }
            }
            return found;
        }

        int hush(int what) {
            if (what > home.people) {
                return THERE_IS_NONE;
            }
            int beats = 0;
            int order = NONE;
            for (int k = 0; k <= home.people && order == NONE; k++) {
                beats = k;
                order = firstOrder(home, sung, 0, 0, home.situation, k);
            }
            if (what == 0) {
                return beats;
            }
            return what <= beats ? storeyIn(order, what - 1) : inRest(order, beats, what - 1 - beats);
        }

        /** The first who hush, three bits for each from the lowest on, so that all are down behind so many beats. */
        private static int firstOrder(Home home, int[] sung, int done, int hushed, int where, int beats) {
            if (done >= beats) {
                return allDown(home, where) ? 0 : NONE;
            }
            for (int person = 0; person < home.people; person++) {
                if (!has(hushed, person)) {
                    int silent = hushed | 1 << person;
                    home.tell(home.beat + done, silent, sung);
                    int rest = firstOrder(home, sung, done + 1, silent, home.after(where, sung), beats);
                    if (rest != NONE) {
                        return rest << 3 | person;
                    }
                }
            }
            return NONE;
        }

        private static boolean allDown(Home home, int where) {
            for (int person = 0; person < home.people; person++) {
                if (storeyIn(where, person) != 0) {
                    return false;
                }
            }
            return true;
        }

        /** Of those who are not among the first of an order, the one with so many ahead. */
        private int inRest(int order, int firsts, int ahead) {
            int left = ahead;
            for (int person = 0; person < home.people; person++) {
                if (!isAmong(order, firsts, person)) {
                    if (left == 0) {
                        return person;
                    }
                    left--;
                }
            }
            return THERE_IS_NONE;
        }

        private static boolean isAmong(int order, int firsts, int person) {
            for (int k = 0; k < firsts; k++) {
                if (storeyIn(order, k) == person) {
                    return true;
                }
            }
            return false;
        }
    }

    /** Looks for the fewest beats by which a thing comes to a storey. */
    private static final class Carrier {
        private static final int MOST_SITUATIONS = 600;
        private static final int SLOTS = 2048;

        private final Home home;
        private final int[] situations = new int[MOST_SITUATIONS];
        private final int[] beats = new int[MOST_SITUATIONS];
        private final int[] firsts = new int[MOST_SITUATIONS];
        /** Of each slot the situation that hashed to it, by its number and 1. */
        private final int[] slots = new int[SLOTS];
        private int found;
        private final int[] sung = new int[MOST_PEOPLE];
        /** What one hears of each who sings, and of all of these together. */
        private final int[] shares = new int[MOST_PEOPLE];
        private final int[] heard = new int[1 << MOST_PEOPLE];
        private final int[] then = new int[1 << MOST_PEOPLE];
        int whoSingsFirst;

        Carrier(Home home) {
            this.home = home;
        }

        int search(int thing, int storey) {
            int one = MOST_PEOPLE + thing;
            if (storeyIn(home.situation, one) == storey) {
                return answer(0, THERE_IS_NONE);
            }
            Arrays.fill(slots, 0);
            found = 0;
            keep(home.situation, 0, 0);
            for (int k = 0; k < found && k < MOST_SITUATIONS; k++) {
                lookOn(cell(situations, k));
                for (int who = 0; who < 1 << home.people; who++) {
                    int next = cell(then, who);
                    int first = k == 0 ? who : cell(firsts, k);
                    if (storeyIn(next, one) == storey) {
                        return answer(cell(beats, k) + 1, first);
                    }
                    if (!keep(next, cell(beats, k) + 1, first)) {
                        return answer(CARRY_UNKNOWN, CARRY_UNKNOWN);
                    }
                }
            }
            return answer(NO_WAY_TO_CARRY, NO_WAY_TO_CARRY);
        }

        private int answer(int fewest, int first) {
            whoSingsFirst = first;
            return fewest;
        }

        /** Keeps a situation, if it is new; false if it is one too many. */
        private boolean keep(int situation, int beat, int first) {
            int slot = situation * 0x9E3779B1 >>> 21;
            for (int k = 0; k < SLOTS && cell(slots, slot) != 0; k++) {
                if (cell(situations, cell(slots, slot) - 1) == situation) {
                    return true;
                }
                slot = slot + 1 & SLOTS - 1;
            }
            if (found >= MOST_SITUATIONS) {
                return false;
            }
            put(situations, found, situation);
            put(beats, found, beat);
            put(firsts, found, first);
            found++;
            put(slots, slot, found);
            return true;
        }

        /** Fills the row of the next situations by who sings, as bits. */
        private void lookOn(int where) {
            Arrays.fill(then, 0);
            for (int person = 0; person < home.people; person++) {
                for (int singer = 0; singer < home.people; singer++) {
                    singAlone(singer);
                    put(shares, singer, home.heardBy(person, where, home.places, sung));
                }
                lift(person, 0);
            }
            for (int thing = 0; thing < home.things; thing++) {
                for (int singer = 0; singer < home.people; singer++) {
                    put(shares, singer, home.isWith(thing, singer, where) ? LOUDEST : 0);
                }
                lift(MOST_PEOPLE + thing, cell(home.weights, thing));
            }
        }

        private void singAlone(int singer) {
            Arrays.fill(sung, 0);
            put(sung, singer, LOUDEST);
        }

        /** Of one, by who sings: where they come to, by their shares of each and less a weight. */
        private void lift(int one, int weight) {
            int ways = 1 << home.people;
            for (int who = 0; who < ways && who < heard.length && who < then.length; who++) {
                int others = who & who - 1;
                heard[who] = who == 0 ? 0 : cell(heard, others) + cell(shares, Integer.numberOfTrailingZeros(who));
                then[who] = withStorey(then[who], one, home.storeyOf(Math.max(0, heard[who] - weight)));
            }
        }
    }

    /** What people can ask of one another: to meet, to be lifted, to sleep, to be quiet. */
    private static final class Neighbours {
        private final Home home;
        private final int[] sung = new int[MOST_PEOPLE];
        private final int[] members = new int[MOST_TOGETHER];

        Neighbours(Home home) {
            this.home = home;
        }

        /** Goes by what is sung together, then by rows: the first by which they meet is the one. */
        int meeting(int people, int storey, int what) {
            int size = gather(people);
            int secondMost = size > 1 ? LOUDEST : 0;
            int thirdMost = size > 2 ? LOUDEST : 0;
            home.tell(home.beat, 0, sung);
            for (int together = 0; together <= size * LOUDEST; together++) {
                int firstMost = Math.min(LOUDEST, together);
                for (int a = Math.max(0, together - secondMost - thirdMost); a <= firstMost; a++) {
                    int most = Math.min(secondMost, together - a);
                    for (int b = Math.max(0, together - a - thirdMost); b <= most; b++) {
                        setVoices(size, a, b, together - a - b);
                        int met = meetingPlace(size);
                        if (met != NONE && (storey == NONE || met == storey)) {
                            return metAs(what, size, together, met);
                        }
                    }
                }
            }
            return THERE_IS_NONE;
        }

        private int gather(int people) {
            int size = 0;
            for (int person = 0; person < home.people; person++) {
                if (has(people, person)) {
                    put(members, size, person);
                    size++;
                }
            }
            return size;
        }

        private void setVoices(int size, int a, int b, int c) {
            put(sung, cell(members, 0), a);
            if (size > 1) {
                put(sung, cell(members, 1), b);
            }
            if (size > 2) {
                put(sung, cell(members, 2), c);
            }
        }

        private int storeyHeard(int person) {
            return home.storeyOf(home.heardBy(person, home.situation, home.places, sung));
        }

        private int meetingPlace(int size) {
            int place = storeyHeard(cell(members, 0));
            for (int k = 1; k < size; k++) {
                if (storeyHeard(cell(members, k)) != place) {
                    return NONE;
                }
            }
            return place;
        }

        private int metAs(int what, int size, int together, int place) {
            if (what == 0) {
                return together;
            }
            if (what == 1) {
                return place;
            }
            return what - 2 < size ? cell(sung, cell(members, what - 2)) : NONE;
        }

        int lifters(int person) {
            home.tell(home.beat, 0, sung);
            int storey = storeyHeard(person);
            int found = 0;
            for (int other = 0; other < home.people; other++) {
                home.tell(home.beat, 1 << other, sung);
                if (other != person && storeyHeard(person) < storey) {
                    found |= 1 << other;
                }
            }
            return found;
        }

        int leastVoice(int person, int storey) {
            home.tell(home.beat, 0, sung);
            for (int voice = 0; voice <= LOUDEST; voice++) {
                put(sung, person, voice);
                if (storeyHeard(person) == storey) {
                    return voice;
                }
            }
            return THERE_IS_NONE;
        }

        int sleeping(int storey, int hour, int what) {
            // The beat with the number of an hour has that hour.
            home.tell(hour, 0, sung);
            int ways = 0;
            int first = NONE;
            int all = 1;
            for (int person = 0; person < home.people; person++) {
                all *= home.rooms;
            }
            for (int way = 0; way < all; way++) {
                int rooming = roomingOf(way);
                if (nobodyLeaves(storey, rooming)) {
                    first = ways == 0 ? rooming : first;
                    ways++;
                }
            }
            if (what == NONE) {
                return ways;
            }
            return ways > 0 && what < home.people ? roomIn(first, what) : THERE_IS_NONE;
        }

        /** Counts rooms up like digits, the last person's first, so that ways come as rows do. */
        private int roomingOf(int way) {
            int rooms = Math.max(1, home.rooms);
            int rooming = 0;
            int rest = way;
            for (int person = home.people - 1; person >= 0; person--) {
                rooming = withRoom(rooming, person, rest % rooms);
                rest /= rooms;
            }
            return rooming;
        }

        private boolean nobodyLeaves(int storey, int rooming) {
            // It matters to hearing only that all are on one storey, not on which.
            int together = 0;
            for (int person = 0; person < home.people; person++) {
                if (home.storeyOf(home.heardBy(person, together, rooming, sung)) != storey) {
                    return false;
                }
            }
            return true;
        }

        int bought(int person, int what) {
            int alone = home.storeyOf(home.voice(person, home.hourAt(home.beat)));
            int best = NONE;
            int least = 0;
            for (int paid = 0; paid < 1 << home.people; paid++) {
                int price = priceOf(paid);
                if (!has(paid, person) && (best == NONE || price < least)) {
                    home.tell(home.beat, paid, sung);
                    if (storeyHeard(person) == alone) {
                        best = paid;
                        least = price;
                    }
                }
            }
            if (best == NONE) {
                return THERE_IS_NONE;
            }
            return what == 0 ? least : best;
        }

        private int priceOf(int paid) {
            int price = 0;
            for (int person = 0; person < home.people; person++) {
                price += has(paid, person) ? cell(home.coins, person) : 0;
            }
            return price;
        }
    }

    /** Who it can have been that hummed, by what the ears heard. */
    private static final class Thieves {
        private static final int MOST_THIEVES = MOST_ROOMS * MOST_STOREYS * LOUDEST;

        private final Home home;
        private final int[] rooms = new int[MOST_THIEVES];
        private final int[] storeys = new int[MOST_THIEVES];
        private final int[] hums = new int[MOST_THIEVES];
        private final int[] staying = new int[LOUDEST + 1];
        private int found;

        Thieves(Home home) {
            this.home = home;
        }

        int suspects(int what) {
            gather();
            if (what == 0) {
                return found;
            }
            if (found == 0) {
                return THERE_IS_NONE;
            }
            if (what == 1) {
                return cell(rooms, 0);
            }
            return cell(what == 2 ? storeys : hums, 0);
        }

        private void gather() {
            found = 0;
            for (int room = 0; room < home.rooms; room++) {
                for (int storey = 0; storey < home.storeys; storey++) {
                    for (int hum = 1; hum <= LOUDEST; hum++) {
                        if (fits(room, storey, hum)) {
                            put(rooms, found, room);
                            put(storeys, found, storey);
                            put(hums, found, hum);
                            found++;
                        }
                    }
                }
            }
        }

        private boolean fits(int room, int storey, int hum) {
            for (int ear = 0; ear < home.earsTold; ear++) {
                int roomsApart = cell(home.ears, ear * 3) - room;
                int storeysApart = cell(home.ears, ear * 3 + 1) - storey;
                if (humHeard(roomsApart, storeysApart, hum) != cell(home.ears, ear * 3 + 2)) {
                    return false;
                }
            }
            return true;
        }

        private static int humHeard(int roomsApart, int storeysApart, int hum) {
            int far = Math.abs(roomsApart) * 2 + Math.abs(storeysApart);
            if (far == 0) {
                return hum;
            }
            if (storeysApart == 0) {
                return far == 2 ? hum / 2 : 0;
            }
            return far == 1 ? hum / 4 : 0;
        }

        int bestPlace(int what) {
            gather();
            if (found == 0) {
                return THERE_IS_NONE;
            }
            int fewest = found + 1;
            int bestRoom = 0;
            int bestStorey = 0;
            for (int storey = 0; storey < home.storeys; storey++) {
                for (int room = 0; room < home.rooms; room++) {
                    int stay = mostStaying(room, storey);
                    if (stay < fewest) {
                        fewest = stay;
                        bestRoom = room;
                        bestStorey = storey;
                    }
                }
            }
            if (what == 0) {
                return bestRoom;
            }
            return what == 1 ? bestStorey : fewest;
        }

        private int mostStaying(int room, int storey) {
            Arrays.fill(staying, 0);
            int most = 0;
            for (int k = 0; k < found; k++) {
                int heard = humHeard(room - cell(rooms, k), storey - cell(storeys, k), cell(hums, k));
                int stay = cell(staying, heard) + 1;
                put(staying, heard, stay);
                most = Math.max(most, stay);
            }
            return most;
        }
    }
}
