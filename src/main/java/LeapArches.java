import java.util.Arrays;

/** A viaduct without rails whose arches each hold up one step of a leap. README.md says how to use it. */
public final class LeapArches {
    public static final int NONE = -1;

    // STATUS of a call.
    private static final int FINE = 0;
    private static final int WRONG = 1;
    private static final int MISSING = 2;
    private static final int NO_PLACE = 3;
    private static final int TOO_MANY = 4;
    private static final int BAD_CONTENT = 5;
    private static final int NONE_SUCH = 6;
    private static final int CANT_BE = 7;
    private static final int UNLIKE = 8;
    private static final int FAULTY = 9;

    // FAULTS of a text.
    private static final int NO_TOKEN = 1;
    private static final int MISPLACED = 2;
    private static final int NAME_FAULT = 3;
    private static final int BAD_NUMBER = 4;
    private static final int TOLD_ALREADY = 5;
    private static final int ONE_PART_TOO_MANY = 6;
    private static final int TOO_DEEP = 7;

    private static final int MOST_ARCHES = 9;
    private static final int MOST_PEOPLE = 6;
    private static final int MOST_PLANTS = 8;
    private static final int MOST_HOLDS = 60;
    private static final int MOST_MOSS = 9;
    private static final int MOST_TOLL = 9;
    private static final int MOST_WEIGHT = 40;
    private static final int MOST_DOUBT = 9;
    private static final int MOST_LOVE = 9;
    private static final int MOST_NET = 9;
    private static final int MOST_FOG = 5;
    private static final int MOST_ODDS = 16;
    private static final int MOST_SIZE = 30;
    private static final int MOST_JOY = 99;
    private static final int USUAL_NET = 3;
    private static final int USUAL_ODDS = 2;
    private static final int USUAL_DOUBT = 1;
    private static final int USUAL_TOLL = 1;
    private static final int LAST_DAY = 9999;
    private static final int LAST_SEED = 9999;
    private static final int MOST_DAYS_DONE = 99;
    private static final int MOST_DAYS_AHEAD = 40;
    private static final int MOST_TWOS = 20;
    private static final int MOST_SEEDS = 20;
    private static final int MOST_GARDEN = 99;

    private static final int TRAYS = 4;
    private static final int TRAY_PLACES = 60;
    private static final int LAST_SORT = 3;
    private static final int TAPE_BYTES = 900;
    private static final int MOST_MARKS = 3;

    private static final int DECADES_BYTES = 300;
    private static final int MOST_STEPS = 30;
    // Each STEP may have an end of its own.
    private static final int MOST_ROWS = 60;
    private static final int MOST_DEPTH = 3;
    private static final int MOST_ROUNDS = 99;
    private static final int MOST_STEPS_DONE = 300;
    private static final int MOST_COMPARED = 9;
    // Between two STEPS that are done stand at most a few ends, so no run comes near this.
    private static final int ROWS_VISITED = 10000;

    private static final int MOST_TURNS = 4;
    private static final int GO = 0;
    private static final int JUMP_ON = 1;
    private static final int SIT = 2;

    private static final int NAME_LETTERS = 8;
    private static final int NUMBER_DIGITS = 4;

    // The WORDS that are no NAMES, in the order of their numbers below, each with a blank behind it.
    private static final String KEYWORDS = "net fog odds arch holds moss toll person weight doubt love at plant joy run rope jump home day any when over loop end stop ";
    private static final int K_NET = 0;
    private static final int K_FOG = 1;
    private static final int K_ODDS = 2;
    private static final int K_ARCH = 3;
    private static final int K_HOLDS = 4;
    private static final int K_MOSS = 5;
    private static final int K_TOLL = 6;
    private static final int K_PERSON = 7;
    private static final int K_WEIGHT = 8;
    private static final int K_DOUBT = 9;
    private static final int K_LOVE = 10;
    private static final int K_AT = 11;
    private static final int K_PLANT = 12;
    private static final int K_JOY = 13;
    private static final int K_RUN = 14;
    private static final int K_ROPE = 15;
    private static final int K_JUMP = 16;
    private static final int K_HOME = 17;
    private static final int K_DAY = 18;
    private static final int K_ANY = 19;
    private static final int K_WHEN = 20;
    private static final int K_OVER = 21;
    private static final int K_LOOP = 22;
    private static final int K_END = 23;
    private static final int K_STOP = 24;

    // The codes of all other TOKENS, behind those of the WORDS above.
    private static final int T_NAME = 25;
    private static final int T_LONG_WORD = 26;
    private static final int T_NUMBER = 27;
    private static final int T_SEMICOLON = 28;
    private static final int T_LESS = 29;
    private static final int T_MORE = 30;
    private static final int T_EQUAL = 31;
    private static final int T_END = 32;
    private static final int T_BAD = 33;
    // The longest PART has 11 TOKENS, so the TOKEN that is amiss is always among so many.
    private static final int SENTENCE = 12;

    private int latestStatus;
    private long fractionTop;
    private long fractionBottom;
    private final Tray[] trays;
    private final Text text;
    private final ViaductReader viaductReader;
    private final StepsReader stepsReader;
    private Viaduct now;
    // What a text, a game or a mean works on, so that the VIADUCT itself stays as it is.
    private Viaduct spare;
    private Steps steps;
    private Steps spareSteps;
    private final Viaduct[] markedViaducts;
    private final Steps[] markedSteps;
    private int marks;
    private final Groups groups;
    private final Contest contest;
    private final Life life;
    // MISSED, DAYS, FELL, PAID, left: apart from the Life, which a mean uses, too.
    private final int[] tally;
    private boolean hasLived;

    public LeapArches() {
        latestStatus = FINE;
        fractionTop = 0;
        fractionBottom = 1;
        trays = new Tray[TRAYS];
        for (int i = 0; i < TRAYS; i++) {
            trays[i] = new Tray();
        }
        text = new Text();
        now = new Viaduct();
        spare = new Viaduct();
        steps = new Steps();
        spareSteps = new Steps();
        viaductReader = new ViaductReader(text);
        stepsReader = new StepsReader(text, spareSteps, now);
        markedViaducts = new Viaduct[MOST_MARKS];
        markedSteps = new Steps[MOST_MARKS];
        for (int i = 0; i < MOST_MARKS; i++) {
            markedViaducts[i] = new Viaduct();
            markedSteps[i] = new Steps();
        }
        marks = 0;
        groups = new Groups();
        contest = new Contest(spare);
        life = new Life(now, steps);
        tally = new int[5];
        hasLived = false;
    }

    public int status() {
        return latestStatus;
    }

    public long top() {
        return fractionTop;
    }

    public long bottom() {
        return fractionBottom;
    }

    // ---- TRAYS.

    public boolean tray(int tray, int sort, int many) {
        if (!isTray(tray) || !within(sort, 0, LAST_SORT) || !within(many, 0, TRAY_PLACES)) {
            return not(WRONG);
        }
        trays[tray].lay(sort, many);
        return yes();
    }

    public boolean write(int tray, int place, long v) {
        int wrong = placeStatus(tray, place);
        if (wrong != FINE) {
            return not(wrong);
        }
        trays[tray].put(place, v);
        return yes();
    }

    public long read(int tray, int place) {
        int wrong = placeStatus(tray, place);
        if (wrong != FINE) {
            return none(wrong);
        }
        latestStatus = FINE;
        return trays[tray].numbers[place];
    }

    public boolean pour(int from, int place, int to, int at, int many) {
        if (!isTray(from) || !isTray(to) || place < 0 || at < 0 || many < 0) {
            return not(WRONG);
        }
        Tray source = trays[from];
        Tray target = trays[to];
        if (source.isMissing() || target.isMissing()) {
            return not(MISSING);
        }
        if (source.sort != target.sort) {
            return not(UNLIKE);
        }
        if (!source.hasRow(place, many) || !target.hasRow(at, many)) {
            return not(NO_PLACE);
        }
        System.arraycopy(source.numbers, place, target.numbers, at, many);
        return yes();
    }

    // ---- texts.

    public int feed(int a, int b, int c, int d, int e) {
        if (!text.hasRoomForTwenty()) {
            return NONE;
        }
        text.addFour(a);
        text.addFour(b);
        text.addFour(c);
        text.addFour(d);
        text.addFour(e);
        return text.filled;
    }

    public int viaduct(int n) {
        if (!within(n, 0, text.filled)) {
            return none(WRONG);
        }
        text.open(n);
        boolean taken = viaductReader.readInto(spare);
        text.filled = 0;
        if (!taken) {
            return none(FAULTY);
        }
        Viaduct old = now;
        now = spare;
        spare = old;
        steps.clear();
        return given(now.people);
    }

    public int decades(int n) {
        if (!within(n, 0, Math.min(DECADES_BYTES, text.filled))) {
            return none(WRONG);
        }
        text.open(n);
        boolean taken = stepsReader.readInto(spareSteps, now);
        text.filled = 0;
        if (!taken) {
            return none(FAULTY);
        }
        Steps old = steps;
        steps = spareSteps;
        spareSteps = old;
        return given(steps.many);
    }

    public int fault(int what) {
        switch (what) {
            case 0:
                return text.fault;
            case 1:
                return text.faultPlace;
            default:
                return NONE;
        }
    }

    public int told(int what) {
        switch (what) {
            case 0:
                return given(now.arches);
            case 1:
                return given(now.people);
            case 2:
                return given(now.plants);
            case 3:
                return given(now.net);
            case 4:
                return given(now.fog);
            case 5:
                return given(now.odds);
            case 6:
                return given(now.day);
            case 7:
                return given(now.peopleOver());
            case 8:
                return given(now.trod);
            case 9:
                return given(now.paidByAll());
            default:
                return none(WRONG);
        }
    }

    public int arch(int arch, int what) {
        if (!now.hasArch(arch)) {
            return none(WRONG);
        }
        switch (what) {
            case 0:
                return given(now.holds[arch]);
            case 1:
                return given(now.moss[arch]);
            case 2:
                return given(now.toll[arch]);
            case 3:
                return given(now.borneBy(arch));
            default:
                return none(WRONG);
        }
    }

    public int person(int person, int what) {
        if (!now.hasPerson(person)) {
            return none(WRONG);
        }
        switch (what) {
            case 0:
                return given(now.weight[person]);
            case 1:
                return given(now.doubt[person]);
            case 2:
                return given(now.love[person]);
            case 3:
                return given(now.behind[person]);
            case 4:
                return given(now.paid[person]);
            case 5:
                return given(now.fell[person]);
            default:
                return none(WRONG);
        }
    }

    public int plant(int plant, int what) {
        if (!within(plant, 0, now.plants - 1)) {
            return none(WRONG);
        }
        switch (what) {
            case 0:
                return given(now.size[plant]);
            case 1:
                return given(now.joy[plant]);
            default:
                return none(WRONG);
        }
    }

    // ---- what is done.

    public int run(int person) {
        if (!now.hasPerson(person)) {
            return none(WRONG);
        }
        return givenUnless(now.letRun(person), CANT_BE);
    }

    public int rope(int person, int other) {
        if (!now.hasTwo(person, other)) {
            return none(WRONG);
        }
        return givenUnless(now.letRope(person, other), CANT_BE);
    }

    public int jump(int arch) {
        if (!now.hasArch(arch)) {
            return none(WRONG);
        }
        return givenUnless(now.jumpOn(arch), CANT_BE);
    }

    public int home(int person) {
        if (!now.hasPerson(person)) {
            return none(WRONG);
        }
        return givenUnless(now.sendHome(person), CANT_BE);
    }

    public int day(int days) {
        if (!within(days, 1, MOST_DAYS_DONE)) {
            return none(WRONG);
        }
        return givenUnless(now.passDays(days), TOO_MANY);
    }

    public boolean teach(int person, int what, int much) {
        if (!now.hasPerson(person)) {
            return not(WRONG);
        }
        switch (what) {
            case 0:
                return put(now.weight, person, much, 1, MOST_WEIGHT);
            case 1:
                return put(now.doubt, person, much, 0, MOST_DOUBT);
            case 2:
                return put(now.love, person, much, 0, MOST_LOVE);
            default:
                return not(WRONG);
        }
    }

    public int come(int weight) {
        if (!within(weight, 1, MOST_WEIGHT)) {
            return none(WRONG);
        }
        if (now.people >= MOST_PEOPLE) {
            return none(TOO_MANY);
        }
        now.addPerson(0, weight);
        return given(now.people - 1);
    }

    public int build(int holds, int toll) {
        if (!within(holds, 0, MOST_HOLDS) || !within(toll, 0, MOST_TOLL)) {
            return none(WRONG);
        }
        if (now.arches >= MOST_ARCHES) {
            return none(TOO_MANY);
        }
        now.addArch(holds, toll);
        return given(now.arches - 1);
    }

    public int sow(int size, int joy) {
        if (!within(size, 1, MOST_SIZE) || !within(joy, 0, MOST_JOY)) {
            return none(WRONG);
        }
        if (now.plants >= MOST_PLANTS) {
            return none(TOO_MANY);
        }
        now.addPlant(size, joy);
        return given(now.plants - 1);
    }

    public boolean rule(int what, int much) {
        if (what == 3 && within(much, 0, MOST_NET)) {
            now.net = much;
            return yes();
        }
        if (what == 4 && within(much, 0, MOST_FOG)) {
            now.fog = much;
            return yes();
        }
        if (what == 5 && within(much, 0, MOST_ODDS)) {
            now.odds = much;
            return yes();
        }
        return not(WRONG);
    }

    // ---- who gets how far.

    public int strain(int person, int arch) {
        if (!now.hasPerson(person) || !now.hasArch(arch)) {
            return none(WRONG);
        }
        return given(now.strainAlone(person, arch));
    }

    public int strainOf(int person, int other, int arch) {
        if (!now.hasTwo(person, other) || !now.hasArch(arch)) {
            return none(WRONG);
        }
        return given(now.strainRoped(person, other, arch));
    }

    public int reach(int person) {
        if (!now.hasPerson(person)) {
            return none(WRONG);
        }
        return given(now.afterFall(now.stopAlone(person), now.doubt[person]));
    }

    public int reachIn(int person, int days) {
        if (!now.hasPerson(person) || !within(days, 0, MOST_DAYS_AHEAD)) {
            return none(WRONG);
        }
        return given(now.afterFall(now.stopIn(person, days), now.doubt[person]));
    }

    public int stops(int person) {
        if (!now.hasPerson(person)) {
            return none(WRONG);
        }
        return givenIfArch(now.stopAlone(person));
    }

    public int stopsBoth(int person, int other) {
        if (!now.hasTwo(person, other)) {
            return none(WRONG);
        }
        return givenIfArch(now.stopRoped(person, other, 0));
    }

    public int pays(int person) {
        if (!now.hasPerson(person)) {
            return none(WRONG);
        }
        return given(now.tollsBetween(now.behind[person], now.stopAlone(person)));
    }

    public int span(int person) {
        if (!now.hasPerson(person)) {
            return none(WRONG);
        }
        return given(now.spanLength(person, now.spanBegin(person)));
    }

    public int spanFrom(int person) {
        if (!now.hasPerson(person)) {
            return none(WRONG);
        }
        int begin = now.spanBegin(person);
        if (now.spanLength(person, begin) == 0) {
            return none(NONE_SUCH);
        }
        return given(begin);
    }

    public int weakest() {
        return givenUnless(now.weakestArch(), NONE_SUCH);
    }

    public int mossIn(int arch, int days) {
        if (!now.hasArch(arch) || !within(days, 0, MOST_DAYS_AHEAD)) {
            return none(WRONG);
        }
        return given(now.mossAfter(arch, days));
    }

    // ---- who with whom.

    public int most() {
        groups.weigh(now);
        return given(groups.mostOver());
    }

    public int cheapest(int people) {
        if (!isSetOfPeople(people)) {
            return none(WRONG);
        }
        groups.weigh(now);
        return givenUnless(groups.cost[people], NONE_SUCH);
    }

    public int mate(int people, int person) {
        if (!isSetOfPeople(people) || !now.hasPerson(person) || !contains(people, person)) {
            return none(WRONG);
        }
        groups.weigh(now);
        return givenUnless(groups.mateOf(people, person), NONE_SUCH);
    }

    public int mends(int people) {
        if (!isSetOfPeople(people)) {
            return none(WRONG);
        }
        return givenUnless(now.jumpsInAll(people), NONE_SUCH);
    }

    public int mendsAt(int people, int arch) {
        if (!isSetOfPeople(people) || !now.hasArch(arch)) {
            return none(WRONG);
        }
        if (now.jumpsInAll(people) == NONE) {
            return none(NONE_SUCH);
        }
        return given(now.jumpsFor(people, arch));
    }

    // ---- which doubt it was.

    public int fits(int person, int tray, int n) {
        int wrong = twosStatus(person, tray, n);
        if (wrong != FINE) {
            return none(wrong);
        }
        return given(Integer.bitCount(doubtsThatFit(person, tray, n)));
    }

    public int fitsAt(int person, int tray, int n, int k) {
        if (k < 0) {
            return none(WRONG);
        }
        int wrong = twosStatus(person, tray, n);
        if (wrong != FINE) {
            return none(wrong);
        }
        int doubts = doubtsThatFit(person, tray, n);
        int ahead = 0;
        for (int doubt = 0; doubt <= MOST_DOUBT; doubt++) {
            if (contains(doubts, doubt)) {
                if (ahead == k) {
                    return given(doubt);
                }
                ahead++;
            }
        }
        return none(NONE_SUCH);
    }

    public int ask(int person, int tray, int n) {
        int wrong = twosStatus(person, tray, n);
        if (wrong != FINE) {
            return none(wrong);
        }
        int doubts = doubtsThatFit(person, tray, n);
        if (Integer.bitCount(doubts) < 2) {
            return none(NONE_SUCH);
        }
        int best = 0;
        int fewest = now.mostAlike(person, doubts, 0);
        for (int fog = 1; fog <= MOST_FOG; fog++) {
            int alike = now.mostAlike(person, doubts, fog);
            if (alike < fewest) {
                best = fog;
                fewest = alike;
            }
        }
        return given(best);
    }

    // ---- games, the garden, odds.

    public int game(int person, int other, int n) {
        if (!now.hasTwo(person, other) || !within(n, 0, MOST_TURNS)) {
            return none(WRONG);
        }
        spare.takeOver(now);
        contest.begin(spare, person, other, n);
        return given(contest.outcome());
    }

    public int moveOf(int person, int other, int n) {
        if (!now.hasTwo(person, other) || !within(n, 1, MOST_TURNS)) {
            return none(WRONG);
        }
        spare.takeOver(now);
        contest.begin(spare, person, other, n);
        return given(contest.firstMove());
    }

    public int garden(int n) {
        if (!within(n, 0, MOST_GARDEN)) {
            return none(WRONG);
        }
        return given(now.joyOf(now.bestGarden(n)));
    }

    public int gardenSet(int n) {
        if (!within(n, 0, MOST_GARDEN)) {
            return none(WRONG);
        }
        return given(now.bestGarden(n));
    }

    public boolean chance(int person) {
        if (!now.hasPerson(person)) {
            return not(WRONG);
        }
        tellOdds(person, now.arches - now.behind[person]);
        return yes();
    }

    public boolean hope(int person, int k) {
        if (!now.hasPerson(person) || !within(k, 0, MOST_ARCHES)) {
            return not(WRONG);
        }
        tellOdds(person, k);
        return yes();
    }

    public int copyAt(int tray) {
        if (!isTray(tray)) {
            return none(WRONG);
        }
        Tray target = trays[tray];
        if (target.isMissing()) {
            return none(MISSING);
        }
        if (!target.hasRow(0, now.people)) {
            return none(NO_PLACE);
        }
        for (int i = 0; i < now.people; i++) {
            target.put(i, now.behind[i]);
        }
        return given(now.people);
    }

    // ---- DECADES.

    public int live(int seed) {
        if (!within(seed, 0, LAST_SEED)) {
            return none(WRONG);
        }
        if (!steps.there) {
            return none(NONE_SUCH);
        }
        int dayAhead = now.day;
        int fellAhead = now.fellByAll();
        int paidAhead = now.paidByAll();
        life.goThrough(now, steps, seed);
        tally[0] = life.missed;
        tally[1] = now.day - dayAhead;
        tally[2] = now.fellByAll() - fellAhead;
        tally[3] = now.paidByAll() - paidAhead;
        tally[4] = life.left ? 1 : 0;
        hasLived = true;
        return given(life.done);
    }

    public int lived(int what) {
        if (!within(what, 0, 4)) {
            return none(WRONG);
        }
        if (!hasLived) {
            return none(NONE_SUCH);
        }
        return given(tally[what]);
    }

    public boolean mean(int seed, int many) {
        if (!within(seed, 0, LAST_SEED) || !within(many, 1, MOST_SEEDS) || seed + many - 1 > LAST_SEED) {
            return not(WRONG);
        }
        if (!steps.there) {
            return not(NONE_SUCH);
        }
        long sum = 0;
        for (int i = 0; i < many; i++) {
            spare.takeOver(now);
            life.goThrough(spare, steps, seed + i);
            sum += spare.behindAll();
        }
        tell(sum, many);
        return yes();
    }

    // ---- MARKS.

    public int mark() {
        if (marks >= MOST_MARKS) {
            return none(TOO_MANY);
        }
        markedViaducts[marks].takeOver(now);
        markedSteps[marks].takeOver(steps);
        marks++;
        return given(marks);
    }

    public int undo() {
        if (marks <= 0) {
            return none(NONE_SUCH);
        }
        marks--;
        now.takeOver(markedViaducts[marks]);
        steps.takeOver(markedSteps[marks]);
        return given(marks);
    }

    // ---- how a call ends.

    private int given(int answer) {
        latestStatus = FINE;
        return answer;
    }

    private int none(int status) {
        latestStatus = status;
        return NONE;
    }

    /** For answers that are never below 0 where there is one. */
    private int givenUnless(int answer, int statusOfNone) {
        return answer == NONE ? none(statusOfNone) : given(answer);
    }

    private int givenIfArch(int arch) {
        return now.hasArch(arch) ? given(arch) : none(NONE_SUCH);
    }

    private boolean yes() {
        latestStatus = FINE;
        return true;
    }

    private boolean not(int status) {
        latestStatus = status;
        return false;
    }

    private boolean put(int[] row, int place, int much, int least, int greatest) {
        if (!within(much, least, greatest)) {
            return not(WRONG);
        }
        row[place] = much;
        return yes();
    }

    // ---- what calls ask first.

    private static boolean within(long v, long least, long greatest) {
        return v >= least && v <= greatest;
    }

    private static boolean contains(int set, int member) {
        return (set >> member & 1) != 0;
    }

    private static boolean isTray(int tray) {
        return tray >= 0 && tray < TRAYS;
    }

    private boolean isSetOfPeople(int people) {
        return within(people, 0, (1 << now.people) - 1);
    }

    private int placeStatus(int tray, int place) {
        if (!isTray(tray)) {
            return WRONG;
        }
        if (trays[tray].isMissing()) {
            return MISSING;
        }
        return trays[tray].hasPlace(place) ? FINE : NO_PLACE;
    }

    private int twosStatus(int person, int tray, int n) {
        if (!now.hasPerson(person) || !isTray(tray) || !within(n, 0, MOST_TWOS)) {
            return WRONG;
        }
        Tray twos = trays[tray];
        if (twos.isMissing()) {
            return MISSING;
        }
        if (!twos.hasRow(0, 2 * n)) {
            return NO_PLACE;
        }
        for (int i = 0; i < n; i++) {
            if (!within(twos.numbers[2 * i], 0, MOST_FOG) || !within(twos.numbers[2 * i + 1], 0, now.arches)) {
                return BAD_CONTENT;
            }
        }
        return FINE;
    }

    // ---- what several calls answer by.

    /** Only behind twosStatus(), which looks at the numbers of the TRAY. */
    private int doubtsThatFit(int person, int tray, int n) {
        long[] twos = trays[tray].numbers;
        int set = 0;
        for (int doubt = 0; doubt <= MOST_DOUBT; doubt++) {
            boolean fit = true;
            for (int i = 0; i < n && fit; i++) {
                fit = now.reachInFog(person, doubt, (int) twos[2 * i]) == twos[2 * i + 1];
            }
            if (fit) {
                set |= 1 << doubt;
            }
        }
        return set;
    }

    private void tellOdds(int person, int arches) {
        int borne = now.stopAlone(person) - now.behind[person];
        if (arches > borne) {
            tell(0, 1);
            return;
        }
        long top = 1;
        long bottom = 1;
        for (int i = 0; i < arches; i++) {
            top *= MOST_ODDS - now.odds;
            bottom *= MOST_ODDS;
        }
        tell(top, bottom);
    }

    private void tell(long top, long bottom) {
        long divisor = commonDivisor(top, bottom);
        if (divisor <= 0) {
            return;
        }
        fractionTop = top / divisor;
        fractionBottom = bottom / divisor;
    }

    private static long commonDivisor(long a, long b) {
        long greater = a;
        long lesser = b;
        // By 64 bits Euclid's way has fewer than 100 divisions.
        for (int i = 0; i < 100 && lesser != 0; i++) {
            long rest = greater % lesser;
            greater = lesser;
            lesser = rest;
        }
        return greater;
    }

    /** A TRAY; it has its row from the beginning on, so that laying it anew costs no room. */
    private static final class Tray {
        final long[] numbers;
        int sort;
        // NONE as long as the TRAY is MISSING.
        int many;

        Tray() {
            numbers = new long[TRAY_PLACES];
            sort = 0;
            many = NONE;
        }

        boolean isMissing() {
            return many == NONE;
        }

        boolean hasPlace(int place) {
            return place >= 0 && place < many;
        }

        boolean hasRow(int from, int length) {
            return from >= 0 && length >= 0 && (long) from + length <= many;
        }

        void lay(int newSort, int newMany) {
            Arrays.fill(numbers, 0L);
            sort = newSort;
            many = newMany;
        }

        void put(int place, long v) {
            if (hasPlace(place)) {
                numbers[place] = cut(v);
            }
        }

        private long cut(long v) {
            switch (sort) {
                case 0:
                    return (byte) v;
                case 1:
                    return (short) v;
                case 2:
                    return (int) v;
                default:
                    return v;
            }
        }
    }

    /** The VIADUCT with all that became of it. Who calls looks at numbers of ARCHES and PEOPLE first. */
    private static final class Viaduct {
        int arches;
        final int[] holds;
        final int[] moss;
        final int[] toll;
        int trod;
        int people;
        // 0 of who came without a NAME.
        final long[] names;
        final int[] weight;
        final int[] doubt;
        final int[] love;
        final int[] behind;
        final int[] paid;
        final int[] fell;
        int plants;
        final int[] size;
        final int[] joy;
        int net;
        int fog;
        int odds;
        int day;

        Viaduct() {
            holds = new int[MOST_ARCHES];
            moss = new int[MOST_ARCHES];
            toll = new int[MOST_ARCHES];
            names = new long[MOST_PEOPLE];
            weight = new int[MOST_PEOPLE];
            doubt = new int[MOST_PEOPLE];
            love = new int[MOST_PEOPLE];
            behind = new int[MOST_PEOPLE];
            paid = new int[MOST_PEOPLE];
            fell = new int[MOST_PEOPLE];
            size = new int[MOST_PLANTS];
            joy = new int[MOST_PLANTS];
            clear();
        }

        void clear() {
            arches = 0;
            trod = 0;
            people = 0;
            plants = 0;
            net = USUAL_NET;
            fog = 0;
            odds = USUAL_ODDS;
            day = 0;
        }

        void takeOver(Viaduct other) {
            arches = other.arches;
            System.arraycopy(other.holds, 0, holds, 0, MOST_ARCHES);
            System.arraycopy(other.moss, 0, moss, 0, MOST_ARCHES);
            System.arraycopy(other.toll, 0, toll, 0, MOST_ARCHES);
            trod = other.trod;
            people = other.people;
            System.arraycopy(other.names, 0, names, 0, MOST_PEOPLE);
            System.arraycopy(other.weight, 0, weight, 0, MOST_PEOPLE);
            System.arraycopy(other.doubt, 0, doubt, 0, MOST_PEOPLE);
            System.arraycopy(other.love, 0, love, 0, MOST_PEOPLE);
            System.arraycopy(other.behind, 0, behind, 0, MOST_PEOPLE);
            System.arraycopy(other.paid, 0, paid, 0, MOST_PEOPLE);
            System.arraycopy(other.fell, 0, fell, 0, MOST_PEOPLE);
            plants = other.plants;
            System.arraycopy(other.size, 0, size, 0, MOST_PLANTS);
            System.arraycopy(other.joy, 0, joy, 0, MOST_PLANTS);
            net = other.net;
            fog = other.fog;
            odds = other.odds;
            day = other.day;
        }

        void addArch(int newHolds, int newToll) {
            if (arches >= MOST_ARCHES) {
                return;
            }
            holds[arches] = newHolds;
            moss[arches] = 0;
            toll[arches] = newToll;
            arches++;
        }

        void addPerson(long name, int newWeight) {
            if (people >= MOST_PEOPLE) {
                return;
            }
            names[people] = name;
            weight[people] = newWeight;
            doubt[people] = USUAL_DOUBT;
            love[people] = 0;
            behind[people] = 0;
            paid[people] = 0;
            fell[people] = 0;
            people++;
        }

        void addPlant(int newSize, int newJoy) {
            if (plants >= MOST_PLANTS) {
                return;
            }
            size[plants] = newSize;
            joy[plants] = newJoy;
            plants++;
        }

        // ---- what there is.

        boolean hasArch(int arch) {
            return arch >= 0 && arch < arches;
        }

        boolean hasPerson(int person) {
            return person >= 0 && person < people;
        }

        boolean hasTwo(int person, int other) {
            return hasPerson(person) && hasPerson(other) && person != other;
        }

        int personNamed(long name) {
            for (int i = 0; i < people; i++) {
                if (names[i] == name) {
                    return i;
                }
            }
            return NONE;
        }

        boolean isOver(int person) {
            return behind[person] >= arches;
        }

        int peopleOver() {
            int set = 0;
            for (int i = 0; i < people; i++) {
                if (isOver(i)) {
                    set |= 1 << i;
                }
            }
            return set;
        }

        int paidByAll() {
            return sumOfPeople(paid);
        }

        int fellByAll() {
            return sumOfPeople(fell);
        }

        int behindAll() {
            return sumOfPeople(behind);
        }

        private int sumOfPeople(int[] row) {
            int sum = 0;
            for (int i = 0; i < people; i++) {
                sum += row[i];
            }
            return sum;
        }

        // ---- STRAIN.

        private int strainBy(int person, int itsDoubt, int mossAndFog) {
            return weight[person] - love[person] + itsDoubt * mossAndFog;
        }

        int strainAlone(int person, int arch) {
            return strainBy(person, doubt[person], moss[arch] + fog);
        }

        int strainRoped(int person, int other, int arch) {
            int greater = Math.max(weight[person], weight[other]);
            int lesser = Math.min(weight[person], weight[other]);
            int lesserDoubt = Math.min(doubt[person], doubt[other]);
            return greater + lesser / 2 - love[person] - love[other] + lesserDoubt * (moss[arch] + fog);
        }

        boolean bearsAlone(int person, int arch) {
            return strainAlone(person, arch) <= holds[arch];
        }

        int borneBy(int arch) {
            int set = 0;
            for (int i = 0; i < people; i++) {
                if (bearsAlone(i, arch)) {
                    set |= 1 << i;
                }
            }
            return set;
        }

        // ---- who gets how far: the ARCH that stops, or as many as there are.

        int stopAlone(int person) {
            return stopBy(person, behind[person], doubt[person], fog);
        }

        private int stopBy(int person, int from, int itsDoubt, int itsFog) {
            int arch = from;
            while (arch < arches && strainBy(person, itsDoubt, moss[arch] + itsFog) <= holds[arch]) {
                arch++;
            }
            return arch;
        }

        int stopIn(int person, int days) {
            int arch = behind[person];
            while (arch < arches && strainBy(person, doubt[person], mossAfter(arch, days) + fog) <= holds[arch]) {
                arch++;
            }
            return arch;
        }

        int stopRoped(int person, int other, int from) {
            int arch = from;
            while (arch < arches && strainRoped(person, other, arch) <= holds[arch]) {
                arch++;
            }
            return arch;
        }

        int reachInFog(int person, int itsDoubt, int itsFog) {
            return afterFall(stopBy(person, 0, itsDoubt, itsFog), itsDoubt);
        }

        /** How many ARCHES are behind one whom an ARCH stopped, when he has fallen, or not. */
        int afterFall(int stop, int itsDoubt) {
            boolean falls = stop < arches && itsDoubt > 0 && stop > net;
            return falls ? net : stop;
        }

        int tollsBetween(int from, int to) {
            int sum = 0;
            for (int i = from; i < to; i++) {
                sum += toll[i];
            }
            return sum;
        }

        int spanLength(int person, int from) {
            int arch = from;
            while (arch < arches && bearsAlone(person, arch)) {
                arch++;
            }
            return arch - from;
        }

        int spanBegin(int person) {
            int best = 0;
            for (int i = 1; i < arches; i++) {
                if (spanLength(person, i) > spanLength(person, best)) {
                    best = i;
                }
            }
            return best;
        }

        int weakestArch() {
            int best = NONE;
            int fewest = MOST_PEOPLE + 1;
            for (int i = 0; i < arches; i++) {
                int many = Integer.bitCount(borneBy(i));
                if (many < fewest) {
                    best = i;
                    fewest = many;
                }
            }
            return best;
        }

        int mossAfter(int arch, int days) {
            if (days <= 0) {
                return moss[arch];
            }
            int afterOne = contains(trod, arch) ? Math.max(0, moss[arch] - 1) : moss[arch] + 1;
            return Math.min(MOST_MOSS, afterOne + days - 1);
        }

        /** Of these DOUBTS the most by which one has the same REACH in a FOG. */
        int mostAlike(int person, int doubts, int itsFog) {
            int greatest = 0;
            for (int reached = 0; reached <= arches; reached++) {
                int many = 0;
                for (int i = 0; i <= MOST_DOUBT; i++) {
                    if (contains(doubts, i) && reachInFog(person, i, itsFog) == reached) {
                        many++;
                    }
                }
                greatest = Math.max(greatest, many);
            }
            return greatest;
        }

        // ---- what is done: NONE, and nothing is changed, if it can't be.

        int letRun(int person) {
            if (isOver(person)) {
                return NONE;
            }
            int stop = stopBy(person, behind[person], doubt[person], fog);
            tread(person, stop);
            land(person, stop);
            return behind[person];
        }

        int letRope(int person, int other) {
            if (person == other || behind[person] != behind[other] || isOver(person)) {
                return NONE;
            }
            int from = behind[person];
            int stop = stopRoped(person, other, from);
            tread(person, stop);
            land(person, stop);
            land(other, stop);
            return stop - from;
        }

        private void tread(int payer, int stop) {
            for (int i = behind[payer]; i < stop; i++) {
                paid[payer] += toll[i];
                trod |= 1 << i;
            }
        }

        private void land(int person, int stop) {
            behind[person] = afterFall(stop, doubt[person]);
            if (behind[person] < stop) {
                fell[person]++;
            }
        }

        boolean canJumpOn(int arch) {
            return holds[arch] < MOST_HOLDS || moss[arch] > 0;
        }

        int jumpOn(int arch) {
            if (!canJumpOn(arch)) {
                return NONE;
            }
            holds[arch] = Math.min(MOST_HOLDS, holds[arch] + 1);
            moss[arch] = Math.max(0, moss[arch] - 1);
            trod |= 1 << arch;
            return holds[arch];
        }

        int sendHome(int person) {
            if (behind[person] == 0) {
                return NONE;
            }
            int was = behind[person];
            behind[person] = 0;
            return was;
        }

        int changeFog(int much) {
            if (fog == much) {
                return NONE;
            }
            fog = much;
            return fog;
        }

        int passDays(int days) {
            if (days > LAST_DAY - day) {
                return NONE;
            }
            int sum = 0;
            for (int i = 0; i < arches; i++) {
                moss[i] = mossAfter(i, days);
                sum += moss[i];
            }
            trod = 0;
            day += days;
            return sum;
        }

        // ---- MENDS: NONE if by no JUMPS.

        int jumpsFor(int set, int arch) {
            // Behind so many an ARCH HOLDS all that it can and has no MOSS, so more are in vain.
            for (int jumps = 0; jumps <= MOST_HOLDS; jumps++) {
                if (bearsBehindJumps(set, arch, jumps)) {
                    return jumps;
                }
            }
            return NONE;
        }

        private boolean bearsBehindJumps(int set, int arch, int jumps) {
            int held = Math.min(MOST_HOLDS, holds[arch] + jumps);
            int grown = Math.max(0, moss[arch] - jumps);
            for (int i = 0; i < people; i++) {
                if (contains(set, i) && strainBy(i, doubt[i], grown + fog) > held) {
                    return false;
                }
            }
            return true;
        }

        int jumpsInAll(int set) {
            int sum = 0;
            for (int i = 0; i < arches; i++) {
                int jumps = jumpsFor(set, i);
                if (jumps == NONE) {
                    return NONE;
                }
                sum += jumps;
            }
            return sum;
        }

        // ---- GARDEN.

        int bestGarden(int room) {
            int best = 0;
            int most = 0;
            for (int set = 1; set < 1 << plants; set++) {
                int joyThere = joyOf(set);
                if (joyThere > most && sizeOf(set) <= room) {
                    best = set;
                    most = joyThere;
                }
            }
            return best;
        }

        int joyOf(int set) {
            return sumOfPlants(joy, set);
        }

        private int sizeOf(int set) {
            return sumOfPlants(size, set);
        }

        private int sumOfPlants(int[] row, int set) {
            int sum = 0;
            for (int i = 0; i < plants; i++) {
                if (contains(set, i)) {
                    sum += row[i];
                }
            }
            return sum;
        }
    }

    /** The cheapest ways in GROUPS that are well, for all sets of PEOPLE at once. */
    private static final class Groups {
        // Of a PERSON: the set of those with whom he is well (with himself: alone).
        final int[] well;
        // Of a set: TOLLS, NONE if it can't be.
        final int[] cost;
        private int people;
        private int tolls;

        Groups() {
            well = new int[MOST_PEOPLE];
            cost = new int[1 << MOST_PEOPLE];
        }

        void weigh(Viaduct viaduct) {
            people = viaduct.people;
            tolls = viaduct.tollsBetween(0, viaduct.arches);
            for (int i = 0; i < people; i++) {
                well[i] = wellWith(viaduct, i);
            }
            cost[0] = 0;
            for (int set = 1; set < 1 << people; set++) {
                cost[set] = cheapestOf(set);
            }
        }

        private static int wellWith(Viaduct viaduct, int person) {
            int set = 0;
            for (int i = 0; i < viaduct.people; i++) {
                boolean borne = i == person
                    ? viaduct.spanLength(i, 0) == viaduct.arches
                    : viaduct.stopRoped(person, i, 0) == viaduct.arches;
                if (borne) {
                    set |= 1 << i;
                }
            }
            return set;
        }

        /** Once the lesser sets have their costs. */
        private int cheapestOf(int set) {
            int first = 0;
            while (first < people && !contains(set, first)) {
                first++;
            }
            int least = NONE;
            for (int i = first; i < people; i++) {
                int price = priceOfGroup(set, first, i);
                if (price != NONE && (least == NONE || price < least)) {
                    least = price;
                }
            }
            return least;
        }

        /** Of a set whose least PERSON goes with a mate, the others as cheaply as can be. */
        private int priceOfGroup(int set, int first, int mate) {
            if (!contains(set, mate) || !contains(well[first], mate)) {
                return NONE;
            }
            int others = cost[without(set, first, mate)];
            return others == NONE ? NONE : others + tolls;
        }

        private static int without(int set, int person, int mate) {
            return set & ~(1 << person) & ~(1 << mate);
        }

        int mostOver() {
            int most = 0;
            for (int set = 1; set < 1 << people; set++) {
                if (cost[set] != NONE) {
                    most = Math.max(most, Integer.bitCount(set));
                }
            }
            return most;
        }

        int mateOf(int set, int person) {
            if (cost[set] == NONE) {
                return NONE;
            }
            int rest = set;
            for (int i = 0; i < people; i++) {
                if (!contains(rest, i)) {
                    continue;
                }
                int mate = leastMate(rest, i);
                if (mate == NONE || i == person) {
                    return mate;
                }
                if (mate == person) {
                    return i;
                }
                rest = without(rest, i, mate);
            }
            return NONE;
        }

        private int leastMate(int set, int first) {
            for (int i = first; i < people; i++) {
                int price = priceOfGroup(set, first, i);
                if (price != NONE && price == cost[set]) {
                    return i;
                }
            }
            return NONE;
        }
    }

    /** A GAME of two; it changes the VIADUCT that it is given, and takes each move back. */
    private static final class Contest {
        private Viaduct ground;
        private int first;
        private int second;
        private int turns;

        Contest(Viaduct viaduct) {
            ground = viaduct;
        }

        void begin(Viaduct viaduct, int person, int other, int n) {
            ground = viaduct;
            first = person;
            second = other;
            turns = n;
        }

        int outcome() {
            return worth(0);
        }

        int firstMove() {
            int best = worth(0);
            for (int move = GO; move < SIT; move++) {
                if (canMove(first, move) && worthBehind(0, first, move) == best) {
                    return move;
                }
            }
            return SIT;
        }

        private int worth(int turn) {
            if (turn >= turns || turn >= MOST_TURNS) {
                return ground.behind[first] - ground.behind[second];
            }
            boolean firsts = turn % 2 == 0;
            int mover = firsts ? first : second;
            int best = worthBehind(turn, mover, SIT);
            for (int move = GO; move < SIT; move++) {
                if (canMove(mover, move)) {
                    int other = worthBehind(turn, mover, move);
                    best = firsts ? Math.max(best, other) : Math.min(best, other);
                }
            }
            return best;
        }

        private boolean canMove(int mover, int move) {
            int next = ground.behind[mover];
            switch (move) {
                case GO:
                    return ground.hasArch(next) && ground.bearsAlone(mover, next);
                case JUMP_ON:
                    return ground.hasArch(next) && ground.canJumpOn(next);
                default:
                    return true;
            }
        }

        private int worthBehind(int turn, int mover, int move) {
            if (move == GO) {
                ground.behind[mover]++;
                int worth = worth(turn + 1);
                ground.behind[mover]--;
                return worth;
            }
            int next = ground.behind[mover];
            if (move == SIT || !ground.hasArch(next)) {
                return worth(turn + 1);
            }
            int held = ground.holds[next];
            int grown = ground.moss[next];
            ground.jumpOn(next);
            int worth = worth(turn + 1);
            ground.holds[next] = held;
            ground.moss[next] = grown;
            return worth;
        }
    }

    /** The tape, and the TOKENS of the text on it that is read, a sentence (up to its semicolon) at a time. */
    private static final class Text {
        int filled;
        // The TOKEN that stands next; of a WORD the value is its NAME.
        int code;
        long value;
        // NONE ahead of the first text.
        int fault;
        int faultPlace;
        private final byte[] bytes;
        private int length;
        private int next;
        private final int[] codes;
        private final int[] places;
        private final long[] values;
        private int tokens;
        private int cursor;
        private int place;

        Text() {
            bytes = new byte[TAPE_BYTES];
            codes = new int[SENTENCE];
            places = new int[SENTENCE];
            values = new long[SENTENCE];
            fault = NONE;
            faultPlace = NONE;
        }

        boolean hasRoomForTwenty() {
            return filled + 20 <= TAPE_BYTES;
        }

        void addFour(int four) {
            for (int shift = 24; shift >= 0 && filled < TAPE_BYTES; shift -= 8) {
                bytes[filled] = (byte) (four >> shift);
                filled++;
            }
        }

        void open(int n) {
            length = Math.min(n, TAPE_BYTES);
            next = 0;
            fault = 0;
            faultPlace = NONE;
        }

        // ---- TOKENS.

        void gather() {
            tokens = 0;
            boolean ended = false;
            for (int i = 0; i < SENTENCE && !ended; i++) {
                int found = findToken(i);
                codes[i] = found;
                tokens++;
                ended = found == T_SEMICOLON || found == T_END || found == T_BAD;
            }
            cursor = NONE;
            advance();
        }

        private int findToken(int slot) {
            while (next < length && (bytes[next] == 10 || bytes[next] == 32)) {
                next++;
            }
            places[slot] = next;
            values[slot] = 0;
            if (next >= length) {
                return T_END;
            }
            if (isLetter(bytes[next])) {
                return findWord(slot);
            }
            if (isDigit(bytes[next])) {
                return findNumber(slot);
            }
            next++;
            return signCode(bytes[next - 1]);
        }

        private int findWord(int slot) {
            int from = next;
            long name = 0;
            while (next < length && isLetter(bytes[next])) {
                // A longer WORD is no NAME, so what becomes of this by overflow is never looked at.
                name = name * 32 + (bytes[next] - 'a' + 1);
                next++;
            }
            values[slot] = name;
            if (next - from > NAME_LETTERS) {
                return T_LONG_WORD;
            }
            int keyword = findKeyword(from, next - from);
            return keyword == NONE ? T_NAME : keyword;
        }

        private int findNumber(int slot) {
            int from = next;
            int value = 0;
            while (next < length && isDigit(bytes[next])) {
                if (next - from < NUMBER_DIGITS) {
                    value = value * 10 + (bytes[next] - '0');
                }
                next++;
            }
            values[slot] = value;
            return next - from > NUMBER_DIGITS ? T_BAD : T_NUMBER;
        }

        private int findKeyword(int from, int letters) {
            int candidate = 0;
            // NONE from a letter on that is another one.
            int alike = 0;
            for (int i = 0; i < KEYWORDS.length(); i++) {
                char letter = KEYWORDS.charAt(i);
                if (letter == ' ') {
                    if (alike == letters) {
                        return candidate;
                    }
                    candidate++;
                    alike = 0;
                } else if (alike != NONE && alike < letters && bytes[from + alike] == letter) {
                    alike++;
                } else {
                    alike = NONE;
                }
            }
            return NONE;
        }

        private static boolean isLetter(int sign) {
            return sign >= 'a' && sign <= 'z';
        }

        private static boolean isDigit(int sign) {
            return sign >= '0' && sign <= '9';
        }

        private static int signCode(int sign) {
            switch (sign) {
                case ';':
                    return T_SEMICOLON;
                case '<':
                    return T_LESS;
                case '>':
                    return T_MORE;
                case '=':
                    return T_EQUAL;
                default:
                    return T_BAD;
            }
        }

        // ---- what the readers take.

        void advance() {
            cursor++;
            boolean within = cursor >= 0 && cursor < tokens;
            code = within ? codes[cursor] : T_END;
            value = within ? values[cursor] : 0;
            place = within ? places[cursor] : length;
        }

        /** Always false, as the reader's answer. */
        boolean refuse(int what) {
            fault = code == T_BAD ? NO_TOKEN : what;
            faultPlace = place;
            return false;
        }

        boolean take(int wanted) {
            if (code != wanted) {
                return refuse(MISPLACED);
            }
            advance();
            return true;
        }

        /** NONE with a FAULT. */
        int takeNumber(int least, int greatest) {
            if (code != T_NUMBER) {
                refuse(MISPLACED);
                return NONE;
            }
            if (value < least || value > greatest) {
                refuse(BAD_NUMBER);
                return NONE;
            }
            int number = (int) value;
            advance();
            return number;
        }
    }

    /** Reads a VIADUCT. */
    private static final class ViaductReader {
        private final Text text;
        // The set of net, fog, odds that are told.
        private int told;

        ViaductReader(Text source) {
            text = source;
        }

        boolean readInto(Viaduct viaduct) {
            viaduct.clear();
            told = 0;
            // Each PART has some bytes, so there are fewer.
            for (int i = 0; i <= TAPE_BYTES; i++) {
                text.gather();
                if (text.code == T_END) {
                    return true;
                }
                if (!takePart(viaduct)) {
                    return false;
                }
            }
            return false;
        }

        private boolean takePart(Viaduct viaduct) {
            switch (text.code) {
                case K_NET:
                case K_FOG:
                case K_ODDS:
                    return takeRule(viaduct, text.code);
                case K_ARCH:
                    return takeArch(viaduct);
                case K_PERSON:
                    return takePerson(viaduct);
                case K_PLANT:
                    return takePlant(viaduct);
                default:
                    return text.refuse(MISPLACED);
            }
        }

        private boolean takeRule(Viaduct viaduct, int which) {
            if (contains(told, which)) {
                return text.refuse(TOLD_ALREADY);
            }
            told |= 1 << which;
            text.advance();
            int greatest = which == K_NET ? MOST_NET : which == K_FOG ? MOST_FOG : MOST_ODDS;
            int much = text.takeNumber(0, greatest);
            if (much == NONE) {
                return false;
            }
            if (which == K_NET) {
                viaduct.net = much;
            } else if (which == K_FOG) {
                viaduct.fog = much;
            } else {
                viaduct.odds = much;
            }
            return text.take(T_SEMICOLON);
        }

        private boolean takeArch(Viaduct viaduct) {
            if (viaduct.arches >= MOST_ARCHES) {
                return text.refuse(ONE_PART_TOO_MANY);
            }
            text.advance();
            if (!text.take(K_HOLDS)) {
                return false;
            }
            int held = text.takeNumber(0, MOST_HOLDS);
            if (held == NONE) {
                return false;
            }
            int arch = viaduct.arches;
            viaduct.addArch(held, USUAL_TOLL);
            return takeOption(K_MOSS, MOST_MOSS, viaduct.moss, arch)
                && takeOption(K_TOLL, MOST_TOLL, viaduct.toll, arch)
                && text.take(T_SEMICOLON);
        }

        private boolean takePerson(Viaduct viaduct) {
            if (viaduct.people >= MOST_PEOPLE) {
                return text.refuse(ONE_PART_TOO_MANY);
            }
            text.advance();
            if (text.code != T_NAME) {
                return text.refuse(MISPLACED);
            }
            long name = text.value;
            if (viaduct.personNamed(name) != NONE) {
                return text.refuse(NAME_FAULT);
            }
            text.advance();
            if (!text.take(K_WEIGHT)) {
                return false;
            }
            int weight = text.takeNumber(1, MOST_WEIGHT);
            if (weight == NONE) {
                return false;
            }
            int person = viaduct.people;
            viaduct.addPerson(name, weight);
            return takeOption(K_DOUBT, MOST_DOUBT, viaduct.doubt, person)
                && takeOption(K_LOVE, MOST_LOVE, viaduct.love, person)
                && takeOption(K_AT, viaduct.arches, viaduct.behind, person)
                && text.take(T_SEMICOLON);
        }

        private boolean takePlant(Viaduct viaduct) {
            if (viaduct.plants >= MOST_PLANTS) {
                return text.refuse(ONE_PART_TOO_MANY);
            }
            text.advance();
            int size = text.takeNumber(1, MOST_SIZE);
            if (size == NONE || !text.take(K_JOY)) {
                return false;
            }
            int joy = text.takeNumber(0, MOST_JOY);
            if (joy == NONE) {
                return false;
            }
            viaduct.addPlant(size, joy);
            return text.take(T_SEMICOLON);
        }

        /** What is perhaps told; without it the row keeps what it has. */
        private boolean takeOption(int keyword, int greatest, int[] row, int place) {
            if (text.code != keyword) {
                return true;
            }
            text.advance();
            int much = text.takeNumber(0, greatest);
            if (much == NONE) {
                return false;
            }
            row[place] = much;
            return true;
        }
    }

    /** DECADES: a row for each STEP and each end, in the order of the text. */
    private static final class Steps {
        // Whether there are DECADES; they may well be without a STEP.
        boolean there;
        int many;
        int rows;
        // The WORD that the row begins with.
        final int[] word;
        // Its PERSON, ARCH or number; of a when the PERSON or ARCH that is looked at.
        final int[] first;
        // Of a rope the other; of a when the number to compare with.
        final int[] second;
        // Of a when: over, at or moss; and the sign.
        final int[] test;
        final int[] compares;
        // Of a when or loop its end, of an end what it ends.
        final int[] partner;

        Steps() {
            word = new int[MOST_ROWS];
            first = new int[MOST_ROWS];
            second = new int[MOST_ROWS];
            test = new int[MOST_ROWS];
            compares = new int[MOST_ROWS];
            partner = new int[MOST_ROWS];
            clear();
        }

        void clear() {
            there = false;
            many = 0;
            rows = 0;
        }

        void takeOver(Steps other) {
            there = other.there;
            many = other.many;
            rows = other.rows;
            System.arraycopy(other.word, 0, word, 0, MOST_ROWS);
            System.arraycopy(other.first, 0, first, 0, MOST_ROWS);
            System.arraycopy(other.second, 0, second, 0, MOST_ROWS);
            System.arraycopy(other.test, 0, test, 0, MOST_ROWS);
            System.arraycopy(other.compares, 0, compares, 0, MOST_ROWS);
            System.arraycopy(other.partner, 0, partner, 0, MOST_ROWS);
        }
    }

    /** Reads DECADES. */
    private static final class StepsReader {
        private final Text text;
        private final int[] open;
        private int depth;
        private Steps steps;
        private Viaduct viaduct;

        StepsReader(Text source, Steps target, Viaduct people) {
            text = source;
            steps = target;
            viaduct = people;
            open = new int[MOST_DEPTH];
        }

        boolean readInto(Steps target, Viaduct people) {
            steps = target;
            viaduct = people;
            steps.clear();
            depth = 0;
            // Each STEP, and each end, has some bytes, so there are fewer.
            for (int i = 0; i <= DECADES_BYTES; i++) {
                text.gather();
                if (text.code == T_END) {
                    steps.there = depth == 0;
                    return steps.there || text.refuse(MISPLACED);
                }
                if (!takeRow()) {
                    return false;
                }
            }
            return false;
        }

        private boolean takeRow() {
            int word = text.code;
            if (word == K_END) {
                return takeEnd();
            }
            if (!beginsStep(word)) {
                return text.refuse(MISPLACED);
            }
            if (steps.many >= MOST_STEPS || steps.rows >= MOST_ROWS) {
                return text.refuse(ONE_PART_TOO_MANY);
            }
            boolean opens = word == K_WHEN || word == K_LOOP;
            if (opens && depth >= MOST_DEPTH) {
                return text.refuse(TOO_DEEP);
            }
            int row = steps.rows;
            steps.word[row] = word;
            text.advance();
            if (!takeRest(word, row) || !text.take(T_SEMICOLON)) {
                return false;
            }
            if (opens) {
                open[depth] = row;
                depth++;
            }
            steps.rows++;
            steps.many++;
            return true;
        }

        private static boolean beginsStep(int word) {
            switch (word) {
                case K_RUN:
                case K_ROPE:
                case K_JUMP:
                case K_HOME:
                case K_DAY:
                case K_FOG:
                case K_ANY:
                case K_WHEN:
                case K_LOOP:
                case K_STOP:
                    return true;
                default:
                    return false;
            }
        }

        private boolean takeEnd() {
            // As many ends as STEPS at the most, so there is a row for each.
            if (depth <= 0 || steps.rows >= MOST_ROWS) {
                return text.refuse(MISPLACED);
            }
            text.advance();
            if (!text.take(T_SEMICOLON)) {
                return false;
            }
            depth--;
            int row = steps.rows;
            steps.word[row] = K_END;
            steps.partner[row] = open[depth];
            steps.partner[open[depth]] = row;
            steps.rows++;
            return true;
        }

        private boolean takeRest(int word, int row) {
            switch (word) {
                case K_RUN:
                case K_HOME:
                    return keep(steps.first, row, takeName());
                case K_ROPE:
                    return keep(steps.first, row, takeName()) && keep(steps.second, row, takeName());
                case K_JUMP:
                    return keep(steps.first, row, text.takeNumber(0, viaduct.arches - 1));
                case K_DAY:
                    return keep(steps.first, row, text.takeNumber(1, MOST_DAYS_AHEAD));
                case K_FOG:
                    return keep(steps.first, row, text.takeNumber(0, MOST_FOG));
                case K_LOOP:
                    return keep(steps.first, row, text.takeNumber(1, MOST_ROUNDS));
                case K_WHEN:
                    return takeTest(row);
                default:
                    return true;
            }
        }

        private boolean takeTest(int row) {
            int test = text.code;
            steps.test[row] = test;
            if (test != K_OVER && test != K_AT && test != K_MOSS) {
                return text.refuse(MISPLACED);
            }
            text.advance();
            int subject = test == K_MOSS ? text.takeNumber(0, viaduct.arches - 1) : takeName();
            if (!keep(steps.first, row, subject)) {
                return false;
            }
            if (test == K_OVER) {
                return true;
            }
            int sign = text.code;
            if (sign != T_LESS && sign != T_MORE && sign != T_EQUAL) {
                return text.refuse(MISPLACED);
            }
            steps.compares[row] = sign;
            text.advance();
            return keep(steps.second, row, text.takeNumber(0, MOST_COMPARED));
        }

        /** The PERSON; NONE with a FAULT. */
        private int takeName() {
            if (text.code != T_NAME) {
                text.refuse(MISPLACED);
                return NONE;
            }
            int person = viaduct.personNamed(text.value);
            if (person == NONE) {
                text.refuse(NAME_FAULT);
                return NONE;
            }
            text.advance();
            return person;
        }

        private static boolean keep(int[] column, int row, int what) {
            column[row] = what;
            return what != NONE;
        }
    }

    /** DECADES as they are LIVED by a seed. */
    private static final class Life {
        int done;
        int missed;
        boolean left;
        private final int[] roundsLeft;
        private int drawn;
        private Viaduct viaduct;
        private Steps steps;

        Life(Viaduct ground, Steps way) {
            viaduct = ground;
            steps = way;
            roundsLeft = new int[MOST_ROWS];
        }

        void goThrough(Viaduct ground, Steps way, int seed) {
            viaduct = ground;
            steps = way;
            drawn = seed;
            done = 0;
            missed = 0;
            left = false;
            int row = 0;
            for (int i = 0; i < ROWS_VISITED && row < steps.rows; i++) {
                if (steps.word[row] == K_END) {
                    row = rowBehindEnd(row);
                    continue;
                }
                if (done >= MOST_STEPS_DONE) {
                    left = true;
                    return;
                }
                done++;
                if (doStep(row) == NONE) {
                    missed++;
                }
                row = rowBehindStep(row);
            }
        }

        private int rowBehindEnd(int row) {
            int begin = steps.partner[row];
            if (steps.word[begin] == K_LOOP && roundsLeft[begin] > 0) {
                roundsLeft[begin]--;
                return begin + 1;
            }
            return row + 1;
        }

        private int rowBehindStep(int row) {
            switch (steps.word[row]) {
                case K_STOP:
                    return steps.rows;
                case K_WHEN:
                    return holdsTest(row) ? row + 1 : steps.partner[row] + 1;
                case K_LOOP:
                    // Rounds of a loop without a STEP would do nothing, however many.
                    roundsLeft[row] = steps.partner[row] == row + 1 ? 0 : steps.first[row] - 1;
                    return row + 1;
                default:
                    return row + 1;
            }
        }

        private boolean holdsTest(int row) {
            int subject = steps.first[row];
            switch (steps.test[row]) {
                case K_OVER:
                    return viaduct.isOver(subject);
                case K_AT:
                    return compare(viaduct.behind[subject], row);
                default:
                    return compare(viaduct.moss[subject], row);
            }
        }

        private boolean compare(int value, int row) {
            switch (steps.compares[row]) {
                case T_LESS:
                    return value < steps.second[row];
                case T_MORE:
                    return value > steps.second[row];
                default:
                    return value == steps.second[row];
            }
        }

        /** NONE if it is MISSED. */
        private int doStep(int row) {
            int first = steps.first[row];
            switch (steps.word[row]) {
                case K_RUN:
                    return viaduct.letRun(first);
                case K_ROPE:
                    return viaduct.letRope(first, steps.second[row]);
                case K_JUMP:
                    return viaduct.jumpOn(first);
                case K_HOME:
                    return viaduct.sendHome(first);
                case K_DAY:
                    return viaduct.passDays(first);
                case K_FOG:
                    return viaduct.changeFog(first);
                case K_ANY:
                    return doAny();
                default:
                    return row;
            }
        }

        private int doAny() {
            if (viaduct.people <= 0) {
                return NONE;
            }
            int person = draw(viaduct.people);
            // Drawn even where nothing can be done by it.
            boolean runs = draw(MOST_ODDS) < viaduct.odds;
            return runs ? viaduct.letRun(person) : viaduct.sendHome(person);
        }

        private int draw(int n) {
            drawn = (drawn * 3217 + 11447) % 65536;
            return n > 0 ? drawn / 8 % n : 0;
        }
    }
}
