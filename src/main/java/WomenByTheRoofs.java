import java.util.NoSuchElementException;

/**
 * A town in which men go by streets and women by roofs, and meet only where a
 * stair comes up. DOC.md tells what each call promises.
 */
public final class WomenByTheRoofs {
    public static final int NONE = -1;

    private static final int CANNOT = -2;
    private static final int NOT_KNOWN = -100;
    private static final int SIDE = 6;
    private static final int CELLS = 36;
    private static final int HALF = 18;
    private static final int FOLK = 8;
    private static final int STEPS = 9;
    private static final int PLANKS = 6;
    private static final int STAYS = 4;
    private static final int STAIR = 3;
    private static final int BELOW = 0;
    private static final int ABOVE = 1;
    private static final int MOST_SIGNS = 80;
    private static final int FOLK_SIGNS = 76;
    private static final int RULE_SIGNS = 40;
    private static final int EVENING_SIGNS = 60;
    private static final int LONGEST = 60;
    private static final int FLIGHT = 30;
    private static final int ROW = 10;
    private static final int PARTED = 3;
    private static final int FAR = 1000000;

    private final Signs signs;
    private final Ground ground;
    private final Crowd crowd;
    private final Scene scene;
    private final Scene before;
    private final Scene spare;
    private final Nets nets;
    private final Nets trial;
    private final Law law;
    private final Clock clock;
    private final History history;
    private final Acts acts;
    private final Thief thief;
    private final Ways ways;
    private final int[] numbers;
    private int told;
    private int burning;

    public WomenByTheRoofs() {
        signs = new Signs();
        ground = new Ground();
        crowd = new Crowd();
        scene = new Scene();
        before = new Scene();
        spare = new Scene();
        nets = new Nets();
        trial = new Nets();
        law = new Law();
        clock = new Clock();
        history = new History();
        acts = new Acts();
        thief = new Thief();
        ways = new Ways();
        numbers = new int[ROW];
        told = 0;
        burning = NONE;
    }

    // ---- the town

    public int sign(int v) {
        return signs.add(v) ? signs.length : NONE;
    }

    public boolean end(int n) {
        if (n < 0 || n > signs.length) {
            return false;
        }
        signs.length = n;
        return true;
    }

    public int town() {
        int answer = ground.read(signs);
        signs.length = 0;
        if (answer < 0) {
            return answer;
        }
        crowd.clear();
        scene.clear();
        history.clear();
        burning = NONE;
        nets.lay(ground, scene, NONE);
        return answer;
    }

    public int folk() {
        int lines = crowd.read(signs, ground);
        signs.length = 0;
        if (lines <= 0) {
            return lines;
        }
        int first = crowd.many;
        crowd.admit(lines);
        for (int person = first; person < crowd.many; person++) {
            scene.put(person, crowd.cells[person], crowd.woman(person) ? ABOVE : BELOW);
        }
        history.forget();
        history.spoil();
        return lines;
    }

    public int rule() {
        int answer = law.read(signs);
        signs.length = 0;
        return answer;
    }

    public int route(int person) {
        int answer = crowd.has(person) ? crowd.tellWay(person, signs) : NOT_KNOWN;
        signs.length = 0;
        if (answer < 0) {
            return answer;
        }
        scene.place[person] = 0;
        history.forget();
        history.spoil();
        return answer;
    }

    public int cell(int cell, int what) throws NoSuchElementException {
        if (!ground.has(cell)) {
            throw new NoSuchElementException();
        }
        switch (what) {
            case 0:
                return ground.kind[cell];
            case 1:
                return scene.standing(BELOW, cell, crowd.many);
            case 2:
                return scene.standing(ABOVE, cell, crowd.many);
            case 3:
                return scene.planksAt(cell);
            case 4:
                return Long.bitCount(nets.near[cell]);
            case 5:
                return Long.bitCount(nets.near[CELLS + cell]);
            default:
                throw new NoSuchElementException();
        }
    }

    public int person(int person, int what) throws NoSuchElementException {
        if (!crowd.has(person)) {
            throw new NoSuchElementException();
        }
        switch (what) {
            case 0:
                return crowd.woman(person) ? 1 : 0;
            case 1:
                return scene.at[person];
            case 2:
                return scene.level[person];
            case 3:
                return scene.place[person];
            case 4:
                return crowd.lengths[person];
            case 5:
                return scene.news >> person & 1;
            case 6:
                return scene.meetingsOf(person);
            case 7:
                return law.goes(person, scene, crowd, ground) ? 1 : 0;
            default:
                throw new NoSuchElementException();
        }
    }

    public int build(int cell, int what) {
        if (!ground.has(cell) || what < 0 || what > STAIR || !canBecome(cell, what)) {
            return NONE;
        }
        int was = ground.kind[cell];
        ground.kind[cell] = what;
        history.forget();
        history.spoil();
        nets.lay(ground, scene, NONE);
        return was;
    }

    public int plank(int one, int other) {
        before.copy(scene);
        int answer = lay(one, other);
        if (answer >= 0) {
            history.add(before);
        }
        return answer;
    }

    public int take() {
        before.copy(scene);
        if (!lift()) {
            return NONE;
        }
        history.add(before);
        return scene.laid;
    }

    public int sheet(int kind, int n, int f, int step) {
        if (kind < 0 || kind > 3 || n > FOLK) {
            return NONE;
        }
        if (kind != 3 && n < 0) {
            return CANNOT;
        }
        int sum = 0;
        for (int person = 0; person < FOLK; person++) {
            int place = 0;
            if (kind != 3 && person < n) {
                place = crowd.within(person, narrow(kind, f + person * step));
            }
            scene.place[person] = place;
            sum += place;
        }
        return kind == 3 ? -3 : sum;
    }

    // ---- minutes

    public int tell(int person) {
        before.copy(scene);
        if (!give(person)) {
            return NONE;
        }
        history.add(before);
        return Integer.bitCount(scene.news);
    }

    public int feast(int is) {
        before.copy(scene);
        if (is < 0 || is > 1 || !celebrate(is)) {
            return NONE;
        }
        history.add(before);
        return womenBelow();
    }

    public int minute() {
        before.copy(scene);
        clock.pass(scene, crowd, ground, law, nets);
        history.add(before);
        emptyRow();
        note(clock.stepped);
        note(clock.got);
        return clock.meetings;
    }

    public int minutes(int n) {
        if (n < 0 || n > LONGEST) {
            return NONE;
        }
        before.copy(scene);
        clock.reset();
        for (int i = 0; i < n; i++) {
            clock.pass(scene, crowd, ground, law, nets);
        }
        if (n > 0) {
            history.add(before);
        }
        emptyRow();
        note(clock.allSteps);
        note(scene.news);
        return clock.allMeetings;
    }

    public int evening() {
        int many = acts.read(signs);
        signs.length = 0;
        if (many < 0) {
            return many;
        }
        before.copy(scene);
        clock.reset();
        int done = 0;
        for (int i = 0; i < many && done == i; i++) {
            if (does(i)) {
                done++;
            }
        }
        if (done > 0) {
            history.add(before);
        }
        emptyRow();
        note(done < many ? 1 : 0);
        note(clock.allMeetings);
        return done;
    }

    public int undo() {
        if (!history.back(scene)) {
            return NONE;
        }
        nets.lay(ground, scene, NONE);
        return history.many;
    }

    public int met(int one, int other) {
        if (!areTwo(one, other)) {
            return NONE;
        }
        return scene.meetingsOfTwo(one, other);
    }

    // ---- minutes to come

    public int ahead(int n) {
        if (n < 0 || n > LONGEST) {
            return NONE;
        }
        spare.copy(scene);
        clock.reset();
        for (int i = 0; i < n; i++) {
            clock.pass(spare, crowd, ground, law, nets);
        }
        emptyRow();
        for (int person = 0; person < crowd.many; person++) {
            note(spare.at[person]);
        }
        return clock.allMeetings;
    }

    public int meet(int one, int other) {
        if (!areTwo(one, other)) {
            return NONE;
        }
        if (crowd.woman(one) == crowd.woman(other)) {
            return CANNOT;
        }
        spare.copy(scene);
        for (int after = 1; after <= LONGEST; after++) {
            clock.pass(spare, crowd, ground, law, nets);
            int cell = spare.at[one];
            if (cell == spare.at[other] && ground.isStair(cell)) {
                emptyRow();
                note(cell);
                return after;
            }
        }
        return CANNOT;
    }

    public int known() {
        int all = (1 << crowd.many) - 1;
        spare.copy(scene);
        int after = 0;
        for (int i = 0; i < LONGEST && spare.news != all; i++) {
            clock.pass(spare, crowd, ground, law, nets);
            after++;
        }
        emptyRow();
        note(spare.news);
        return spare.news == all ? after : CANNOT;
    }

    public int gossip(int n) {
        if (n < 0 || n > LONGEST) {
            return CANNOT;
        }
        int best = NONE;
        int most = hearers(n, 0);
        for (int person = 0; person < crowd.many; person++) {
            boolean fresh = (scene.news >> person & 1) == 0;
            int heard = fresh ? hearers(n, 1 << person) : 0;
            if (heard > most) {
                most = heard;
                best = person;
            }
        }
        emptyRow();
        note(most);
        return best;
    }

    // ---- nets

    public int pieces(int level) {
        if (level < BELOW || level > ABOVE) {
            return NONE;
        }
        long left = nets.net[level];
        int many = 0;
        int largest = 0;
        int least = NONE;
        for (int cell = 0; cell < CELLS; cell++) {
            if ((left >> cell & 1L) != 0L) {
                long piece = nets.flood(level, cell, 0L);
                left &= ~piece;
                many++;
                if (Long.bitCount(piece) > largest) {
                    largest = Long.bitCount(piece);
                    least = cell;
                }
            }
        }
        emptyRow();
        note(largest);
        note(least);
        return many;
    }

    public int reach(int level, int cell) {
        if (level < BELOW || level > ABOVE || !ground.has(cell)) {
            return NONE;
        }
        if (!ground.holds(level, cell)) {
            return CANNOT;
        }
        long set = nets.flood(level, cell, 0L);
        emptyRow();
        noteSet(set);
        return Long.bitCount(set);
    }

    public int path(int level, int from, int to) {
        if (!ground.holds(level, from) || !ground.holds(level, to)) {
            return NONE;
        }
        nets.measure(level, to, ways.first);
        int many = ways.first[from];
        if (many >= FAR) {
            return CANNOT;
        }
        emptyRow();
        int cell = from;
        for (int i = 0; i < many && i < ROW && cell != NONE; i++) {
            int step = nets.stepNearer(level, cell, ways.first);
            note(step);
            cell = nets.toward(level, cell, step);
        }
        return many;
    }

    public int both(int level, int from, int levelTo, int to) {
        if (!ground.holds(level, from) || !ground.holds(levelTo, to)) {
            return NONE;
        }
        int price = ways.acrossLevels(nets, level * CELLS + from, levelTo * CELLS + to);
        if (price >= FAR) {
            return CANNOT;
        }
        emptyRow();
        note(price % Ways.DEAR);
        return price / Ways.DEAR;
    }

    public int errand(int from, int to) {
        if (!ground.holds(BELOW, from) || !ground.holds(ABOVE, to)) {
            return NONE;
        }
        nets.measure(BELOW, from, ways.first);
        nets.measure(ABOVE, to, ways.second);
        int soonest = FAR;
        for (int man = 0; man < crowd.many; man++) {
            for (int woman = 0; woman < crowd.many; woman++) {
                if (!crowd.woman(man) && crowd.woman(woman) && scene.level[woman] == ABOVE) {
                    soonest = handOver(man, woman, soonest);
                }
            }
        }
        return soonest >= FAR ? CANNOT : soonest;
    }

    public int tryst(int man, int woman) {
        if (!areManAndWoman(man, woman)) {
            return NONE;
        }
        int stair = soonestStair(nets, man, woman);
        if (stair == NONE) {
            return CANNOT;
        }
        emptyRow();
        note(ways.later(stair));
        return stair;
    }

    public int open(int man, int woman) {
        if (!areManAndWoman(man, woman)) {
            return NONE;
        }
        int best = NONE;
        int soonest = FAR;
        for (int cell = 0; cell < ground.size; cell++) {
            int after = canOpen(cell) ? trystWith(cell, man, woman) : FAR;
            if (after < soonest) {
                soonest = after;
                best = cell;
            }
        }
        if (best == NONE) {
            return CANNOT;
        }
        emptyRow();
        note(soonest);
        return best;
    }

    public int part(int man, int woman) {
        if (!areManAndWoman(man, woman)) {
            return NONE;
        }
        long closable = nets.stairs() & ~(1L << scene.at[man]) & ~(1L << scene.at[woman]);
        if (canTryst(man, woman, closable)) {
            return CANNOT;
        }
        for (int many = 0; many <= PARTED; many++) {
            long closed = partedBy(man, woman, closable, many, 0L);
            if (closed >= 0L) {
                emptyRow();
                for (int cell = 0; cell < CELLS; cell++) {
                    if ((closed >> cell & 1L) != 0L) {
                        note(cell);
                    }
                }
                return many;
            }
        }
        return CANNOT;
    }

    public int planks(int from, int to) {
        if (!ground.holds(ABOVE, from) || !ground.holds(ABOVE, to)) {
            return NONE;
        }
        int price = ways.bridged(ground, nets, from, to);
        if (price >= FAR) {
            return CANNOT;
        }
        emptyRow();
        note(price % Ways.DEAR);
        return price / Ways.DEAR;
    }

    // ---- fire

    public int fire(int cell) {
        if (cell != NONE && !ground.has(cell)) {
            return CANNOT;
        }
        int was = burning;
        burning = cell;
        return was;
    }

    public int fights(int n) {
        if (n < 0 || n > LONGEST) {
            return NONE;
        }
        if (burning == NONE) {
            return CANNOT;
        }
        int fighters = 0;
        for (int person = 0; person < crowd.many; person++) {
            if (stepsToFire(person) <= n) {
                fighters |= 1 << person;
            }
        }
        int women = Integer.bitCount(fighters & crowd.women);
        emptyRow();
        note(Integer.bitCount(fighters) - women);
        note(women);
        return fighters;
    }

    public int saved() {
        if (burning == NONE) {
            return CANNOT;
        }
        int man = soonestAtFire(false);
        int woman = soonestAtFire(true);
        if (man == NONE || woman == NONE) {
            return CANNOT;
        }
        emptyRow();
        note(man);
        note(woman);
        return Math.max(stepsToFire(man), stepsToFire(woman));
    }

    public int wardrobe(int from, int to) {
        if (!ground.isStair(from) || !ground.isStair(to)) {
            return NONE;
        }
        ways.measurePairs(ground, to);
        int state = from * Ways.SIDES + STAYS;
        int many = ways.pairFar[state];
        if (many >= FAR) {
            return CANNOT;
        }
        emptyRow();
        for (int i = 0; i < many && i < ROW && state != NONE; i++) {
            int steps = ways.pairNearer(ground, state);
            note(steps / Ways.SIDES * 10 + steps % Ways.SIDES);
            state = ways.pairAfter(ground, state, steps);
        }
        return many;
    }

    // ---- thieves

    public int flees(int cell, int level, int n) {
        if (!ground.holds(level, cell) || n < 1 || n > FLIGHT) {
            return NONE;
        }
        spare.copy(scene);
        thief.start(level, cell);
        for (int i = 0; i < n; i++) {
            hunt();
        }
        emptyRow();
        noteSet(thief.below);
        noteSet(thief.above);
        return thief.gone() ? 0 : 1;
    }

    public int lairs(int n) {
        if (n < 1 || n > FLIGHT) {
            return NONE;
        }
        spare.copy(scene);
        for (int i = 0; i < n; i++) {
            clock.pass(spare, crowd, ground, law, nets);
            thief.record(i, spare.occupied(BELOW, crowd.many), spare.occupied(ABOVE, crowd.many));
        }
        thief.below = nets.net[BELOW];
        thief.above = nets.net[ABOVE];
        for (int i = n - 1; i >= 0; i--) {
            thief.strike(i);
            thief.stir(nets);
        }
        emptyRow();
        noteSet(thief.below);
        noteSet(thief.above);
        return Long.bitCount(thief.below) + Long.bitCount(thief.above);
    }

    public int caught(int cell, int level) {
        if (!ground.holds(level, cell)) {
            return NONE;
        }
        spare.copy(scene);
        thief.start(level, cell);
        for (int after = 1; after <= FLIGHT; after++) {
            hunt();
            if (thief.gone()) {
                return after;
            }
        }
        return CANNOT;
    }

    public int watch(int cell, int level, int aim, int aimLevel) {
        if (!ground.holds(level, cell) || !ground.holds(aimLevel, aim)) {
            return NONE;
        }
        for (int many = 0; many <= crowd.many; many++) {
            for (int set = 0; set < 1 << crowd.many; set++) {
                if (Integer.bitCount(set) == many && !slipsBy(set, level, cell, aimLevel, aim)) {
                    emptyRow();
                    note(set);
                    return many;
                }
            }
        }
        return CANNOT;
    }

    // ---- kept

    public boolean keep(int i) {
        return history.store(i, scene);
    }

    public boolean again(int i) {
        if (!history.restore(i, scene)) {
            return false;
        }
        history.forget();
        nets.lay(ground, scene, NONE);
        return true;
    }

    public int count(int what) {
        switch (what) {
            case 0:
                return ground.size;
            case 1:
                return ground.wide;
            case 2:
                return crowd.many;
            case 3:
                return scene.now;
            case 4:
                return scene.laid;
            case 5:
                return crowd.women;
            case 6:
                return scene.news;
            case 7:
                return scene.festive;
            case 8:
                return scene.allMeetings();
            case 9:
                return burning;
            case 10:
                return history.many;
            case 11:
                return told;
            case 12:
                return signs.length;
            default:
                return NOT_KNOWN;
        }
    }

    public int row(int i) throws NoSuchElementException {
        if (i < 0 || i >= told || i >= ROW) {
            throw new NoSuchElementException();
        }
        return numbers[i];
    }

    // ---- the ROW

    private void emptyRow() {
        told = 0;
    }

    private void note(int number) {
        if (told >= 0 && told < ROW) {
            numbers[told] = number;
            told++;
        }
    }

    private void noteSet(long set) {
        note((int) (set & (1L << HALF) - 1L));
        note((int) (set >> HALF));
    }

    // ---- who is asked of

    private boolean areTwo(int one, int other) {
        return crowd.has(one) && crowd.has(other) && one != other;
    }

    private boolean areManAndWoman(int man, int woman) {
        return crowd.has(man) && crowd.has(woman) && !crowd.woman(man) && crowd.woman(woman);
    }

    private int womenBelow() {
        int many = 0;
        for (int person = 0; person < crowd.many; person++) {
            if (crowd.woman(person) && scene.level[person] == BELOW) {
                many++;
            }
        }
        return many;
    }

    // ---- what calls and ACTS of an evening do alike

    private boolean canBecome(int cell, int what) {
        for (int level = BELOW; level <= ABOVE; level++) {
            boolean lost = (what >> level & 1) == 0;
            if (lost && scene.standing(level, cell, crowd.many) != 0) {
                return false;
            }
        }
        boolean roof = (what >> ABOVE & 1) != 0;
        return roof ? !scene.isUnderPlank(ground, cell) : scene.planksAt(cell) == 0;
    }

    private int lay(int one, int other) {
        if (!ground.has(one) || !ground.has(other)) {
            return NONE;
        }
        int middle = ground.between(one, other);
        if (middle == NONE || !ground.holds(ABOVE, one) || !ground.holds(ABOVE, other)
                || ground.holds(ABOVE, middle)) {
            return CANNOT;
        }
        if (scene.hasPlank(one, other)) {
            return -3;
        }
        if (!scene.addPlank(one, other)) {
            return -4;
        }
        nets.lay(ground, scene, NONE);
        return scene.laid - 1;
    }

    private boolean lift() {
        if (scene.laid <= 0) {
            return false;
        }
        scene.laid--;
        nets.lay(ground, scene, NONE);
        return true;
    }

    private boolean give(int person) {
        if (!crowd.has(person) || (scene.news >> person & 1) != 0) {
            return false;
        }
        scene.news |= 1 << person;
        return true;
    }

    private boolean celebrate(int is) {
        if (scene.festive == is || is == 0 && womenAreAstray()) {
            return false;
        }
        scene.festive = is;
        for (int person = 0; person < crowd.many; person++) {
            if (crowd.woman(person) && ground.isStair(scene.at[person])) {
                scene.level[person] = is == 1 ? BELOW : ABOVE;
            }
        }
        return true;
    }

    private boolean womenAreAstray() {
        for (int person = 0; person < crowd.many; person++) {
            if (crowd.woman(person) && scene.level[person] == BELOW
                    && !ground.isStair(scene.at[person])) {
                return true;
            }
        }
        return false;
    }

    private boolean does(int act) {
        if (act < 0 || act >= Acts.MOST) {
            return false;
        }
        switch (acts.kinds[act]) {
            case 'm':
                return lasts(acts.ones[act]);
            case 'n':
                return give(acts.ones[act]);
            case 'p':
                return lay(acts.ones[act], acts.others[act]) >= 0;
            case 'x':
                return lift();
            case 'f':
                return celebrate(1 - scene.festive);
            default:
                return false;
        }
    }

    private boolean lasts(int n) {
        if (n > LONGEST) {
            return false;
        }
        for (int i = 0; i < n; i++) {
            clock.pass(scene, crowd, ground, law, nets);
        }
        return true;
    }

    private static int narrow(int kind, int number) {
        if (kind == 0) {
            return (byte) number;
        }
        return kind == 1 ? (short) number : number;
    }

    // ---- what questions look at

    private int hearers(int n, int more) {
        spare.copy(scene);
        spare.news |= more;
        for (int i = 0; i < n; i++) {
            clock.pass(spare, crowd, ground, law, nets);
        }
        return Integer.bitCount(spare.news);
    }

    /** The soonest end of an errand by these two, noted in the ROW if it is sooner. */
    private int handOver(int man, int woman, int soonest) {
        int best = soonest;
        nets.measure(ABOVE, scene.at[woman], ways.third);
        int fetched = ways.first[scene.at[man]];
        for (int stair = 0; stair < ground.size; stair++) {
            if (ground.isStair(stair)) {
                int brought = fetched + ways.first[stair];
                int after = Math.max(brought, ways.third[stair]) + ways.second[stair];
                if (after < best) {
                    best = after;
                    emptyRow();
                    note(man);
                    note(woman);
                    note(stair);
                }
            }
        }
        return best;
    }

    private int soonestStair(Nets which, int man, int woman) {
        which.measure(scene.level[man], scene.at[man], ways.first);
        which.measure(scene.level[woman], scene.at[woman], ways.second);
        int best = NONE;
        int soonest = FAR;
        for (int cell = 0; cell < CELLS; cell++) {
            if ((which.stairs() >> cell & 1L) != 0L && ways.later(cell) < soonest) {
                soonest = ways.later(cell);
                best = cell;
            }
        }
        return best;
    }

    private boolean canOpen(int cell) {
        int kind = ground.kind[cell];
        return kind != 0 && kind != STAIR && !scene.isUnderPlank(ground, cell);
    }

    private int trystWith(int stair, int man, int woman) {
        trial.lay(ground, scene, stair);
        int best = soonestStair(trial, man, woman);
        return best == NONE ? FAR : ways.later(best);
    }

    /** The least so many stairs, with those closed yet, that part the two; or -1. */
    private long partedBy(int man, int woman, long closable, int more, long closed) {
        if (more <= 0) {
            return canTryst(man, woman, closed) ? -1L : closed;
        }
        for (int cell = 0; cell < ground.size; cell++) {
            boolean behindClosed = closed >> cell == 0L;
            if (behindClosed && (closable >> cell & 1L) != 0L) {
                long found = partedBy(man, woman, closable, more - 1, closed | 1L << cell);
                if (found >= 0L) {
                    return found;
                }
            }
        }
        return -1L;
    }

    private boolean canTryst(int man, int woman, long closed) {
        long his = roaming(man, closed);
        return (his & roaming(woman, closed) & nets.stairs() & ~closed) != 0L;
    }

    /** A stair that was made a house is a roof still, so it is closed below alone. */
    private long roaming(int person, long closed) {
        int level = scene.level[person];
        return nets.flood(level, scene.at[person], level == BELOW ? closed : 0L);
    }

    private int stepsToFire(int person) {
        nets.measure(scene.level[person], scene.at[person], ways.first);
        int fewest = FAR;
        for (int side = 0; side < STAYS; side++) {
            int cell = ground.beside(burning, side);
            if (cell != NONE) {
                fewest = Math.min(fewest, ways.first[cell]);
            }
        }
        return fewest;
    }

    private int soonestAtFire(boolean woman) {
        int best = NONE;
        int soonest = FAR;
        for (int person = 0; person < crowd.many; person++) {
            if (crowd.woman(person) == woman && stepsToFire(person) < soonest) {
                soonest = stepsToFire(person);
                best = person;
            }
        }
        return best;
    }

    private void hunt() {
        clock.pass(spare, crowd, ground, law, nets);
        thief.stir(nets);
        thief.record(0, spare.occupied(BELOW, crowd.many), spare.occupied(ABOVE, crowd.many));
        thief.strike(0);
    }

    private boolean slipsBy(int watchers, int level, int cell, int aimLevel, int aim) {
        thief.start(level, cell);
        thief.record(0, scene.guarded(BELOW, watchers), scene.guarded(ABOVE, watchers));
        thief.roam(nets);
        return thief.isIn(aimLevel, aim);
    }

    /** THE TEXT. */
    private static final class Signs {
        static final int END = -1;
        final int[] text;
        int length;
        int value;

        Signs() {
            text = new int[MOST_SIGNS];
        }

        boolean add(int four) {
            if (length < 0 || length > MOST_SIGNS - 4) {
                return false;
            }
            for (int i = 0; i < 4; i++) {
                text[length] = four >> 24 - 8 * i & 255;
                length++;
            }
            return true;
        }

        /** The sign at a place, of a text that may have so many at most. */
        int at(int place, int most) {
            if (place < 0 || place >= length || place >= most || place >= MOST_SIGNS) {
                return END;
            }
            return text[place];
        }

        /** How many digits there are from a place on, of so many at most; their value. */
        int digits(int place, int most, int longest) {
            int many = 0;
            value = 0;
            for (int i = 0; i < longest && many == i; i++) {
                int sign = at(place + i, most);
                if (sign >= '0' && sign <= '9') {
                    value = value * 10 + sign - '0';
                    many++;
                }
            }
            return many;
        }

        static int stepOf(int sign) {
            switch (sign) {
                case 'u':
                    return 0;
                case 'r':
                    return 1;
                case 'd':
                    return 2;
                case 'l':
                    return 3;
                case 'o':
                    return STAYS;
                default:
                    return NONE;
            }
        }

        /** How many signs of a ROUTE there are from a place on; their steps are put into a row. */
        int steps(int place, int most, int[] into, int first) {
            int many = 0;
            for (int i = 0; i < STEPS && many == i; i++) {
                int step = stepOf(at(place + i, most));
                if (step != NONE && first >= 0 && first + i < into.length) {
                    into[first + i] = step;
                    many++;
                }
            }
            return many;
        }
    }

    /** THE TOWN's CELLS. A kind's bit 0 says that it is of the net below, bit 1 above. */
    private static final class Ground {
        final int[] kind;
        final int[] fresh;
        int wide;
        int size;

        Ground() {
            kind = new int[CELLS];
            fresh = new int[CELLS];
            wide = 1;
            size = 1;
            kind[0] = STAIR;
        }

        boolean has(int cell) {
            return cell >= 0 && cell < size && cell < CELLS;
        }

        boolean holds(int level, int cell) {
            return level >= BELOW && level <= ABOVE && cell >= 0 && cell < size && cell < CELLS
                    && (kind[cell] >> level & 1) != 0;
        }

        boolean isStair(int cell) {
            return cell >= 0 && cell < size && cell < CELLS && kind[cell] == STAIR;
        }

        int column(int cell) {
            return wide < 1 ? 0 : cell % wide;
        }

        int line(int cell) {
            return wide < 1 ? 0 : cell / wide;
        }

        /** The next CELL on the map in a direction, or NONE. */
        int beside(int cell, int side) {
            if (cell < 0 || cell >= size || wide < 1) {
                return NONE;
            }
            int column = cell % wide;
            switch (side) {
                case 0:
                    return cell >= wide ? cell - wide : NONE;
                case 1:
                    return column + 1 < wide ? cell + 1 : NONE;
                case 2:
                    return cell + wide < size ? cell + wide : NONE;
                case 3:
                    return column > 0 ? cell - 1 : NONE;
                default:
                    return NONE;
            }
        }

        /** The direction in which the second CELL is the next but one, or NONE. */
        int across(int one, int other) {
            for (int side = 0; side < STAYS; side++) {
                if (other != NONE && beside(beside(one, side), side) == other) {
                    return side;
                }
            }
            return NONE;
        }

        int between(int one, int other) {
            return beside(one, across(one, other));
        }

        int read(Signs text) {
            int cells = 0;
            int column = 0;
            int line = 0;
            int width = SIDE;
            for (int place = 0; place <= MOST_SIGNS; place++) {
                int sign = text.at(place, MOST_SIGNS);
                boolean ends = sign == '/' || sign == Signs.END;
                if (line >= SIDE || !fits(sign, ends, column, line == 0 ? 1 : width, width)) {
                    return -1 - place;
                }
                if (ends) {
                    width = column;
                    column = 0;
                    line++;
                } else if (cells < CELLS) {
                    fresh[cells] = kindOf(sign);
                    cells++;
                    column++;
                }
                if (sign == Signs.END) {
                    return become(width, cells);
                }
            }
            return -1 - MOST_SIGNS;
        }

        private static boolean fits(int sign, boolean ends, int column, int least, int most) {
            return ends ? column >= least : kindOf(sign) != NONE && column < most;
        }

        private static int kindOf(int sign) {
            switch (sign) {
                case '#':
                    return 0;
                case '.':
                    return 1;
                case 'h':
                    return 2;
                case 's':
                    return STAIR;
                default:
                    return NONE;
            }
        }

        private int become(int width, int cells) {
            wide = width;
            size = cells;
            for (int cell = 0; cell < CELLS; cell++) {
                kind[cell] = cell < cells ? fresh[cell] : 0;
            }
            return cells;
        }
    }

    /** What of PEOPLE does not change as MINUTES go by. */
    private static final class Crowd {
        final int[] steps;
        final int[] lengths;
        final int[] cells;
        final int[] way;
        int many;
        int women;
        int newWomen;

        Crowd() {
            steps = new int[FOLK * STEPS];
            lengths = new int[FOLK];
            cells = new int[FOLK];
            way = new int[STEPS];
        }

        void clear() {
            many = 0;
            women = 0;
        }

        boolean has(int person) {
            return person >= 0 && person < many && person < FOLK;
        }

        boolean woman(int person) {
            return (women >> person & 1) != 0;
        }

        int stepAt(int person, int place) {
            if (!has(person) || place < 0 || place >= lengths[person] || place >= STEPS) {
                return STAYS;
            }
            return steps[person * STEPS + place];
        }

        int placeBehind(int person, int place) {
            return has(person) && place + 1 < lengths[person] ? place + 1 : 0;
        }

        int within(int person, int place) {
            if (!has(person)) {
                return 0;
            }
            return Math.max(0, Math.min(place, lengths[person] - 1));
        }

        /** LINES stand behind those who are there till they are admitted, so that a bad one brings nobody. */
        int read(Signs text, Ground ground) {
            if (text.length == 0) {
                return 0;
            }
            newWomen = 0;
            int place = 0;
            for (int lines = 0; lines <= FOLK; lines++) {
                place = readLine(text, ground, many + lines, place);
                if (place < 0) {
                    return place;
                }
                int sign = text.at(place, FOLK_SIGNS);
                if (sign == Signs.END) {
                    return text.length > FOLK_SIGNS ? -1 - FOLK_SIGNS : lines + 1;
                }
                if (sign != ';') {
                    return -1 - place;
                }
                place++;
            }
            return -1 - place;
        }

        private int readLine(Signs text, Ground ground, int person, int place) {
            int sign = text.at(place, FOLK_SIGNS);
            if (person < 0 || person >= FOLK || sign != 'm' && sign != 'w') {
                return -1 - place;
            }
            int level = sign == 'w' ? ABOVE : BELOW;
            int digits = text.digits(place + 1, FOLK_SIGNS, 2);
            int behind = place + 1 + digits;
            if (digits == 0) {
                return -1 - behind;
            }
            if (!ground.holds(level, text.value)) {
                return isCutOff(text, ground, level, behind, digits) ? -1 - behind : -behind;
            }
            if (text.at(behind, FOLK_SIGNS) != ':') {
                return -1 - behind;
            }
            cells[person] = text.value;
            newWomen |= level << person;
            lengths[person] = text.steps(behind + 1, FOLK_SIGNS, steps, person * STEPS);
            int last = behind + 1 + lengths[person];
            return lengths[person] == 0 ? -1 - last : last;
        }

        /** Whether the last sign that counts is the first digit of a CELL that would do. */
        private static boolean isCutOff(Signs text, Ground ground, int level, int behind, int digits) {
            if (digits != 1 || behind != FOLK_SIGNS || text.length <= FOLK_SIGNS) {
                return false;
            }
            for (int digit = 0; digit < 10; digit++) {
                if (ground.holds(level, text.value * 10 + digit)) {
                    return true;
                }
            }
            return false;
        }

        void admit(int lines) {
            many += lines;
            women |= newWomen;
        }

        int tellWay(int person, Signs text) {
            int signs = text.steps(0, MOST_SIGNS, way, 0);
            if (!has(person) || signs == 0 || text.length > signs) {
                return -1 - signs;
            }
            for (int i = 0; i < STEPS; i++) {
                steps[person * STEPS + i] = way[i];
            }
            lengths[person] = signs;
            return signs;
        }
    }

    /** All that undo() and again() bring back. */
    private static final class Scene {
        final int[] at;
        final int[] level;
        final int[] place;
        final int[] meetings;
        final int[] plankOnes;
        final int[] plankOthers;
        int laid;
        int now;
        int news;
        int festive;

        Scene() {
            at = new int[FOLK];
            level = new int[FOLK];
            place = new int[FOLK];
            meetings = new int[FOLK * FOLK];
            plankOnes = new int[PLANKS];
            plankOthers = new int[PLANKS];
        }

        void clear() {
            for (int person = 0; person < FOLK; person++) {
                put(person, 0, BELOW);
            }
            for (int pair = 0; pair < FOLK * FOLK; pair++) {
                meetings[pair] = 0;
            }
            laid = 0;
            now = 0;
            news = 0;
            festive = 0;
        }

        void copy(Scene other) {
            System.arraycopy(other.at, 0, at, 0, FOLK);
            System.arraycopy(other.level, 0, level, 0, FOLK);
            System.arraycopy(other.place, 0, place, 0, FOLK);
            System.arraycopy(other.meetings, 0, meetings, 0, FOLK * FOLK);
            System.arraycopy(other.plankOnes, 0, plankOnes, 0, PLANKS);
            System.arraycopy(other.plankOthers, 0, plankOthers, 0, PLANKS);
            laid = other.laid;
            now = other.now;
            news = other.news;
            festive = other.festive;
        }

        void put(int person, int cell, int itsLevel) {
            at[person] = cell;
            level[person] = itsLevel;
            place[person] = 0;
        }

        /** Who is on a CELL and level (bits). */
        int standing(int itsLevel, int cell, int many) {
            int set = 0;
            for (int person = 0; person < many; person++) {
                if (at[person] == cell && level[person] == itsLevel) {
                    set |= 1 << person;
                }
            }
            return set;
        }

        long occupied(int itsLevel, int many) {
            return guarded(itsLevel, (1 << many) - 1);
        }

        /** CELLS of a level on which some of a set of PEOPLE are. */
        long guarded(int itsLevel, int people) {
            long set = 0L;
            for (int person = 0; person < FOLK; person++) {
                if ((people >> person & 1) != 0 && level[person] == itsLevel) {
                    set |= 1L << at[person];
                }
            }
            return set;
        }

        void addMeeting(int man, int woman) {
            meetings[man * FOLK + woman]++;
        }

        int meetingsOfTwo(int one, int other) {
            return meetings[one * FOLK + other] + meetings[other * FOLK + one];
        }

        int meetingsOf(int person) {
            int sum = 0;
            for (int other = 0; other < FOLK; other++) {
                sum += meetingsOfTwo(person, other);
            }
            return sum;
        }

        int allMeetings() {
            int sum = 0;
            for (int pair = 0; pair < FOLK * FOLK; pair++) {
                sum += meetings[pair];
            }
            return sum;
        }

        boolean addPlank(int one, int other) {
            if (laid < 0 || laid >= PLANKS) {
                return false;
            }
            plankOnes[laid] = one;
            plankOthers[laid] = other;
            laid++;
            return true;
        }

        boolean hasPlank(int one, int other) {
            return (planksAt(one) & planksAt(other)) != 0;
        }

        int planksAt(int cell) {
            int set = 0;
            for (int i = 0; i < laid && i < PLANKS; i++) {
                if (plankOnes[i] == cell || plankOthers[i] == cell) {
                    set |= 1 << i;
                }
            }
            return set;
        }

        boolean isUnderPlank(Ground ground, int cell) {
            for (int i = 0; i < laid && i < PLANKS; i++) {
                if (ground.between(plankOnes[i], plankOthers[i]) == cell) {
                    return true;
                }
            }
            return false;
        }
    }

    /** Both nets as CELLS and PLANKS make them; at first those of one stair. */
    private static final class Nets {
        static final int LINKS = 2 * CELLS * STAYS;
        final long[] net;
        final long[] near;
        final int[] next;

        Nets() {
            net = new long[2];
            near = new long[2 * CELLS];
            next = new int[LINKS];
            net[BELOW] = 1L;
            net[ABOVE] = 1L;
            for (int link = 0; link < LINKS; link++) {
                next[link] = NONE;
            }
        }

        /** The nets of a town; one of its CELLS may be looked at as a stair. */
        void lay(Ground ground, Scene scene, int opened) {
            net[BELOW] = 0L;
            net[ABOVE] = 0L;
            for (int cell = 0; cell < CELLS; cell++) {
                for (int level = BELOW; level <= ABOVE; level++) {
                    if (cell == opened || ground.holds(level, cell)) {
                        net[level] |= 1L << cell;
                    }
                }
            }
            for (int cell = 0; cell < CELLS; cell++) {
                link(ground, BELOW, cell);
                link(ground, ABOVE, cell);
            }
            for (int i = 0; i < scene.laid && i < PLANKS; i++) {
                bridge(ground, scene.plankOnes[i], scene.plankOthers[i]);
                bridge(ground, scene.plankOthers[i], scene.plankOnes[i]);
            }
        }

        private void link(Ground ground, int level, int cell) {
            int node = level * CELLS + cell;
            near[node] = 0L;
            for (int side = 0; side < STAYS; side++) {
                int other = ground.beside(cell, side);
                boolean steps = other != NONE && isOf(level, cell) && isOf(level, other);
                next[node * STAYS + side] = steps ? other : NONE;
                near[node] |= steps ? 1L << other : 0L;
            }
        }

        private void bridge(Ground ground, int one, int other) {
            int side = ground.across(one, other);
            if (side != NONE) {
                next[(CELLS + one) * STAYS + side] = other;
                near[CELLS + one] |= 1L << other;
            }
        }

        boolean isOf(int level, int cell) {
            return (net[level] >> cell & 1L) != 0L;
        }

        long stairs() {
            return net[BELOW] & net[ABOVE];
        }

        /** The CELL to which a step leads, or NONE. */
        int toward(int level, int cell, int step) {
            if (step == STAYS) {
                return cell;
            }
            int link = (level * CELLS + cell) * STAYS + step;
            if (step < 0 || step > STAYS || link < 0 || link >= LINKS) {
                return NONE;
            }
            return next[link];
        }

        /** All CELLS to which one step leads from some of a set. */
        long around(int level, long set) {
            long found = 0L;
            for (int cell = 0; cell < CELLS; cell++) {
                if ((set >> cell & 1L) != 0L) {
                    found |= near[level * CELLS + cell];
                }
            }
            return found;
        }

        /** All CELLS to which one gets from a CELL without stepping on barred ones. */
        long flood(int level, int from, long barred) {
            long found = 1L << from;
            long waiting = found;
            for (int i = 0; i < CELLS && waiting != 0L; i++) {
                int cell = Long.numberOfTrailingZeros(waiting);
                waiting &= waiting - 1L;
                long fresh = cell < CELLS ? near[level * CELLS + cell] & ~found & ~barred : 0L;
                found |= fresh;
                waiting |= fresh;
            }
            return found;
        }

        /** The fewest steps from a CELL to each. */
        void measure(int level, int from, int[] far) {
            for (int cell = 0; cell < CELLS; cell++) {
                far[cell] = FAR;
            }
            long found = 1L << from;
            long front = found;
            for (int steps = 0; steps < CELLS && front != 0L; steps++) {
                for (int cell = 0; cell < CELLS; cell++) {
                    if ((front >> cell & 1L) != 0L) {
                        far[cell] = steps;
                    }
                }
                front = around(level, front) & ~found;
                found |= front;
            }
        }

        /** The least step that leads nearer to where it is measured from, or NONE. */
        int stepNearer(int level, int cell, int[] far) {
            for (int side = 0; side < STAYS; side++) {
                int other = toward(level, cell, side);
                if (other != NONE && far[other] < far[cell]) {
                    return side;
                }
            }
            return NONE;
        }
    }

    /** THE RULE, held with each operation behind what it works on. */
    private static final class Law {
        static final int DEEPEST = 4;
        // above 255, so that no sign of a text can be taken for it
        static final int NEGATED = 256;
        final int[] parts;
        final int[] newParts;
        final int[] waiting;
        final int[] values;
        int size;
        int newSize;
        int waits;
        int top;
        int depth;
        int compared;
        boolean behindThing;

        Law() {
            parts = new int[RULE_SIGNS];
            newParts = new int[RULE_SIGNS];
            waiting = new int[RULE_SIGNS];
            values = new int[RULE_SIGNS];
        }

        int read(Signs text) {
            newSize = 0;
            waits = 0;
            depth = 0;
            compared = 0;
            behindThing = false;
            int place = 0;
            for (int i = 0; i <= RULE_SIGNS && text.length > 0; i++) {
                int sign = text.at(place, RULE_SIGNS);
                if (sign == Signs.END) {
                    if (text.length > RULE_SIGNS || !behindThing || depth > 0) {
                        return -1 - place;
                    }
                    break;
                }
                int used = behindThing ? readBehind(sign) : readThing(text, place, sign);
                if (used == 0) {
                    return -1 - place;
                }
                place += used;
            }
            settle(0);
            System.arraycopy(newParts, 0, parts, 0, RULE_SIGNS);
            size = newSize;
            return 0;
        }

        /** How many signs were read where a thing must stand; 0: none can be. */
        private int readThing(Signs text, int place, int sign) {
            if (sign == '-') {
                hold(NEGATED);
                return 1;
            }
            if (sign == '(' && depth < DEEPEST) {
                depth++;
                compared &= ~(1 << depth);
                hold(sign);
                return 1;
            }
            int digits = text.digits(place, RULE_SIGNS, 3);
            if (digits > 0) {
                emit(text.value);
                behindThing = true;
                return digits;
            }
            if (isQuality(sign)) {
                emit(-sign);
                behindThing = true;
                return 1;
            }
            return 0;
        }

        /** The same behind a thing. */
        private int readBehind(int sign) {
            if (sign == ')' && depth > 0) {
                settle(1);
                waits--;
                depth--;
                return 1;
            }
            int rank = rankOf(sign);
            if (rank == 0 || rank == 2 && (compared >> depth & 1) != 0) {
                return 0;
            }
            if (rank == 2) {
                compared |= 1 << depth;
            }
            settle(rank);
            hold(sign);
            behindThing = false;
            return 1;
        }

        private static boolean isQuality(int sign) {
            switch (sign) {
                case 'm':
                case 'i':
                case 'w':
                case 'x':
                case 'y':
                case 'n':
                case 's':
                case 'k':
                    return true;
                default:
                    return false;
            }
        }

        /** How tightly what waits binds; an open bracket holds all that is behind it together. */
        private static int rankOf(int sign) {
            switch (sign) {
                case '<':
                case '>':
                case '=':
                    return 2;
                case '+':
                case '-':
                    return 3;
                case '*':
                case '/':
                    return 4;
                case NEGATED:
                    return 5;
                default:
                    return 0;
            }
        }

        private void hold(int sign) {
            if (waits >= 0 && waits < RULE_SIGNS) {
                waiting[waits] = sign;
                waits++;
            }
        }

        private void emit(int part) {
            if (newSize >= 0 && newSize < RULE_SIGNS) {
                newParts[newSize] = part;
                newSize++;
            }
        }

        /** All that waits and binds at least so tightly comes now, back to an open bracket. */
        private void settle(int rank) {
            for (int i = 0; i < RULE_SIGNS; i++) {
                if (waits < 1 || waits > RULE_SIGNS || waiting[waits - 1] == '('
                        || rankOf(waiting[waits - 1]) < rank) {
                    return;
                }
                waits--;
                emit(-waiting[waits]);
            }
        }

        /** On a FEAST those women do not go that are above. */
        boolean goes(int person, Scene scene, Crowd crowd, Ground ground) {
            if (scene.festive == 1 && scene.level[person] == ABOVE) {
                return false;
            }
            top = 0;
            for (int i = 0; i < size && i < RULE_SIGNS; i++) {
                int part = parts[i];
                if (part >= 0) {
                    push(part);
                } else if (isQuality(-part)) {
                    push(quality(-part, person, scene, crowd, ground));
                } else {
                    work(-part);
                }
            }
            return size == 0 || pop() != 0;
        }

        private void push(int value) {
            if (top >= 0 && top < RULE_SIGNS) {
                values[top] = value;
                top++;
            }
        }

        private int pop() {
            if (top < 1 || top > RULE_SIGNS) {
                return 0;
            }
            top--;
            return values[top];
        }

        private void work(int sign) {
            int right = pop();
            if (sign == NEGATED) {
                push(-right);
            } else {
                push(joined(pop(), sign, right));
            }
        }

        private static int joined(int left, int sign, int right) {
            switch (sign) {
                case '<':
                    return left < right ? 1 : 0;
                case '>':
                    return left > right ? 1 : 0;
                case '=':
                    return left == right ? 1 : 0;
                case '+':
                    return left + right;
                case '-':
                    return left - right;
                case '*':
                    return left * right;
                case '/':
                    return right == 0 ? 0 : left / right;
                default:
                    return 0;
            }
        }

        private static int quality(int sign, int person, Scene scene, Crowd crowd, Ground ground) {
            int cell = scene.at[person];
            switch (sign) {
                case 'm':
                    return scene.now;
                case 'i':
                    return person;
                case 'w':
                    return crowd.woman(person) ? 1 : 0;
                case 'x':
                    return ground.column(cell);
                case 'y':
                    return ground.line(cell);
                case 'n':
                    return Integer.bitCount(scene.standing(scene.level[person], cell, crowd.many)) - 1;
                case 's':
                    return ground.isStair(cell) ? 1 : 0;
                case 'k':
                    return scene.news >> person & 1;
                default:
                    return 0;
            }
        }
    }

    /** How a MINUTE goes by. */
    private static final class Clock {
        int stepped;
        int got;
        int meetings;
        int allSteps;
        int allMeetings;

        void reset() {
            allSteps = 0;
            allMeetings = 0;
        }

        void pass(Scene scene, Crowd crowd, Ground ground, Law law, Nets nets) {
            stepped = 0;
            for (int person = 0; person < crowd.many; person++) {
                if (law.goes(person, scene, crowd, ground)) {
                    move(person, scene, crowd, nets);
                }
            }
            meetings = 0;
            for (int man = 0; man < crowd.many; man++) {
                greet(man, scene, crowd, ground);
            }
            int knew = scene.news;
            for (int person = 0; person < crowd.many; person++) {
                if ((knew >> person & 1) != 0) {
                    scene.news |= hearers(person, scene, crowd, ground);
                }
            }
            got = scene.news & ~knew;
            scene.now++;
            allSteps += Integer.bitCount(stepped);
            allMeetings += meetings;
        }

        private void move(int person, Scene scene, Crowd crowd, Nets nets) {
            int step = crowd.stepAt(person, scene.place[person]);
            int to = nets.toward(scene.level[person], scene.at[person], step);
            if (to != NONE && to != scene.at[person]) {
                scene.at[person] = to;
                stepped |= 1 << person;
            }
            scene.place[person] = crowd.placeBehind(person, scene.place[person]);
        }

        private void greet(int man, Scene scene, Crowd crowd, Ground ground) {
            if (crowd.woman(man) || !ground.isStair(scene.at[man])) {
                return;
            }
            for (int woman = 0; woman < crowd.many; woman++) {
                if (crowd.woman(woman) && scene.at[woman] == scene.at[man]) {
                    scene.addMeeting(man, woman);
                    meetings++;
                }
            }
        }

        /** To whom one gives THE NEWS (bits). */
        private int hearers(int person, Scene scene, Crowd crowd, Ground ground) {
            int cell = scene.at[person];
            int level = scene.level[person];
            int set = scene.standing(level, cell, crowd.many);
            if (ground.isStair(cell)) {
                set |= scene.standing(1 - level, cell, crowd.many);
            }
            if (level == ABOVE) {
                for (int side = 0; side < STAYS; side++) {
                    set |= scene.standing(BELOW, ground.beside(cell, side), crowd.many);
                }
            }
            return set;
        }
    }

    /** What can be undone, and what is kept. */
    private static final class History {
        static final int LONGEST_PAST = 12;
        static final int SHELVES = 2;
        final Scene[] past;
        final Scene[] shelves;
        int many;
        int filled;

        History() {
            past = new Scene[LONGEST_PAST];
            shelves = new Scene[SHELVES];
            for (int i = 0; i < LONGEST_PAST; i++) {
                past[i] = new Scene();
            }
            for (int i = 0; i < SHELVES; i++) {
                shelves[i] = new Scene();
            }
        }

        void clear() {
            forget();
            spoil();
        }

        void forget() {
            many = 0;
        }

        /** What is kept fits no more. */
        void spoil() {
            filled = 0;
        }

        void add(Scene scene) {
            if (many >= LONGEST_PAST) {
                Scene oldest = past[0];
                for (int i = 1; i < LONGEST_PAST; i++) {
                    past[i - 1] = past[i];
                }
                past[LONGEST_PAST - 1] = oldest;
                many = LONGEST_PAST - 1;
            }
            past[many].copy(scene);
            many++;
        }

        boolean back(Scene scene) {
            if (many < 1 || many > LONGEST_PAST) {
                return false;
            }
            many--;
            scene.copy(past[many]);
            return true;
        }

        boolean store(int shelf, Scene scene) {
            if (shelf < 0 || shelf >= SHELVES) {
                return false;
            }
            shelves[shelf].copy(scene);
            filled |= 1 << shelf;
            return true;
        }

        boolean restore(int shelf, Scene scene) {
            if (shelf < 0 || shelf >= SHELVES || (filled >> shelf & 1) == 0) {
                return false;
            }
            scene.copy(shelves[shelf]);
            return true;
        }
    }

    /** ACTS of AN EVENING. */
    private static final class Acts {
        static final int MOST = 32;
        final int[] kinds;
        final int[] ones;
        final int[] others;
        int many;

        Acts() {
            kinds = new int[MOST];
            ones = new int[MOST];
            others = new int[MOST];
        }

        int read(Signs text) {
            many = 0;
            if (text.length == 0) {
                return 0;
            }
            int place = 0;
            for (int i = 0; i < MOST; i++) {
                place = readAct(text, place);
                if (place < 0) {
                    return place;
                }
                int sign = text.at(place, EVENING_SIGNS);
                if (sign == Signs.END) {
                    return text.length > EVENING_SIGNS ? -1 - EVENING_SIGNS : many;
                }
                if (sign != ';') {
                    return -1 - place;
                }
                place++;
            }
            return -1 - place;
        }

        private int readAct(Signs text, int place) {
            int kind = text.at(place, EVENING_SIGNS);
            switch (kind) {
                case 'x':
                case 'f':
                    add(kind, 0, 0);
                    return place + 1;
                case 'n':
                    return readLetter(text, place + 1);
                case 'm':
                    return readNumber(text, place + 1);
                case 'p':
                    return readPlank(text, place + 1);
                default:
                    return -1 - place;
            }
        }

        private int readLetter(Signs text, int place) {
            int sign = text.at(place, EVENING_SIGNS);
            if (sign < 'a' || sign > 'h') {
                return -1 - place;
            }
            add('n', sign - 'a', 0);
            return place + 1;
        }

        private int readNumber(Signs text, int place) {
            int digits = text.digits(place, EVENING_SIGNS, 2);
            if (digits == 0) {
                return -1 - place;
            }
            add('m', text.value, 0);
            return place + digits;
        }

        private int readPlank(Signs text, int place) {
            int digits = text.digits(place, EVENING_SIGNS, 2);
            int one = text.value;
            int dash = place + digits;
            if (digits == 0 || text.at(dash, EVENING_SIGNS) != '-') {
                return -1 - dash;
            }
            digits = text.digits(dash + 1, EVENING_SIGNS, 2);
            if (digits == 0) {
                return -2 - dash;
            }
            add('p', one, text.value);
            return dash + 1 + digits;
        }

        private void add(int kind, int one, int other) {
            if (many >= 0 && many < MOST) {
                kinds[many] = kind;
                ones[many] = one;
                others[many] = other;
                many++;
            }
        }
    }

    /** Where a thief may be. */
    private static final class Thief {
        final long[] takenBelow;
        final long[] takenAbove;
        long below;
        long above;

        Thief() {
            takenBelow = new long[FLIGHT];
            takenAbove = new long[FLIGHT];
        }

        void start(int level, int cell) {
            below = level == BELOW ? 1L << cell : 0L;
            above = level == ABOVE ? 1L << cell : 0L;
        }

        void record(int when, long low, long high) {
            if (when >= 0 && when < FLIGHT) {
                takenBelow[when] = low;
                takenAbove[when] = high;
            }
        }

        /** It is caught where somebody was then. */
        void strike(int when) {
            if (when >= 0 && when < FLIGHT) {
                below &= ~takenBelow[when];
                above &= ~takenAbove[when];
            }
        }

        /** It steps, stays, or changes level; its ways lead back too, so this looks backward as well. */
        void stir(Nets nets) {
            long low = below | nets.around(BELOW, below) | above & nets.stairs();
            long high = above | nets.around(ABOVE, above) | below & nets.stairs();
            below = low;
            above = high;
        }

        /** All where it gets if those recorded first never go; who stands where it starts does not bar it. */
        void roam(Nets nets) {
            for (int i = 0; i < 2 * CELLS; i++) {
                long low = below;
                long high = above;
                stir(nets);
                below = below & ~takenBelow[0] | low;
                above = above & ~takenAbove[0] | high;
                if (below == low && above == high) {
                    return;
                }
            }
        }

        boolean isIn(int level, int cell) {
            return ((level == ABOVE ? above : below) >> cell & 1L) != 0L;
        }

        boolean gone() {
            return (below | above) == 0L;
        }
    }

    /** Fewest steps where more than a net's own steps lead on. */
    private static final class Ways {
        static final int DEAR = 100;
        static final int SIDES = 5;
        final int[] first;
        final int[] second;
        final int[] third;
        final int[] price;
        final int[] pairFar;
        final int[] queue;

        Ways() {
            first = new int[CELLS];
            second = new int[CELLS];
            third = new int[CELLS];
            price = new int[2 * CELLS];
            pairFar = new int[CELLS * SIDES];
            queue = new int[CELLS * SIDES];
        }

        /** When both of two are on a CELL, each so far from it as measured. */
        int later(int cell) {
            return Math.max(first[cell], second[cell]);
        }

        private void begin(int node) {
            for (int i = 0; i < 2 * CELLS; i++) {
                price[i] = FAR;
            }
            price[node] = 0;
        }

        private boolean lower(int node, int offer) {
            if (offer >= price[node]) {
                return false;
            }
            price[node] = offer;
            return true;
        }

        /** DEAR a step and 1 more for one above, from a CELL and level to another. */
        int acrossLevels(Nets nets, int from, int to) {
            begin(from);
            boolean changed = true;
            for (int i = 0; i < 2 * CELLS && changed; i++) {
                changed = false;
                for (int cell = 0; cell < CELLS; cell++) {
                    changed |= leave(nets, BELOW, cell);
                    changed |= leave(nets, ABOVE, cell);
                }
            }
            return price[to];
        }

        private boolean leave(Nets nets, int level, int cell) {
            int here = price[level * CELLS + cell];
            if (here >= FAR) {
                return false;
            }
            boolean changed = false;
            for (int side = 0; side < STAYS; side++) {
                int other = nets.toward(level, cell, side);
                if (other != NONE) {
                    changed |= lower(level * CELLS + other, here + DEAR + level);
                }
            }
            if ((nets.stairs() >> cell & 1L) != 0L) {
                changed |= lower((1 - level) * CELLS + cell, here);
            }
            return changed;
        }

        /** DEAR a new PLANK and 1 a step, from a roof to another. */
        int bridged(Ground ground, Nets nets, int from, int to) {
            begin(from);
            boolean changed = true;
            for (int i = 0; i < CELLS && changed; i++) {
                changed = false;
                for (int cell = 0; cell < CELLS; cell++) {
                    changed |= price[cell] < FAR && cross(ground, nets, cell);
                }
            }
            return price[to];
        }

        private boolean cross(Ground ground, Nets nets, int cell) {
            boolean changed = false;
            for (int side = 0; side < STAYS; side++) {
                int other = nets.toward(ABOVE, cell, side);
                int beyond = ground.beside(ground.beside(cell, side), side);
                if (other != NONE) {
                    changed |= lower(other, price[cell] + 1);
                } else if (ground.holds(ABOVE, beyond)) {
                    changed |= lower(beyond, price[cell] + DEAR + 1);
                }
            }
            return changed;
        }

        /** The fewest MINUTES from where two carry a wardrobe to where both are on a stair. */
        void measurePairs(Ground ground, int stair) {
            for (int i = 0; i < CELLS * SIDES; i++) {
                pairFar[i] = FAR;
            }
            queue[0] = stair * SIDES + STAYS;
            pairFar[queue[0]] = 0;
            int found = 1;
            for (int i = 0; i < found && i < CELLS * SIDES; i++) {
                for (int steps = 0; steps < SIDES * SIDES; steps++) {
                    int after = pairAfter(ground, queue[i], steps);
                    if (after != NONE && pairFar[after] >= FAR && found < CELLS * SIDES) {
                        pairFar[after] = pairFar[queue[i]] + 1;
                        queue[found] = after;
                        found++;
                    }
                }
            }
        }

        /** Steps, SIDES times the one below and the one above, the least ones that lead nearer. */
        int pairNearer(Ground ground, int pair) {
            for (int steps = 0; steps < SIDES * SIDES; steps++) {
                int after = pairAfter(ground, pair, steps);
                if (after != NONE && pairFar[after] < pairFar[pair]) {
                    return steps;
                }
            }
            return NONE;
        }

        /** A pair is SIDES times the CELL below, and on which side of it the one above is. */
        int pairAfter(Ground ground, int pair, int steps) {
            int low = pair / SIDES;
            int high = toSide(ground, low, pair % SIDES);
            int lowTo = toSide(ground, low, steps / SIDES);
            int highTo = toSide(ground, high, steps % SIDES);
            if (!ground.holds(BELOW, lowTo) || !ground.holds(ABOVE, highTo)) {
                return NONE;
            }
            for (int side = 0; side < SIDES; side++) {
                if (toSide(ground, lowTo, side) == highTo) {
                    return lowTo * SIDES + side;
                }
            }
            return NONE;
        }

        private static int toSide(Ground ground, int cell, int side) {
            return side == STAYS ? cell : ground.beside(cell, side);
        }
    }
}
