import java.util.ArrayDeque;
import java.util.ArrayList;
import java.util.Comparator;
import java.util.Deque;
import java.util.IdentityHashMap;
import java.util.LinkedHashSet;
import java.util.List;
import java.util.Map;
import java.util.TreeMap;
import java.util.TreeSet;

/**
 * The document told a second time, with objects and collections in place of rows of numbers,
 * so that ModelTest can hold PauseRegions against it. It also counts which rare cases runs came to.
 */
final class Model {
    static final int BAD = -1, STATE = -2, FULL = -3, NIL = -5, NONE = -9;

    enum Kind { FREE, YOUNG, OLD, BIG, REST }

    enum Colour { WHITE, GREY, BLACK }

    static final class Thing {
        final int number;
        final int size;
        int region;
        int cell;
        Thing[] field = new Thing[2];
        Colour colour = Colour.WHITE;

        Thing(int number, int size) {
            this.number = number;
            this.size = size;
        }

        int card() {
            return region * 2 + (cell >= 4 ? 1 : 0);
        }
    }

    static final class Region {
        Kind kind = Kind.FREE;
        int top = 0;
        Integer live = null;
        TreeSet<Integer> remembers = new TreeSet<>();
    }

    static final class State {
        TreeMap<Integer, Thing> things = new TreeMap<>();
        Region[] regions = new Region[10];
        Thing[] roots = new Thing[6];
        LinkedHashSet<Integer> dirty = new LinkedHashSet<>();
        List<Thing> grey = new ArrayList<>();
        boolean marking = false;
        Integer lastYoung = null;
        float rate = 1f;
        float yield = 0.5f;
        int pauses = 0;
        Integer cost = null;

        State() {
            for (int r = 0; r < 10; r++) {
                regions[r] = new Region();
            }
        }

        State copy() {
            State s = new State();
            Map<Thing, Thing> twin = new IdentityHashMap<>();
            for (Thing t : things.values()) {
                Thing c = new Thing(t.number, t.size);
                c.region = t.region;
                c.cell = t.cell;
                c.colour = t.colour;
                twin.put(t, c);
                s.things.put(c.number, c);
            }
            for (Thing t : things.values()) {
                for (int f = 0; f < 2; f++) {
                    twin.get(t).field[f] = t.field[f] == null ? null : twin.get(t.field[f]);
                }
            }
            for (int r = 0; r < 10; r++) {
                s.regions[r].kind = regions[r].kind;
                s.regions[r].top = regions[r].top;
                s.regions[r].live = regions[r].live;
                s.regions[r].remembers.addAll(regions[r].remembers);
            }
            for (int r = 0; r < 6; r++) {
                s.roots[r] = roots[r] == null ? null : twin.get(roots[r]);
            }
            s.dirty.addAll(dirty);
            for (Thing t : grey) {
                s.grey.add(twin.get(t));
            }
            s.marking = marking;
            s.lastYoung = lastYoung;
            s.rate = rate;
            s.yield = yield;
            s.pauses = pauses;
            s.cost = cost;
            return s;
        }

        List<Thing> inRegion(int r) {
            List<Thing> all = new ArrayList<>();
            for (Thing t : things.values()) {
                if (t.region == r) {
                    all.add(t);
                }
            }
            return all;
        }

        List<Thing> onCard(int card) {
            List<Thing> all = new ArrayList<>();
            for (Thing t : things.values()) {
                if (t.card() == card) {
                    all.add(t);
                }
            }
            all.sort(Comparator.comparingInt(t -> t.cell));
            return all;
        }
    }

    private State s = new State();
    private final Deque<State> past = new ArrayDeque<>();
    private final State[] images = new State[2];
    /** Rare cases, and how often runs came to them. */
    final TreeMap<String, Integer> seen;

    Model(TreeMap<String, Integer> seen) {
        this.seen = seen;
    }

    private void saw(String what) {
        seen.merge(what, 1, Integer::sum);
    }

    private void sawIf(boolean holds, String what) {
        if (holds) {
            saw(what);
        }
    }

    private void done() {
        past.addLast(s.copy());
        if (past.size() > 6) {
            past.removeFirst();
        }
    }

    private static int number(Thing t) {
        return t == null ? NIL : t.number;
    }

    // ---- the program

    int makes(int size, int root) {
        if (size < 1 || size > 24 || root < 0 || root > 5) {
            return BAD;
        }
        int number = 0;
        while (s.things.containsKey(number)) {
            number++;
        }
        if (number > 31) {
            saw("makes: no number");
            return FULL;
        }
        int need = (size + 7) / 8;
        boolean small = size <= 4;
        boolean inLast = small && s.lastYoung != null && 8 - s.regions[s.lastYoung].top >= size;
        int at = inLast ? s.lastYoung : lowestFreeRow(need);
        if (at < 0) {
            saw(small ? "makes: no room, small" : "makes: no room, " + need + " regions");
            return FULL;
        }
        done();
        Thing t = new Thing(number, size);
        t.region = at;
        t.cell = small ? s.regions[at].top : 0;
        t.colour = Colour.BLACK;
        s.things.put(number, t);
        s.roots[root] = t;
        if (small) {
            s.regions[at].kind = Kind.YOUNG;
            s.regions[at].top += size;
            s.lastYoung = at;
        } else {
            for (int i = 0; i < need; i++) {
                s.regions[at + i].kind = i == 0 ? Kind.BIG : Kind.REST;
                s.regions[at + i].top = 8;
            }
        }
        sawIf(s.marking, "makes: beside marking");
        return number;
    }

    private int lowestFreeRow(int need) {
        for (int r = 0; r + need <= 10; r++) {
            boolean all = true;
            for (int i = 0; i < need; i++) {
                all &= s.regions[r + i].kind == Kind.FREE;
            }
            if (all) {
                return r;
            }
        }
        return -1;
    }

    int writes(int a, int field, int b) {
        if (a < 0 || a > 5 || field < 0 || field > 1 || b < -1 || b > 5) {
            return BAD;
        }
        if (s.roots[a] == null) {
            return STATE;
        }
        done();
        Thing t = s.roots[a];
        Thing was = t.field[field];
        if (s.marking && was != null) {
            sawIf(was.colour == Colour.WHITE, "writes: keeps what was there");
            shade(was);
        }
        Thing now = b < 0 ? null : s.roots[b];
        t.field[field] = now;
        if (now != null && now.region != t.region && s.regions[t.region].kind != Kind.YOUNG) {
            boolean added = s.dirty.add(t.card());
            saw(added ? "writes: a card" : "writes: a card that is dirty already");
            return added ? 1 : 0;
        }
        return 0;
    }

    int takes(int a, int b, int field) {
        if (a < 0 || a > 5 || b < 0 || b > 5 || field < 0 || field > 1) {
            return BAD;
        }
        if (s.roots[b] == null) {
            return STATE;
        }
        done();
        s.roots[a] = s.roots[b].field[field];
        return number(s.roots[a]);
    }

    int sets(int a, int b) {
        if (a < 0 || a > 5 || b < -1 || b > 5) {
            return BAD;
        }
        done();
        int was = number(s.roots[a]);
        s.roots[a] = b == -1 ? null : s.roots[b];
        return was;
    }

    // ---- beside it

    int refines(int n) {
        if (n < 1 || n > 20) {
            return BAD;
        }
        if (s.dirty.isEmpty()) {
            return STATE;
        }
        done();
        int k = 0;
        while (k < n && !s.dirty.isEmpty()) {
            refine(s, s.dirty.iterator().next());
            k++;
        }
        sawIf(!s.dirty.isEmpty(), "refines: some are left");
        return k;
    }

    private static void refine(State s, int card) {
        s.dirty.remove(card);
        for (Thing t : s.onCard(card)) {
            for (Thing f : t.field) {
                if (f != null && f.region != card / 2) {
                    s.regions[f.region].remembers.add(card);
                }
            }
        }
    }

    private static void becomesFree(State s, int r) {
        List<Integer> all = new ArrayList<>(List.of(r));
        if (s.regions[r].kind == Kind.BIG) {
            for (int x = r + 1; x < 10 && s.regions[x].kind == Kind.REST; x++) {
                all.add(x);
            }
        }
        for (int x : all) {
            s.regions[x] = new Region();
            for (int card = 2 * x; card <= 2 * x + 1; card++) {
                s.dirty.remove(card);
                for (Region other : s.regions) {
                    other.remembers.remove(card);
                }
            }
        }
    }

    private static void noMore(State s, Thing gone) {
        s.things.remove(gone.number);
        for (Thing t : s.things.values()) {
            for (int f = 0; f < 2; f++) {
                if (t.field[f] == gone) {
                    t.field[f] = null;
                }
            }
        }
    }

    private void shade(Thing t) {
        if (t != null && t.colour == Colour.WHITE) {
            t.colour = Colour.GREY;
            s.grey.add(t);
        }
    }

    int begins() {
        if (s.marking) {
            return STATE;
        }
        done();
        s.marking = true;
        for (Thing t : s.things.values()) {
            t.colour = Colour.WHITE;
        }
        for (Thing t : s.roots) {
            shade(t);
        }
        if (s.grey.isEmpty()) {
            saw("begins: ends at once");
            markingEnds();
        }
        return s.grey.size();
    }

    int steps(int n) {
        if (n < 1 || n > 32) {
            return BAD;
        }
        if (!s.marking) {
            return STATE;
        }
        done();
        for (int i = 0; i < n && s.marking; i++) {
            Thing t = s.grey.remove(0);
            t.colour = Colour.BLACK;
            shade(t.field[0]);
            shade(t.field[1]);
            if (s.grey.isEmpty()) {
                markingEnds();
            }
        }
        return s.grey.size();
    }

    private void markingEnds() {
        s.marking = false;
        boolean[] black = new boolean[10];
        int[] cells = new int[10];
        for (Thing t : s.things.values()) {
            if (t.colour == Colour.BLACK) {
                black[t.region] = true;
                cells[t.region] += t.size;
            }
        }
        for (int r = 0; r < 10; r++) {
            if (s.regions[r].kind == Kind.OLD) {
                sawIf(s.regions[r].live != null && s.regions[r].live != cells[r], "marking: live known anew");
                s.regions[r].live = cells[r];
            }
        }
        for (int r = 0; r < 10; r++) {
            Kind k = s.regions[r].kind;
            if ((k == Kind.OLD || k == Kind.BIG) && !black[r]) {
                saw("marking: frees " + k);
                sawIf(k == Kind.BIG && r < 9 && s.regions[r + 1].kind == Kind.REST, "marking: frees rests");
                for (Thing t : s.inRegion(r)) {
                    sawIf(s.things.values().stream().anyMatch(
                            o -> o.region != t.region && (o.field[0] == t || o.field[1] == t)),
                            "marking: a field becomes nil");
                    noMore(s, t);
                }
                becomesFree(s, r);
            }
        }
        for (Thing t : s.roots) {
            sawIf(t != null && s.things.get(t.number) != t, "NEVER: a root is a thing that is no more");
        }
    }

    // ---- pauses

    private static final class Choosing {
        List<Integer> chosen = new ArrayList<>();
        float foretold;
        int y = 0;
    }

    private Choosing choose(State st, int goal) {
        Choosing c = new Choosing();
        List<Integer> old = new ArrayList<>();
        for (int r = 0; r < 10; r++) {
            Region g = st.regions[r];
            if (g.kind == Kind.YOUNG) {
                c.chosen.add(r);
                c.y += g.top;
            }
            if (g.kind == Kind.OLD && g.live != null && g.top - g.live >= 2) {
                old.add(r);
            }
        }
        c.foretold = 10f + st.rate * (st.yield * (float) c.y);
        old.sort(Comparator.comparingInt((Integer r) -> -(st.regions[r].top - st.regions[r].live))
                .thenComparingInt(r -> r));
        int taken = 0;
        for (int r : old) {
            float next = c.foretold + st.rate * (float) (int) st.regions[r].live;
            if (next > (float) goal) {
                sawIf(taken > 0, "chooses: the goal cuts behind some");
                break;
            }
            c.foretold = next;
            c.chosen.add(r);
            taken++;
        }
        sawIf(taken > 0, "chooses: an old one");
        sawIf(taken > 1, "chooses: several old ones");
        return c;
    }

    private static final class Finding {
        final State st;
        final TreeSet<Integer> chosen;
        final List<Thing> row = new ArrayList<>();
        final Map<Thing, Boolean> young = new IdentityHashMap<>();

        Finding(State st, List<Integer> chosen) {
            this.st = st;
            this.chosen = new TreeSet<>(chosen);
            for (Thing t : st.things.values()) {
                if (this.chosen.contains(t.region)) {
                    young.put(t, st.regions[t.region].kind == Kind.YOUNG);
                }
            }
        }

        /** Only what lay in a CHOSEN REGION ahead of the PAUSE has an entry in young. */
        boolean find(Thing t) {
            if (t == null || !young.containsKey(t) || row.contains(t)) {
                return false;
            }
            row.add(t);
            return true;
        }
    }

    private int pause(State st, int goal) {
        for (int card : new ArrayList<>(st.dirty)) {
            refine(st, card);
        }
        Choosing c = choose(st, goal);
        Finding f = new Finding(st, c.chosen);
        for (Thing t : st.roots) {
            f.find(t);
        }
        for (Thing t : st.grey) {
            sawIf(f.find(t), "pauses: found by grey");
        }
        TreeSet<Integer> scanned = new TreeSet<>();
        for (int r : c.chosen) {
            scanned.addAll(st.regions[r].remembers);
        }
        sawIf(scanned.removeIf(card -> c.chosen.contains(card / 2)), "pauses: a chosen card is not scanned");
        for (int card : scanned) {
            List<Thing> on = st.onCard(card);
            sawIf(on.size() > 1 && on.get(0).number > on.get(1).number, "pauses: cells are not as numbers");
            for (Thing t : on) {
                sawIf(f.find(t.field[0]), "pauses: found by a card");
                f.find(t.field[1]);
            }
        }
        List<Thing> stay = new ArrayList<>();
        int copied = 0;
        Integer into = null;
        for (int i = 0; i < f.row.size(); i++) {
            Thing t = f.row.get(i);
            if (into == null || st.regions[into].top + t.size > 8) {
                Integer free = null;
                for (int r = 9; r >= 0; r--) {
                    if (st.regions[r].kind == Kind.FREE) {
                        free = r;
                    }
                }
                if (free == null) {
                    stay.add(t);
                } else {
                    into = free;
                    st.regions[into].kind = Kind.OLD;
                }
            }
            if (!stay.contains(t)) {
                sawIf(!stay.isEmpty(), "pauses: copied behind one that stays");
                t.region = into;
                t.cell = st.regions[into].top;
                st.regions[into].top += t.size;
                copied += t.size;
            }
            f.find(t.field[0]);
            f.find(t.field[1]);
        }
        sawIf(!stay.isEmpty(), "pauses: some stay");
        sawIf(!stay.isEmpty() && copied > 0, "pauses: some stay, some are copied");
        for (Thing t : f.row) {
            st.dirty.add(t.card());
        }
        st.dirty.addAll(scanned);
        for (int r : new TreeSet<>(c.chosen)) {
            boolean any = false;
            for (Thing t : st.inRegion(r)) {
                if (stay.contains(t)) {
                    any = true;
                } else {
                    noMore(st, t);
                }
            }
            if (any) {
                sawIf(st.regions[r].live != null, "pauses: one stays in an old region");
                st.regions[r].kind = Kind.OLD;
                st.regions[r].live = null;
            } else {
                becomesFree(st, r);
            }
        }
        st.lastYoung = null;
        int cost = 10 + copied + 2 * scanned.size() + 5 * stay.size();
        int n = 0;
        int x = 0;
        for (Thing t : f.row) {
            n += t.size;
            x += f.young.get(t) ? t.size : 0;
        }
        if (n > 0) {
            st.rate = 0.75f * st.rate + 0.25f * ((float) (cost - 10) / (float) n);
        }
        if (c.y > 0) {
            st.yield = 0.75f * st.yield + 0.25f * ((float) x / (float) c.y);
        }
        st.pauses++;
        st.cost = cost;
        sawIf(st.marking, "pauses: beside marking");
        for (Thing t : st.roots) {
            sawIf(t != null && st.things.get(t.number) != t, "NEVER: a root is a thing that is no more");
        }
        for (Thing t : st.grey) {
            sawIf(st.things.get(t.number) != t, "NEVER: a grey thing is no more");
        }
        return cost;
    }

    int pauses(int goal) {
        if (goal < 0 || goal > 999) {
            return BAD;
        }
        done();
        return pause(s, goal);
    }

    int undo() {
        if (past.isEmpty()) {
            return STATE;
        }
        s = past.removeLast();
        return past.size();
    }

    // ---- asked

    int root(int r) {
        return r < 0 || r > 5 ? BAD : number(s.roots[r]);
    }

    int thing(int t, int what) {
        if (t < 0 || t > 31 || what < 0 || what > 5) {
            return BAD;
        }
        Thing x = s.things.get(t);
        if (x == null) {
            return NONE;
        }
        int colour = s.marking ? x.colour.ordinal() : NONE;
        return new int[] {x.size, x.region, x.cell, number(x.field[0]), number(x.field[1]), colour}[what];
    }

    int region(int r, int what) {
        if (r < 0 || r > 9 || what < 0 || what > 4) {
            return BAD;
        }
        Region g = s.regions[r];
        int live = g.live == null ? NONE : g.live;
        return new int[] {g.kind.ordinal(), g.top, live, s.inRegion(r).size(), g.remembers.size()}[what];
    }

    int remembers(int r, int card) {
        if (r < 0 || r > 9 || card < 0 || card > 19) {
            return BAD;
        }
        return s.regions[r].remembers.contains(card) ? 1 : 0;
    }

    int dirty(int i) {
        if (i < 0) {
            return BAD;
        }
        return i < s.dirty.size() ? new ArrayList<>(s.dirty).get(i) : NONE;
    }

    int grey(int i) {
        if (i < 0) {
            return BAD;
        }
        return i < s.grey.size() ? s.grey.get(i).number : NONE;
    }

    int learnt(int what) {
        if (what < 0 || what > 1) {
            return BAD;
        }
        return (int) (100f * (what == 0 ? s.rate : s.yield));
    }

    // ---- what would be

    int chooses(int goal) {
        if (goal < 0 || goal > 999) {
            return BAD;
        }
        int bits = 0;
        for (int r : choose(s, goal).chosen) {
            bits |= 1 << r;
        }
        return bits;
    }

    int foretold(int goal) {
        return goal < 0 || goal > 999 ? BAD : (int) (100f * choose(s, goal).foretold);
    }

    int would(int goal) {
        return goal < 0 || goal > 999 ? BAD : pause(s.copy(), goal);
    }

    private TreeSet<Integer> reached() {
        TreeSet<Integer> all = new TreeSet<>();
        Deque<Thing> open = new ArrayDeque<>();
        for (Thing t : s.roots) {
            if (t != null) {
                open.add(t);
            }
        }
        while (!open.isEmpty()) {
            Thing t = open.pop();
            if (all.add(t.number)) {
                for (Thing f : t.field) {
                    if (f != null) {
                        open.push(f);
                    }
                }
            }
        }
        return all;
    }

    int rubbish(int what) {
        if (what < 0 || what > 1) {
            return BAD;
        }
        TreeSet<Integer> reached = reached();
        int sum = 0;
        for (Thing t : s.things.values()) {
            if (!reached.contains(t.number)) {
                sum += what == 0 ? 1 : t.size;
            }
        }
        return sum;
    }

    /** Forward, level by level: of each THING the least row of numbers among the shortest ones. */
    int way(int t, int k) {
        if (!s.things.containsKey(t) || k < -1) {
            return BAD;
        }
        Map<Integer, List<Integer>> best = new TreeMap<>();
        Map<Integer, List<Integer>> level = new TreeMap<>();
        for (Thing r : s.roots) {
            if (r != null) {
                level.put(r.number, List.of(r.number));
            }
        }
        while (!level.isEmpty()) {
            best.putAll(level);
            Map<Integer, List<Integer>> next = new TreeMap<>();
            for (Map.Entry<Integer, List<Integer>> e : level.entrySet()) {
                for (Thing f : s.things.get(e.getKey()).field) {
                    if (f != null && !best.containsKey(f.number)) {
                        List<Integer> longer = new ArrayList<>(e.getValue());
                        longer.add(f.number);
                        List<Integer> known = next.get(f.number);
                        if (known == null || less(longer, known)) {
                            next.put(f.number, longer);
                        }
                    }
                }
            }
            level = next;
        }
        List<Integer> way = best.get(t);
        if (way == null) {
            return NONE;
        }
        sawIf(way.size() > 3, "way: longer than 3");
        return k == -1 ? way.size() : k < way.size() ? way.get(k) : NONE;
    }

    private static boolean less(List<Integer> a, List<Integer> b) {
        for (int i = 0; i < a.size(); i++) {
            if (!a.get(i).equals(b.get(i))) {
                return a.get(i) < b.get(i);
            }
        }
        return false;
    }

    // ---- images

    int keep(int image) {
        if (image < 0 || image > 1) {
            return BAD;
        }
        images[image] = s.copy();
        return s.things.size();
    }

    int back(int image) {
        if (image < 0 || image > 1) {
            return BAD;
        }
        if (images[image] == null) {
            return STATE;
        }
        s = images[image].copy();
        past.clear();
        return s.things.size();
    }

    int count(int what) {
        if (what < 0 || what > 8) {
            return BAD;
        }
        int free = 0;
        int young = 0;
        for (Region r : s.regions) {
            free += r.kind == Kind.FREE ? 1 : 0;
            young += r.kind == Kind.YOUNG ? 1 : 0;
        }
        return new int[] {s.things.size(), free, young, s.dirty.size(), s.grey.size(), s.marking ? 1 : 0,
            s.pauses, s.cost == null ? NONE : s.cost, past.size()}[what];
    }
}
